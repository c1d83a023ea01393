/-! LeadPark$Tape() -/
theorem inX8_init_X8 : ∀ w ∈ wsX80, w ∈ wsX8_init := fun _ h => List.mem_cons_of_mem _ (List.mem_append_right _ h)
theorem iniX8 : ∀ j, j < 6 → defaultValue (tyX8 j) = vp_V [.null, .int 0, .int 0, .int 0, .int 0, .int 0] j := by intro j hj; rcases (show j = 0 ∨ j = 1 ∨ j = 2 ∨ j = 3 ∨ j = 4 ∨ j = 5 by omega) with rfl | rfl | rfl | rfl | rfl | rfl <;> rfl
abbrev rmX8_init : Room := { frames := 1, cells := 1, slots := 400, locals := 24 }
def iX8 (dC : Nat → ClassId) (dI : Nat → Nat → Nat) (cyI cyB cyJ cyZ : ClassId) (A : Nat → Prop) (a0 : Nat) (t : State) : Prop := ∃ (q1 : Nat), wAt dC dI cyI cyB cyJ cyZ A [(a0, .inr (8, [.ref q1, .int 0, .int 0, .int 0, .int 0, .int 0])), (q1, .inl (cyB, 400, .inl (fun _ => 0)))] t
set_option maxRecDepth 100000 in
set_option maxHeartbeats 8000000 in
theorem ctX8_init (l : Launch) (dC : Nat → ClassId) (dI : Nat → Nat → Nat) (cyI cyB cyJ cyZ : ClassId) (sz a0 : Nat) : Met l yX8_init wsX8_init rmX8_init (va_Pc [.ref a0] (wPre dC dI cyI cyB cyJ cyZ sz [(a0, .inr (8, [.null, .int 0, .int 0, .int 0, .int 0, .int 0]))])) (va_Qv (fun _ : Unit => True) (fun _ t => iX8 dC dI cyI cyB cyJ cyZ (va_A [(a0, .inr (8, [.null, .int 0, .int 0, .int 0, .int 0, .int 0]))] sz) a0 t) (va_A [(a0, .inr (8, [.null, .int 0, .int 0, .int 0, .int 0, .int 0]))] sz)) 1 400 (va_A [(a0, .inr (8, [.null, .int 0, .int 0, .int 0, .int 0, .int 0]))] sz) := by
  refine Met.ofW (cc := cX8_init) (maxL := 1) (ret := none) (by decide) rfl ?_
  intro p e s m args below meth c s₁ B hml hv
  obtain ⟨rfl, hsz, hP, hK, hD0, hN⟩ := hv
  have hx := B.exec
  have hb := B.bytes
  have hr := B.returns
  have hts := atoms_spec (ws := wsX8_init) B.pre
  have hown : s.vm.findClass RX8 = some m.cls := findClass_of_methodNamed B.named
  have hlocks := B.notSynchronized
  have hin : meth.name = "<init>" := (name_of_methodNamed B.named B.method).1
  subst hsz
  have hD := hD0.self (sz := s.heap.size)
  generalize hAe : va_A [(a0, .inr (8, [.null, .int 0, .int 0, .int 0, .int 0, .int 0]))] s.heap.size = A at hD ⊢
  have hA : ∀ q : Nat, s.heap.size ≤ q → A q := fun q h => by rw [← hAe]; exact Or.inr h
  have hS : va_S A s.heap s.heap [] := va_S.rf
  have hl := lv_entry ([.ref a0]) (n := 1) (Nat.le_of_ble_eq_true rfl)
  rw [lg_entry_eq]
  generalize (lg_sl ([.ref a0]) ++ List.replicate (1 - (lg_sl ([.ref a0])).length) Slot.unset).toArray = ls at hl ⊢
  have hl : lv_has ls 1 [(0, .ref a0)] := hl
  show W p l e rmX8_init s m _ below meth c _ _ _ _ _ _
  refine lv_aload_n hx hb dX8_init_0 rfl (lv_at hl 0 rfl) ?_
  refine W.objInit hx hb hown (hts (.methodLink RX8 3 objectInit) (List.mem_of_getElem? (i := 1) rfl)) (hts (.instanceMethod objectInit) (List.mem_of_getElem? (i := 2) rfl)) (hts (.code objectInit ⟨#[0xb1]⟩ 1 none) (List.mem_of_getElem? (i := 3) rfl)) rfl (by rw [hml]; exact hl.1) rfl dX8_init_1 (Nat.le_of_ble_eq_true rfl) (Nat.le_of_ble_eq_true rfl) ?_
  refine W.eq (g2 := F0 m 4 ls []) rfl ?_
  refine lv_aload_n hx hb dX8_init_4 rfl (lv_at hl 0 rfl) ?_
  refine lv_sipush (v := 400) hx hb dX8_init_5 (by decide) ?_
  refine va_newa (atype := .byte) (ty := .byte) (N' := 400) (a0 := (400, .inl (fun _ => 0))) hx hb (hts (.arrayClass .byte) (List.mem_of_getElem? (i := 4) rfl)) rfl hK hP hD hS hA (nw_B 400) (by decide) (by decide) (by decide) (by decide) (by decide) dX8_init_8 (fun q1 cA H hK1 hP hD hS => ?_)
  rw [cy_eq 1 hK1 rfl rfl] at hP hD
  have hP : va_P (dC, dI) vwCl [(a0, .inr (8, [.null, .int 0, .int 0, .int 0, .int 0, .int 0])), (q1, .inl (cyB, 400, .inl (fun _ => 0)))] H := hP
  have hD : va_D A [(a0, .inr (8, [.null, .int 0, .int 0, .int 0, .int 0, .int 0])), (q1, .inl (cyB, 400, .inl (fun _ => 0)))] := hD
  refine W.widen (k := 1) (n := 400) (by decide) (by decide) ?_
  refine va_putF (D := (dC, dI)) (ci := 8) (v := .ref q1) (ty := .array .byte) (C := RX8) (T := TX8) (N := 6) hx hb hts inX8_init_X8 tyX8 tyX8_ok nmX8 hown hK hP hD hS 0 rfl rfl 0 (by decide) (hts (.fieldLink RX8 9 "LeadPark$Tape" "bytes" "[B") (List.mem_of_getElem? (i := 5) rfl)) (fun _ h9 => h9) rfl hin rfl (by decide +kernel) rfl rfl (Nat.le_of_ble_eq_true rfl) dX8_init_10 (fun H locs hP hD hS => ?_)
  have hP : va_P (dC, dI) vwCl [(a0, .inr (8, [.ref q1, .int 0, .int 0, .int 0, .int 0, .int 0])), (q1, .inl (cyB, 400, .inl (fun _ => 0)))] H := hP
  have hD : va_D A [(a0, .inr (8, [.ref q1, .int 0, .int 0, .int 0, .int 0, .int 0])), (q1, .inl (cyB, 400, .inl (fun _ => 0)))] := hD
  refine lv_aload_n hx hb dX8_init_13 rfl (lv_at hl 0 rfl) ?_
  refine lv_iconst (v := 0) hx hb dX8_init_14 (by decide) ?_
  refine va_put (D := (dC, dI)) (ci := 8) (v := .int 0) (ty := .int) (C := RX8) (T := TX8) (N := 6) hx hb hts inX8_init_X8 tyX8 tyX8_ok nmX8 hown hK hP hD hS 0 rfl rfl 1 (by decide) (hts (.fieldLink RX8 15 "LeadPark$Tape" "size" "I") (List.mem_of_getElem? (i := 6) rfl)) (fun _ h9 => h9) rfl (by decide +kernel) rfl rfl (Nat.le_of_ble_eq_true rfl) dX8_init_15 (fun H locs hP hD hS => ?_)
  have hP : va_P (dC, dI) vwCl [(a0, .inr (8, [.ref q1, .int 0, .int 0, .int 0, .int 0, .int 0])), (q1, .inl (cyB, 400, .inl (fun _ => 0)))] H := hP
  have hD : va_D A [(a0, .inr (8, [.ref q1, .int 0, .int 0, .int 0, .int 0, .int 0])), (q1, .inl (cyB, 400, .inl (fun _ => 0)))] := hD
  refine lv_aload_n hx hb dX8_init_18 rfl (lv_at hl 0 rfl) ?_
  refine lv_iconst (v := 0) hx hb dX8_init_19 (by decide) ?_
  refine va_put (D := (dC, dI)) (ci := 8) (v := .int 0) (ty := .int) (C := RX8) (T := TX8) (N := 6) hx hb hts inX8_init_X8 tyX8 tyX8_ok nmX8 hown hK hP hD hS 0 rfl rfl 2 (by decide) (hts (.fieldLink RX8 19 "LeadPark$Tape" "here" "I") (List.mem_of_getElem? (i := 7) rfl)) (fun _ h9 => h9) rfl (by decide +kernel) rfl rfl (Nat.le_of_ble_eq_true rfl) dX8_init_20 (fun H locs hP hD hS => ?_)
  have hP : va_P (dC, dI) vwCl [(a0, .inr (8, [.ref q1, .int 0, .int 0, .int 0, .int 0, .int 0])), (q1, .inl (cyB, 400, .inl (fun _ => 0)))] H := hP
  have hD : va_D A [(a0, .inr (8, [.ref q1, .int 0, .int 0, .int 0, .int 0, .int 0])), (q1, .inl (cyB, 400, .inl (fun _ => 0)))] := hD
  refine lv_aload_n hx hb dX8_init_23 rfl (lv_at hl 0 rfl) ?_
  refine lv_iconst (v := 0) hx hb dX8_init_24 (by decide) ?_
  refine va_put (D := (dC, dI)) (ci := 8) (v := .int 0) (ty := .int) (C := RX8) (T := TX8) (N := 6) hx hb hts inX8_init_X8 tyX8 tyX8_ok nmX8 hown hK hP hD hS 0 rfl rfl 3 (by decide) (hts (.fieldLink RX8 22 "LeadPark$Tape" "behind" "I") (List.mem_of_getElem? (i := 8) rfl)) (fun _ h9 => h9) rfl (by decide +kernel) rfl rfl (Nat.le_of_ble_eq_true rfl) dX8_init_25 (fun H locs hP hD hS => ?_)
  have hP : va_P (dC, dI) vwCl [(a0, .inr (8, [.ref q1, .int 0, .int 0, .int 0, .int 0, .int 0])), (q1, .inl (cyB, 400, .inl (fun _ => 0)))] H := hP
  have hD : va_D A [(a0, .inr (8, [.ref q1, .int 0, .int 0, .int 0, .int 0, .int 0])), (q1, .inl (cyB, 400, .inl (fun _ => 0)))] := hD
  refine lv_aload_n hx hb dX8_init_28 rfl (lv_at hl 0 rfl) ?_
  refine lv_iconst (v := 0) hx hb dX8_init_29 (by decide) ?_
  refine va_put (D := (dC, dI)) (ci := 8) (v := .int 0) (ty := .int) (C := RX8) (T := TX8) (N := 6) hx hb hts inX8_init_X8 tyX8 tyX8_ok nmX8 hown hK hP hD hS 0 rfl rfl 4 (by decide) (hts (.fieldLink RX8 25 "LeadPark$Tape" "digits" "I") (List.mem_of_getElem? (i := 9) rfl)) (fun _ h9 => h9) rfl (by decide +kernel) rfl rfl (Nat.le_of_ble_eq_true rfl) dX8_init_30 (fun H locs hP hD hS => ?_)
  have hP : va_P (dC, dI) vwCl [(a0, .inr (8, [.ref q1, .int 0, .int 0, .int 0, .int 0, .int 0])), (q1, .inl (cyB, 400, .inl (fun _ => 0)))] H := hP
  have hD : va_D A [(a0, .inr (8, [.ref q1, .int 0, .int 0, .int 0, .int 0, .int 0])), (q1, .inl (cyB, 400, .inl (fun _ => 0)))] := hD
  refine lv_aload_n hx hb dX8_init_33 rfl (lv_at hl 0 rfl) ?_
  refine lv_iconst (v := 0) hx hb dX8_init_34 (by decide) ?_
  refine va_put (D := (dC, dI)) (ci := 8) (v := .int 0) (ty := .int) (C := RX8) (T := TX8) (N := 6) hx hb hts inX8_init_X8 tyX8 tyX8_ok nmX8 hown hK hP hD hS 0 rfl rfl 5 (by decide) (hts (.fieldLink RX8 28 "LeadPark$Tape" "value" "I") (List.mem_of_getElem? (i := 10) rfl)) (fun _ h9 => h9) rfl (by decide +kernel) rfl rfl (Nat.le_of_ble_eq_true rfl) dX8_init_35 (fun H locs hP hD hS => ?_)
  have hP : va_P (dC, dI) vwCl [(a0, .inr (8, [.ref q1, .int 0, .int 0, .int 0, .int 0, .int 0])), (q1, .inl (cyB, 400, .inl (fun _ => 0)))] H := hP
  have hD : va_D A [(a0, .inr (8, [.ref q1, .int 0, .int 0, .int 0, .int 0, .int 0])), (q1, .inl (cyB, 400, .inl (fun _ => 0)))] := hD
  exact W.vret hx hb hr (fun t ht hW => ⟨⟨(), rfl, trivial, q1, by rw [ht]; exact hP, va_K.moved hW.alike hK, hD⟩, hS.F ht⟩) hS.2.2 dX8_init_38
/-! LeadPark$Ground() -/
theorem inX1_init_X1 : ∀ w ∈ wsX10, w ∈ wsX1_init := fun _ h => List.mem_cons_of_mem _ (List.mem_append_right _ h)
theorem iniX1 : ∀ j, j < 7 → defaultValue (tyX1 j) = vp_V [.null, .null, .null, .null, .int 0, .int 0, .int 0] j := by intro j hj; rcases (show j = 0 ∨ j = 1 ∨ j = 2 ∨ j = 3 ∨ j = 4 ∨ j = 5 ∨ j = 6 by omega) with rfl | rfl | rfl | rfl | rfl | rfl | rfl <;> rfl
abbrev rmX1_init : Room := { frames := 1, cells := 4, slots := 764, locals := 24 }
def iX1 (dC : Nat → ClassId) (dI : Nat → Nat → Nat) (cyI cyB cyJ cyZ : ClassId) (A : Nat → Prop) (a0 : Nat) (t : State) : Prop := ∃ (q1 q2 q3 q4 : Nat), wAt dC dI cyI cyB cyJ cyZ A [(a0, .inr (1, [.ref q1, .ref q2, .ref q3, .ref q4, .int 0, .int 0, .int 0])), (q1, .inl (cyI, 360, .inl (fun _ => 0))), (q2, .inl (cyI, 360, .inl (fun _ => 0))), (q3, .inl (cyI, 12, .inl (fun _ => 0))), (q4, .inl (cyI, 32, .inl (fun _ => 0)))] t
set_option maxRecDepth 100000 in
set_option maxHeartbeats 8000000 in
theorem ctX1_init (l : Launch) (dC : Nat → ClassId) (dI : Nat → Nat → Nat) (cyI cyB cyJ cyZ : ClassId) (sz a0 : Nat) : Met l yX1_init wsX1_init rmX1_init (va_Pc [.ref a0] (wPre dC dI cyI cyB cyJ cyZ sz [(a0, .inr (1, [.null, .null, .null, .null, .int 0, .int 0, .int 0]))])) (va_Qv (fun _ : Unit => True) (fun _ t => iX1 dC dI cyI cyB cyJ cyZ (va_A [(a0, .inr (1, [.null, .null, .null, .null, .int 0, .int 0, .int 0]))] sz) a0 t) (va_A [(a0, .inr (1, [.null, .null, .null, .null, .int 0, .int 0, .int 0]))] sz)) 4 764 (va_A [(a0, .inr (1, [.null, .null, .null, .null, .int 0, .int 0, .int 0]))] sz) := by
  refine Met.ofW (cc := cX1_init) (maxL := 1) (ret := none) (by decide) rfl ?_
  intro p e s m args below meth c s₁ B hml hv
  obtain ⟨rfl, hsz, hP, hK, hD0, hN⟩ := hv
  have hx := B.exec
  have hb := B.bytes
  have hr := B.returns
  have hts := atoms_spec (ws := wsX1_init) B.pre
  have hown : s.vm.findClass RX1 = some m.cls := findClass_of_methodNamed B.named
  have hlocks := B.notSynchronized
  have hin : meth.name = "<init>" := (name_of_methodNamed B.named B.method).1
  subst hsz
  have hD := hD0.self (sz := s.heap.size)
  generalize hAe : va_A [(a0, .inr (1, [.null, .null, .null, .null, .int 0, .int 0, .int 0]))] s.heap.size = A at hD ⊢
  have hA : ∀ q : Nat, s.heap.size ≤ q → A q := fun q h => by rw [← hAe]; exact Or.inr h
  have hS : va_S A s.heap s.heap [] := va_S.rf
  have hl := lv_entry ([.ref a0]) (n := 1) (Nat.le_of_ble_eq_true rfl)
  rw [lg_entry_eq]
  generalize (lg_sl ([.ref a0]) ++ List.replicate (1 - (lg_sl ([.ref a0])).length) Slot.unset).toArray = ls at hl ⊢
  have hl : lv_has ls 1 [(0, .ref a0)] := hl
  show W p l e rmX1_init s m _ below meth c _ _ _ _ _ _
  refine lv_aload_n hx hb dX1_init_0 rfl (lv_at hl 0 rfl) ?_
  refine W.objInit hx hb hown (hts (.methodLink RX1 3 objectInit) (List.mem_of_getElem? (i := 1) rfl)) (hts (.instanceMethod objectInit) (List.mem_of_getElem? (i := 2) rfl)) (hts (.code objectInit ⟨#[0xb1]⟩ 1 none) (List.mem_of_getElem? (i := 3) rfl)) rfl (by rw [hml]; exact hl.1) rfl dX1_init_1 (Nat.le_of_ble_eq_true rfl) (Nat.le_of_ble_eq_true rfl) ?_
  refine W.eq (g2 := F0 m 4 ls []) rfl ?_
  refine lv_aload_n hx hb dX1_init_4 rfl (lv_at hl 0 rfl) ?_
  refine lv_sipush (v := 360) hx hb dX1_init_5 (by decide) ?_
  refine va_newa (atype := .int) (ty := .int) (N' := 360) (a0 := (360, .inl (fun _ => 0))) hx hb (hts (.arrayClass .int) (List.mem_of_getElem? (i := 4) rfl)) rfl hK hP hD hS hA (nw_I 360) (by decide) (by decide) (by decide) (by decide) (by decide) dX1_init_8 (fun q1 cA H hK1 hP hD hS => ?_)
  rw [cy_eq 0 hK1 rfl rfl] at hP hD
  have hP : va_P (dC, dI) vwCl [(a0, .inr (1, [.null, .null, .null, .null, .int 0, .int 0, .int 0])), (q1, .inl (cyI, 360, .inl (fun _ => 0)))] H := hP
  have hD : va_D A [(a0, .inr (1, [.null, .null, .null, .null, .int 0, .int 0, .int 0])), (q1, .inl (cyI, 360, .inl (fun _ => 0)))] := hD
  refine W.widen (k := 1) (n := 360) (by decide) (by decide) ?_
  refine va_putF (D := (dC, dI)) (ci := 1) (v := .ref q1) (ty := .array .int) (C := RX1) (T := TX1) (N := 7) hx hb hts inX1_init_X1 tyX1 tyX1_ok nmX1 hown hK hP hD hS 0 rfl rfl 0 (by decide) (hts (.fieldLink RX1 9 "LeadPark$Ground" "xs" "[I") (List.mem_of_getElem? (i := 5) rfl)) (fun _ h9 => h9) rfl hin rfl (by decide +kernel) rfl rfl (Nat.le_of_ble_eq_true rfl) dX1_init_10 (fun H locs hP hD hS => ?_)
  have hP : va_P (dC, dI) vwCl [(a0, .inr (1, [.ref q1, .null, .null, .null, .int 0, .int 0, .int 0])), (q1, .inl (cyI, 360, .inl (fun _ => 0)))] H := hP
  have hD : va_D A [(a0, .inr (1, [.ref q1, .null, .null, .null, .int 0, .int 0, .int 0])), (q1, .inl (cyI, 360, .inl (fun _ => 0)))] := hD
  refine lv_aload_n hx hb dX1_init_13 rfl (lv_at hl 0 rfl) ?_
  refine lv_sipush (v := 360) hx hb dX1_init_14 (by decide) ?_
  refine va_newa (atype := .int) (ty := .int) (N' := 360) (a0 := (360, .inl (fun _ => 0))) hx hb (hts (.arrayClass .int) (List.mem_of_getElem? (i := 4) rfl)) rfl hK hP hD hS hA (nw_I 360) (by decide) (by decide) (by decide) (by decide) (by decide) dX1_init_17 (fun q2 cA H hK1 hP hD hS => ?_)
  rw [cy_eq 0 hK1 rfl rfl] at hP hD
  have hP : va_P (dC, dI) vwCl [(a0, .inr (1, [.ref q1, .null, .null, .null, .int 0, .int 0, .int 0])), (q1, .inl (cyI, 360, .inl (fun _ => 0))), (q2, .inl (cyI, 360, .inl (fun _ => 0)))] H := hP
  have hD : va_D A [(a0, .inr (1, [.ref q1, .null, .null, .null, .int 0, .int 0, .int 0])), (q1, .inl (cyI, 360, .inl (fun _ => 0))), (q2, .inl (cyI, 360, .inl (fun _ => 0)))] := hD
  refine W.widen (k := 2) (n := 720) (by decide) (by decide) ?_
  refine va_putF (D := (dC, dI)) (ci := 1) (v := .ref q2) (ty := .array .int) (C := RX1) (T := TX1) (N := 7) hx hb hts inX1_init_X1 tyX1 tyX1_ok nmX1 hown hK hP hD hS 0 rfl rfl 1 (by decide) (hts (.fieldLink RX1 15 "LeadPark$Ground" "ys" "[I") (List.mem_of_getElem? (i := 6) rfl)) (fun _ h9 => h9) rfl hin rfl (by decide +kernel) rfl rfl (Nat.le_of_ble_eq_true rfl) dX1_init_19 (fun H locs hP hD hS => ?_)
  have hP : va_P (dC, dI) vwCl [(a0, .inr (1, [.ref q1, .ref q2, .null, .null, .int 0, .int 0, .int 0])), (q1, .inl (cyI, 360, .inl (fun _ => 0))), (q2, .inl (cyI, 360, .inl (fun _ => 0)))] H := hP
  have hD : va_D A [(a0, .inr (1, [.ref q1, .ref q2, .null, .null, .int 0, .int 0, .int 0])), (q1, .inl (cyI, 360, .inl (fun _ => 0))), (q2, .inl (cyI, 360, .inl (fun _ => 0)))] := hD
  refine lv_aload_n hx hb dX1_init_22 rfl (lv_at hl 0 rfl) ?_
  refine lv_bipush (v := 12) hx hb dX1_init_23 (by decide) ?_
  refine va_newa (atype := .int) (ty := .int) (N' := 12) (a0 := (12, .inl (fun _ => 0))) hx hb (hts (.arrayClass .int) (List.mem_of_getElem? (i := 4) rfl)) rfl hK hP hD hS hA (nw_I 12) (by decide) (by decide) (by decide) (by decide) (by decide) dX1_init_25 (fun q3 cA H hK1 hP hD hS => ?_)
  rw [cy_eq 0 hK1 rfl rfl] at hP hD
  have hP : va_P (dC, dI) vwCl [(a0, .inr (1, [.ref q1, .ref q2, .null, .null, .int 0, .int 0, .int 0])), (q1, .inl (cyI, 360, .inl (fun _ => 0))), (q2, .inl (cyI, 360, .inl (fun _ => 0))), (q3, .inl (cyI, 12, .inl (fun _ => 0)))] H := hP
  have hD : va_D A [(a0, .inr (1, [.ref q1, .ref q2, .null, .null, .int 0, .int 0, .int 0])), (q1, .inl (cyI, 360, .inl (fun _ => 0))), (q2, .inl (cyI, 360, .inl (fun _ => 0))), (q3, .inl (cyI, 12, .inl (fun _ => 0)))] := hD
  refine W.widen (k := 3) (n := 732) (by decide) (by decide) ?_
  refine va_putF (D := (dC, dI)) (ci := 1) (v := .ref q3) (ty := .array .int) (C := RX1) (T := TX1) (N := 7) hx hb hts inX1_init_X1 tyX1 tyX1_ok nmX1 hown hK hP hD hS 0 rfl rfl 2 (by decide) (hts (.fieldLink RX1 18 "LeadPark$Ground" "counts" "[I") (List.mem_of_getElem? (i := 7) rfl)) (fun _ h9 => h9) rfl hin rfl (by decide +kernel) rfl rfl (Nat.le_of_ble_eq_true rfl) dX1_init_27 (fun H locs hP hD hS => ?_)
  have hP : va_P (dC, dI) vwCl [(a0, .inr (1, [.ref q1, .ref q2, .ref q3, .null, .int 0, .int 0, .int 0])), (q1, .inl (cyI, 360, .inl (fun _ => 0))), (q2, .inl (cyI, 360, .inl (fun _ => 0))), (q3, .inl (cyI, 12, .inl (fun _ => 0)))] H := hP
  have hD : va_D A [(a0, .inr (1, [.ref q1, .ref q2, .ref q3, .null, .int 0, .int 0, .int 0])), (q1, .inl (cyI, 360, .inl (fun _ => 0))), (q2, .inl (cyI, 360, .inl (fun _ => 0))), (q3, .inl (cyI, 12, .inl (fun _ => 0)))] := hD
  refine lv_aload_n hx hb dX1_init_30 rfl (lv_at hl 0 rfl) ?_
  refine lv_bipush (v := 32) hx hb dX1_init_31 (by decide) ?_
  refine va_newa (atype := .int) (ty := .int) (N' := 32) (a0 := (32, .inl (fun _ => 0))) hx hb (hts (.arrayClass .int) (List.mem_of_getElem? (i := 4) rfl)) rfl hK hP hD hS hA (nw_I 32) (by decide) (by decide) (by decide) (by decide) (by decide) dX1_init_33 (fun q4 cA H hK1 hP hD hS => ?_)
  rw [cy_eq 0 hK1 rfl rfl] at hP hD
  have hP : va_P (dC, dI) vwCl [(a0, .inr (1, [.ref q1, .ref q2, .ref q3, .null, .int 0, .int 0, .int 0])), (q1, .inl (cyI, 360, .inl (fun _ => 0))), (q2, .inl (cyI, 360, .inl (fun _ => 0))), (q3, .inl (cyI, 12, .inl (fun _ => 0))), (q4, .inl (cyI, 32, .inl (fun _ => 0)))] H := hP
  have hD : va_D A [(a0, .inr (1, [.ref q1, .ref q2, .ref q3, .null, .int 0, .int 0, .int 0])), (q1, .inl (cyI, 360, .inl (fun _ => 0))), (q2, .inl (cyI, 360, .inl (fun _ => 0))), (q3, .inl (cyI, 12, .inl (fun _ => 0))), (q4, .inl (cyI, 32, .inl (fun _ => 0)))] := hD
  refine W.widen (k := 4) (n := 764) (by decide) (by decide) ?_
  refine va_putF (D := (dC, dI)) (ci := 1) (v := .ref q4) (ty := .array .int) (C := RX1) (T := TX1) (N := 7) hx hb hts inX1_init_X1 tyX1 tyX1_ok nmX1 hown hK hP hD hS 0 rfl rfl 3 (by decide) (hts (.fieldLink RX1 21 "LeadPark$Ground" "walls" "[I") (List.mem_of_getElem? (i := 8) rfl)) (fun _ h9 => h9) rfl hin rfl (by decide +kernel) rfl rfl (Nat.le_of_ble_eq_true rfl) dX1_init_35 (fun H locs hP hD hS => ?_)
  have hP : va_P (dC, dI) vwCl [(a0, .inr (1, [.ref q1, .ref q2, .ref q3, .ref q4, .int 0, .int 0, .int 0])), (q1, .inl (cyI, 360, .inl (fun _ => 0))), (q2, .inl (cyI, 360, .inl (fun _ => 0))), (q3, .inl (cyI, 12, .inl (fun _ => 0))), (q4, .inl (cyI, 32, .inl (fun _ => 0)))] H := hP
  have hD : va_D A [(a0, .inr (1, [.ref q1, .ref q2, .ref q3, .ref q4, .int 0, .int 0, .int 0])), (q1, .inl (cyI, 360, .inl (fun _ => 0))), (q2, .inl (cyI, 360, .inl (fun _ => 0))), (q3, .inl (cyI, 12, .inl (fun _ => 0))), (q4, .inl (cyI, 32, .inl (fun _ => 0)))] := hD
  refine lv_aload_n hx hb dX1_init_38 rfl (lv_at hl 0 rfl) ?_
  refine lv_iconst (v := 0) hx hb dX1_init_39 (by decide) ?_
  refine va_put (D := (dC, dI)) (ci := 1) (v := .int 0) (ty := .int) (C := RX1) (T := TX1) (N := 7) hx hb hts inX1_init_X1 tyX1 tyX1_ok nmX1 hown hK hP hD hS 0 rfl rfl 4 (by decide) (hts (.fieldLink RX1 24 "LeadPark$Ground" "ways" "I") (List.mem_of_getElem? (i := 9) rfl)) (fun _ h9 => h9) rfl (by decide +kernel) rfl rfl (Nat.le_of_ble_eq_true rfl) dX1_init_40 (fun H locs hP hD hS => ?_)
  have hP : va_P (dC, dI) vwCl [(a0, .inr (1, [.ref q1, .ref q2, .ref q3, .ref q4, .int 0, .int 0, .int 0])), (q1, .inl (cyI, 360, .inl (fun _ => 0))), (q2, .inl (cyI, 360, .inl (fun _ => 0))), (q3, .inl (cyI, 12, .inl (fun _ => 0))), (q4, .inl (cyI, 32, .inl (fun _ => 0)))] H := hP
  have hD : va_D A [(a0, .inr (1, [.ref q1, .ref q2, .ref q3, .ref q4, .int 0, .int 0, .int 0])), (q1, .inl (cyI, 360, .inl (fun _ => 0))), (q2, .inl (cyI, 360, .inl (fun _ => 0))), (q3, .inl (cyI, 12, .inl (fun _ => 0))), (q4, .inl (cyI, 32, .inl (fun _ => 0)))] := hD
  refine lv_aload_n hx hb dX1_init_43 rfl (lv_at hl 0 rfl) ?_
  refine lv_iconst (v := 0) hx hb dX1_init_44 (by decide) ?_
  refine va_put (D := (dC, dI)) (ci := 1) (v := .int 0) (ty := .int) (C := RX1) (T := TX1) (N := 7) hx hb hts inX1_init_X1 tyX1 tyX1_ok nmX1 hown hK hP hD hS 0 rfl rfl 5 (by decide) (hts (.fieldLink RX1 28 "LeadPark$Ground" "wallCount" "I") (List.mem_of_getElem? (i := 10) rfl)) (fun _ h9 => h9) rfl (by decide +kernel) rfl rfl (Nat.le_of_ble_eq_true rfl) dX1_init_45 (fun H locs hP hD hS => ?_)
  have hP : va_P (dC, dI) vwCl [(a0, .inr (1, [.ref q1, .ref q2, .ref q3, .ref q4, .int 0, .int 0, .int 0])), (q1, .inl (cyI, 360, .inl (fun _ => 0))), (q2, .inl (cyI, 360, .inl (fun _ => 0))), (q3, .inl (cyI, 12, .inl (fun _ => 0))), (q4, .inl (cyI, 32, .inl (fun _ => 0)))] H := hP
  have hD : va_D A [(a0, .inr (1, [.ref q1, .ref q2, .ref q3, .ref q4, .int 0, .int 0, .int 0])), (q1, .inl (cyI, 360, .inl (fun _ => 0))), (q2, .inl (cyI, 360, .inl (fun _ => 0))), (q3, .inl (cyI, 12, .inl (fun _ => 0))), (q4, .inl (cyI, 32, .inl (fun _ => 0)))] := hD
  refine lv_aload_n hx hb dX1_init_48 rfl (lv_at hl 0 rfl) ?_
  refine lv_iconst (v := 0) hx hb dX1_init_49 (by decide) ?_
  refine va_put (D := (dC, dI)) (ci := 1) (v := .int 0) (ty := .int) (C := RX1) (T := TX1) (N := 7) hx hb hts inX1_init_X1 tyX1 tyX1_ok nmX1 hown hK hP hD hS 0 rfl rfl 6 (by decide) (hts (.fieldLink RX1 31 "LeadPark$Ground" "texts" "I") (List.mem_of_getElem? (i := 11) rfl)) (fun _ h9 => h9) rfl (by decide +kernel) rfl rfl (Nat.le_of_ble_eq_true rfl) dX1_init_50 (fun H locs hP hD hS => ?_)
  have hP : va_P (dC, dI) vwCl [(a0, .inr (1, [.ref q1, .ref q2, .ref q3, .ref q4, .int 0, .int 0, .int 0])), (q1, .inl (cyI, 360, .inl (fun _ => 0))), (q2, .inl (cyI, 360, .inl (fun _ => 0))), (q3, .inl (cyI, 12, .inl (fun _ => 0))), (q4, .inl (cyI, 32, .inl (fun _ => 0)))] H := hP
  have hD : va_D A [(a0, .inr (1, [.ref q1, .ref q2, .ref q3, .ref q4, .int 0, .int 0, .int 0])), (q1, .inl (cyI, 360, .inl (fun _ => 0))), (q2, .inl (cyI, 360, .inl (fun _ => 0))), (q3, .inl (cyI, 12, .inl (fun _ => 0))), (q4, .inl (cyI, 32, .inl (fun _ => 0)))] := hD
  exact W.vret hx hb hr (fun t ht hW => ⟨⟨(), rfl, trivial, q1, q2, q3, q4, by rw [ht]; exact hP, va_K.moved hW.alike hK, hD⟩, hS.F ht⟩) hS.2.2 dX1_init_53
/-! LeadPark$Law() -/
theorem inX2_init_X2 : ∀ w ∈ wsX20, w ∈ wsX2_init := fun _ h => List.mem_cons_of_mem _ (List.mem_append_right _ h)
theorem iniX2 : ∀ j, j < 4 → defaultValue (tyX2 j) = vp_V [.null, .null, .int 0, .int 0] j := by intro j hj; rcases (show j = 0 ∨ j = 1 ∨ j = 2 ∨ j = 3 by omega) with rfl | rfl | rfl | rfl <;> rfl
abbrev rmX2_init : Room := { frames := 1, cells := 2, slots := 407, locals := 24 }
def iX2 (dC : Nat → ClassId) (dI : Nat → Nat → Nat) (cyI cyB cyJ cyZ : ClassId) (A : Nat → Prop) (a0 : Nat) (t : State) : Prop := ∃ (q1 q2 : Nat), wAt dC dI cyI cyB cyJ cyZ A [(a0, .inr (2, [.ref q1, .ref q2, .int 0, .int (-1)])), (q1, .inl (cyI, 400, .inl (fun _ => 0))), (q2, .inl (cyI, 7, .inl (fun _ => 0)))] t
set_option maxRecDepth 100000 in
set_option maxHeartbeats 8000000 in
theorem ctX2_init (l : Launch) (dC : Nat → ClassId) (dI : Nat → Nat → Nat) (cyI cyB cyJ cyZ : ClassId) (sz a0 : Nat) : Met l yX2_init wsX2_init rmX2_init (va_Pc [.ref a0] (wPre dC dI cyI cyB cyJ cyZ sz [(a0, .inr (2, [.null, .null, .int 0, .int 0]))])) (va_Qv (fun _ : Unit => True) (fun _ t => iX2 dC dI cyI cyB cyJ cyZ (va_A [(a0, .inr (2, [.null, .null, .int 0, .int 0]))] sz) a0 t) (va_A [(a0, .inr (2, [.null, .null, .int 0, .int 0]))] sz)) 2 407 (va_A [(a0, .inr (2, [.null, .null, .int 0, .int 0]))] sz) := by
  refine Met.ofW (cc := cX2_init) (maxL := 1) (ret := none) (by decide) rfl ?_
  intro p e s m args below meth c s₁ B hml hv
  obtain ⟨rfl, hsz, hP, hK, hD0, hN⟩ := hv
  have hx := B.exec
  have hb := B.bytes
  have hr := B.returns
  have hts := atoms_spec (ws := wsX2_init) B.pre
  have hown : s.vm.findClass RX2 = some m.cls := findClass_of_methodNamed B.named
  have hlocks := B.notSynchronized
  have hin : meth.name = "<init>" := (name_of_methodNamed B.named B.method).1
  subst hsz
  have hD := hD0.self (sz := s.heap.size)
  generalize hAe : va_A [(a0, .inr (2, [.null, .null, .int 0, .int 0]))] s.heap.size = A at hD ⊢
  have hA : ∀ q : Nat, s.heap.size ≤ q → A q := fun q h => by rw [← hAe]; exact Or.inr h
  have hS : va_S A s.heap s.heap [] := va_S.rf
  have hl := lv_entry ([.ref a0]) (n := 1) (Nat.le_of_ble_eq_true rfl)
  rw [lg_entry_eq]
  generalize (lg_sl ([.ref a0]) ++ List.replicate (1 - (lg_sl ([.ref a0])).length) Slot.unset).toArray = ls at hl ⊢
  have hl : lv_has ls 1 [(0, .ref a0)] := hl
  show W p l e rmX2_init s m _ below meth c _ _ _ _ _ _
  refine lv_aload_n hx hb dX2_init_0 rfl (lv_at hl 0 rfl) ?_
  refine W.objInit hx hb hown (hts (.methodLink RX2 5 objectInit) (List.mem_of_getElem? (i := 1) rfl)) (hts (.instanceMethod objectInit) (List.mem_of_getElem? (i := 2) rfl)) (hts (.code objectInit ⟨#[0xb1]⟩ 1 none) (List.mem_of_getElem? (i := 3) rfl)) rfl (by rw [hml]; exact hl.1) rfl dX2_init_1 (Nat.le_of_ble_eq_true rfl) (Nat.le_of_ble_eq_true rfl) ?_
  refine W.eq (g2 := F0 m 4 ls []) rfl ?_
  refine lv_aload_n hx hb dX2_init_4 rfl (lv_at hl 0 rfl) ?_
  refine lv_sipush (v := 400) hx hb dX2_init_5 (by decide) ?_
  refine va_newa (atype := .int) (ty := .int) (N' := 400) (a0 := (400, .inl (fun _ => 0))) hx hb (hts (.arrayClass .int) (List.mem_of_getElem? (i := 4) rfl)) rfl hK hP hD hS hA (nw_I 400) (by decide) (by decide) (by decide) (by decide) (by decide) dX2_init_8 (fun q1 cA H hK1 hP hD hS => ?_)
  rw [cy_eq 0 hK1 rfl rfl] at hP hD
  have hP : va_P (dC, dI) vwCl [(a0, .inr (2, [.null, .null, .int 0, .int 0])), (q1, .inl (cyI, 400, .inl (fun _ => 0)))] H := hP
  have hD : va_D A [(a0, .inr (2, [.null, .null, .int 0, .int 0])), (q1, .inl (cyI, 400, .inl (fun _ => 0)))] := hD
  refine W.widen (k := 1) (n := 400) (by decide) (by decide) ?_
  refine va_putF (D := (dC, dI)) (ci := 2) (v := .ref q1) (ty := .array .int) (C := RX2) (T := TX2) (N := 4) hx hb hts inX2_init_X2 tyX2 tyX2_ok nmX2 hown hK hP hD hS 0 rfl rfl 0 (by decide) (hts (.fieldLink RX2 11 "LeadPark$Law" "orders" "[I") (List.mem_of_getElem? (i := 5) rfl)) (fun _ h9 => h9) rfl hin rfl (by decide +kernel) rfl rfl (Nat.le_of_ble_eq_true rfl) dX2_init_10 (fun H locs hP hD hS => ?_)
  have hP : va_P (dC, dI) vwCl [(a0, .inr (2, [.ref q1, .null, .int 0, .int 0])), (q1, .inl (cyI, 400, .inl (fun _ => 0)))] H := hP
  have hD : va_D A [(a0, .inr (2, [.ref q1, .null, .int 0, .int 0])), (q1, .inl (cyI, 400, .inl (fun _ => 0)))] := hD
  refine lv_aload_n hx hb dX2_init_13 rfl (lv_at hl 0 rfl) ?_
  refine lv_bipush (v := 7) hx hb dX2_init_14 (by decide) ?_
  refine va_newa (atype := .int) (ty := .int) (N' := 7) (a0 := (7, .inl (fun _ => 0))) hx hb (hts (.arrayClass .int) (List.mem_of_getElem? (i := 4) rfl)) rfl hK hP hD hS hA (nw_I 7) (by decide) (by decide) (by decide) (by decide) (by decide) dX2_init_16 (fun q2 cA H hK1 hP hD hS => ?_)
  rw [cy_eq 0 hK1 rfl rfl] at hP hD
  have hP : va_P (dC, dI) vwCl [(a0, .inr (2, [.ref q1, .null, .int 0, .int 0])), (q1, .inl (cyI, 400, .inl (fun _ => 0))), (q2, .inl (cyI, 7, .inl (fun _ => 0)))] H := hP
  have hD : va_D A [(a0, .inr (2, [.ref q1, .null, .int 0, .int 0])), (q1, .inl (cyI, 400, .inl (fun _ => 0))), (q2, .inl (cyI, 7, .inl (fun _ => 0)))] := hD
  refine W.widen (k := 2) (n := 407) (by decide) (by decide) ?_
  refine va_putF (D := (dC, dI)) (ci := 2) (v := .ref q2) (ty := .array .int) (C := RX2) (T := TX2) (N := 4) hx hb hts inX2_init_X2 tyX2 tyX2_ok nmX2 hown hK hP hD hS 0 rfl rfl 1 (by decide) (hts (.fieldLink RX2 15 "LeadPark$Law" "seen" "[I") (List.mem_of_getElem? (i := 6) rfl)) (fun _ h9 => h9) rfl hin rfl (by decide +kernel) rfl rfl (Nat.le_of_ble_eq_true rfl) dX2_init_18 (fun H locs hP hD hS => ?_)
  have hP : va_P (dC, dI) vwCl [(a0, .inr (2, [.ref q1, .ref q2, .int 0, .int 0])), (q1, .inl (cyI, 400, .inl (fun _ => 0))), (q2, .inl (cyI, 7, .inl (fun _ => 0)))] H := hP
  have hD : va_D A [(a0, .inr (2, [.ref q1, .ref q2, .int 0, .int 0])), (q1, .inl (cyI, 400, .inl (fun _ => 0))), (q2, .inl (cyI, 7, .inl (fun _ => 0)))] := hD
  refine lv_aload_n hx hb dX2_init_21 rfl (lv_at hl 0 rfl) ?_
  refine lv_iconst (v := 0) hx hb dX2_init_22 (by decide) ?_
  refine va_put (D := (dC, dI)) (ci := 2) (v := .int 0) (ty := .int) (C := RX2) (T := TX2) (N := 4) hx hb hts inX2_init_X2 tyX2 tyX2_ok nmX2 hown hK hP hD hS 0 rfl rfl 2 (by decide) (hts (.fieldLink RX2 18 "LeadPark$Law" "size" "I") (List.mem_of_getElem? (i := 7) rfl)) (fun _ h9 => h9) rfl (by decide +kernel) rfl rfl (Nat.le_of_ble_eq_true rfl) dX2_init_23 (fun H locs hP hD hS => ?_)
  have hP : va_P (dC, dI) vwCl [(a0, .inr (2, [.ref q1, .ref q2, .int 0, .int 0])), (q1, .inl (cyI, 400, .inl (fun _ => 0))), (q2, .inl (cyI, 7, .inl (fun _ => 0)))] H := hP
  have hD : va_D A [(a0, .inr (2, [.ref q1, .ref q2, .int 0, .int 0])), (q1, .inl (cyI, 400, .inl (fun _ => 0))), (q2, .inl (cyI, 7, .inl (fun _ => 0)))] := hD
  refine lv_aload_n hx hb dX2_init_26 rfl (lv_at hl 0 rfl) ?_
  refine lv_iconst (v := (-1)) hx hb dX2_init_27 (by decide) ?_
  refine va_put (D := (dC, dI)) (ci := 2) (v := .int (-1)) (ty := .int) (C := RX2) (T := TX2) (N := 4) hx hb hts inX2_init_X2 tyX2 tyX2_ok nmX2 hown hK hP hD hS 0 rfl rfl 3 (by decide) (hts (.fieldLink RX2 22 "LeadPark$Law" "lines" "I") (List.mem_of_getElem? (i := 8) rfl)) (fun _ h9 => h9) rfl (by decide +kernel) rfl rfl (Nat.le_of_ble_eq_true rfl) dX2_init_28 (fun H locs hP hD hS => ?_)
  have hP : va_P (dC, dI) vwCl [(a0, .inr (2, [.ref q1, .ref q2, .int 0, .int (-1)])), (q1, .inl (cyI, 400, .inl (fun _ => 0))), (q2, .inl (cyI, 7, .inl (fun _ => 0)))] H := hP
  have hD : va_D A [(a0, .inr (2, [.ref q1, .ref q2, .int 0, .int (-1)])), (q1, .inl (cyI, 400, .inl (fun _ => 0))), (q2, .inl (cyI, 7, .inl (fun _ => 0)))] := hD
  exact W.vret hx hb hr (fun t ht hW => ⟨⟨(), rfl, trivial, q1, q2, by rw [ht]; exact hP, va_K.moved hW.alike hK, hD⟩, hS.F ht⟩) hS.2.2 dX2_init_31
/-! LeadPark$Stroll() -/
theorem inX7_init_X7 : ∀ w ∈ wsX70, w ∈ wsX7_init := fun _ h => List.mem_cons_of_mem _ (List.mem_append_right _ h)
theorem iniX7 : ∀ j, j < 11 → defaultValue (tyX7 j) = vp_V [.int 0, .int 0, .int 0, .int 0, .int 0, .int 0, .int 0, .int 0, .int 0, .null, .null] j := by intro j hj; rcases (show j = 0 ∨ j = 1 ∨ j = 2 ∨ j = 3 ∨ j = 4 ∨ j = 5 ∨ j = 6 ∨ j = 7 ∨ j = 8 ∨ j = 9 ∨ j = 10 by omega) with rfl | rfl | rfl | rfl | rfl | rfl | rfl | rfl | rfl | rfl | rfl <;> rfl
abbrev rmX7_init : Room := { frames := 1, cells := 2, slots := 116, locals := 24 }
def iX7 (dC : Nat → ClassId) (dI : Nat → Nat → Nat) (cyI cyB cyJ cyZ : ClassId) (A : Nat → Prop) (a0 : Nat) (t : State) : Prop := ∃ (q1 q2 : Nat), wAt dC dI cyI cyB cyJ cyZ A [(a0, .inr (7, [.int 0, .int 0, .int 0, .int 0, .int 0, .int 0, .int 0, .int 0, .int 0, .ref q1, .ref q2])), (q1, .inl (cyI, 58, .inl (fun _ => 0))), (q2, .inl (cyI, 58, .inl (fun _ => 0)))] t
set_option maxRecDepth 100000 in
set_option maxHeartbeats 8000000 in
theorem ctX7_init (l : Launch) (dC : Nat → ClassId) (dI : Nat → Nat → Nat) (cyI cyB cyJ cyZ : ClassId) (sz a0 : Nat) : Met l yX7_init wsX7_init rmX7_init (va_Pc [.ref a0] (wPre dC dI cyI cyB cyJ cyZ sz [(a0, .inr (7, [.int 0, .int 0, .int 0, .int 0, .int 0, .int 0, .int 0, .int 0, .int 0, .null, .null]))])) (va_Qv (fun _ : Unit => True) (fun _ t => iX7 dC dI cyI cyB cyJ cyZ (va_A [(a0, .inr (7, [.int 0, .int 0, .int 0, .int 0, .int 0, .int 0, .int 0, .int 0, .int 0, .null, .null]))] sz) a0 t) (va_A [(a0, .inr (7, [.int 0, .int 0, .int 0, .int 0, .int 0, .int 0, .int 0, .int 0, .int 0, .null, .null]))] sz)) 2 116 (va_A [(a0, .inr (7, [.int 0, .int 0, .int 0, .int 0, .int 0, .int 0, .int 0, .int 0, .int 0, .null, .null]))] sz) := by
  refine Met.ofW (cc := cX7_init) (maxL := 1) (ret := none) (by decide) rfl ?_
  intro p e s m args below meth c s₁ B hml hv
  obtain ⟨rfl, hsz, hP, hK, hD0, hN⟩ := hv
  have hx := B.exec
  have hb := B.bytes
  have hr := B.returns
  have hts := atoms_spec (ws := wsX7_init) B.pre
  have hown : s.vm.findClass RX7 = some m.cls := findClass_of_methodNamed B.named
  have hlocks := B.notSynchronized
  have hin : meth.name = "<init>" := (name_of_methodNamed B.named B.method).1
  subst hsz
  have hD := hD0.self (sz := s.heap.size)
  generalize hAe : va_A [(a0, .inr (7, [.int 0, .int 0, .int 0, .int 0, .int 0, .int 0, .int 0, .int 0, .int 0, .null, .null]))] s.heap.size = A at hD ⊢
  have hA : ∀ q : Nat, s.heap.size ≤ q → A q := fun q h => by rw [← hAe]; exact Or.inr h
  have hS : va_S A s.heap s.heap [] := va_S.rf
  have hl := lv_entry ([.ref a0]) (n := 1) (Nat.le_of_ble_eq_true rfl)
  rw [lg_entry_eq]
  generalize (lg_sl ([.ref a0]) ++ List.replicate (1 - (lg_sl ([.ref a0])).length) Slot.unset).toArray = ls at hl ⊢
  have hl : lv_has ls 1 [(0, .ref a0)] := hl
  show W p l e rmX7_init s m _ below meth c _ _ _ _ _ _
  refine lv_aload_n hx hb dX7_init_0 rfl (lv_at hl 0 rfl) ?_
  refine W.objInit hx hb hown (hts (.methodLink RX7 3 objectInit) (List.mem_of_getElem? (i := 1) rfl)) (hts (.instanceMethod objectInit) (List.mem_of_getElem? (i := 2) rfl)) (hts (.code objectInit ⟨#[0xb1]⟩ 1 none) (List.mem_of_getElem? (i := 3) rfl)) rfl (by rw [hml]; exact hl.1) rfl dX7_init_1 (Nat.le_of_ble_eq_true rfl) (Nat.le_of_ble_eq_true rfl) ?_
  refine W.eq (g2 := F0 m 4 ls []) rfl ?_
  refine lv_aload_n hx hb dX7_init_4 rfl (lv_at hl 0 rfl) ?_
  refine lv_iconst (v := 0) hx hb dX7_init_5 (by decide) ?_
  refine va_put (D := (dC, dI)) (ci := 7) (v := .int 0) (ty := .boolean) (C := RX7) (T := TX7) (N := 11) hx hb hts inX7_init_X7 tyX7 tyX7_ok nmX7 hown hK hP hD hS 0 rfl rfl 0 (by decide) (hts (.fieldLink RX7 9 "LeadPark$Stroll" "underWay" "Z") (List.mem_of_getElem? (i := 4) rfl)) (fun _ h9 => h9) rfl (by decide +kernel) rfl rfl (Nat.le_of_ble_eq_true rfl) dX7_init_6 (fun H locs hP hD hS => ?_)
  have hP : va_P (dC, dI) vwCl [(a0, .inr (7, [.int 0, .int 0, .int 0, .int 0, .int 0, .int 0, .int 0, .int 0, .int 0, .null, .null]))] H := hP
  have hD : va_D A [(a0, .inr (7, [.int 0, .int 0, .int 0, .int 0, .int 0, .int 0, .int 0, .int 0, .int 0, .null, .null]))] := hD
  refine lv_aload_n hx hb dX7_init_9 rfl (lv_at hl 0 rfl) ?_
  refine lv_iconst (v := 0) hx hb dX7_init_10 (by decide) ?_
  refine va_put (D := (dC, dI)) (ci := 7) (v := .int 0) (ty := .int) (C := RX7) (T := TX7) (N := 11) hx hb hts inX7_init_X7 tyX7 tyX7_ok nmX7 hown hK hP hD hS 0 rfl rfl 1 (by decide) (hts (.fieldLink RX7 15 "LeadPark$Stroll" "way" "I") (List.mem_of_getElem? (i := 5) rfl)) (fun _ h9 => h9) rfl (by decide +kernel) rfl rfl (Nat.le_of_ble_eq_true rfl) dX7_init_11 (fun H locs hP hD hS => ?_)
  have hP : va_P (dC, dI) vwCl [(a0, .inr (7, [.int 0, .int 0, .int 0, .int 0, .int 0, .int 0, .int 0, .int 0, .int 0, .null, .null]))] H := hP
  have hD : va_D A [(a0, .inr (7, [.int 0, .int 0, .int 0, .int 0, .int 0, .int 0, .int 0, .int 0, .int 0, .null, .null]))] := hD
  refine lv_aload_n hx hb dX7_init_14 rfl (lv_at hl 0 rfl) ?_
  refine lv_iconst (v := 0) hx hb dX7_init_15 (by decide) ?_
  refine va_put (D := (dC, dI)) (ci := 7) (v := .int 0) (ty := .int) (C := RX7) (T := TX7) (N := 11) hx hb hts inX7_init_X7 tyX7 tyX7_ok nmX7 hown hK hP hD hS 0 rfl rfl 2 (by decide) (hts (.fieldLink RX7 19 "LeadPark$Stroll" "other" "I") (List.mem_of_getElem? (i := 6) rfl)) (fun _ h9 => h9) rfl (by decide +kernel) rfl rfl (Nat.le_of_ble_eq_true rfl) dX7_init_16 (fun H locs hP hD hS => ?_)
  have hP : va_P (dC, dI) vwCl [(a0, .inr (7, [.int 0, .int 0, .int 0, .int 0, .int 0, .int 0, .int 0, .int 0, .int 0, .null, .null]))] H := hP
  have hD : va_D A [(a0, .inr (7, [.int 0, .int 0, .int 0, .int 0, .int 0, .int 0, .int 0, .int 0, .int 0, .null, .null]))] := hD
  refine lv_aload_n hx hb dX7_init_19 rfl (lv_at hl 0 rfl) ?_
  refine lv_iconst (v := 0) hx hb dX7_init_20 (by decide) ?_
  refine va_put (D := (dC, dI)) (ci := 7) (v := .int 0) (ty := .int) (C := RX7) (T := TX7) (N := 11) hx hb hts inX7_init_X7 tyX7 tyX7_ok nmX7 hown hK hP hD hS 0 rfl rfl 3 (by decide) (hts (.fieldLink RX7 22 "LeadPark$Stroll" "lead" "I") (List.mem_of_getElem? (i := 7) rfl)) (fun _ h9 => h9) rfl (by decide +kernel) rfl rfl (Nat.le_of_ble_eq_true rfl) dX7_init_21 (fun H locs hP hD hS => ?_)
  have hP : va_P (dC, dI) vwCl [(a0, .inr (7, [.int 0, .int 0, .int 0, .int 0, .int 0, .int 0, .int 0, .int 0, .int 0, .null, .null]))] H := hP
  have hD : va_D A [(a0, .inr (7, [.int 0, .int 0, .int 0, .int 0, .int 0, .int 0, .int 0, .int 0, .int 0, .null, .null]))] := hD
  refine lv_aload_n hx hb dX7_init_24 rfl (lv_at hl 0 rfl) ?_
  refine lv_iconst (v := 0) hx hb dX7_init_25 (by decide) ?_
  refine va_put (D := (dC, dI)) (ci := 7) (v := .int 0) (ty := .int) (C := RX7) (T := TX7) (N := 11) hx hb hts inX7_init_X7 tyX7 tyX7_ok nmX7 hown hK hP hD hS 0 rfl rfl 4 (by decide) (hts (.fieldLink RX7 25 "LeadPark$Stroll" "man" "I") (List.mem_of_getElem? (i := 8) rfl)) (fun _ h9 => h9) rfl (by decide +kernel) rfl rfl (Nat.le_of_ble_eq_true rfl) dX7_init_26 (fun H locs hP hD hS => ?_)
  have hP : va_P (dC, dI) vwCl [(a0, .inr (7, [.int 0, .int 0, .int 0, .int 0, .int 0, .int 0, .int 0, .int 0, .int 0, .null, .null]))] H := hP
  have hD : va_D A [(a0, .inr (7, [.int 0, .int 0, .int 0, .int 0, .int 0, .int 0, .int 0, .int 0, .int 0, .null, .null]))] := hD
  refine lv_aload_n hx hb dX7_init_29 rfl (lv_at hl 0 rfl) ?_
  refine lv_iconst (v := 0) hx hb dX7_init_30 (by decide) ?_
  refine va_put (D := (dC, dI)) (ci := 7) (v := .int 0) (ty := .int) (C := RX7) (T := TX7) (N := 11) hx hb hts inX7_init_X7 tyX7 tyX7_ok nmX7 hown hK hP hD hS 0 rfl rfl 5 (by decide) (hts (.fieldLink RX7 28 "LeadPark$Stroll" "dog" "I") (List.mem_of_getElem? (i := 9) rfl)) (fun _ h9 => h9) rfl (by decide +kernel) rfl rfl (Nat.le_of_ble_eq_true rfl) dX7_init_31 (fun H locs hP hD hS => ?_)
  have hP : va_P (dC, dI) vwCl [(a0, .inr (7, [.int 0, .int 0, .int 0, .int 0, .int 0, .int 0, .int 0, .int 0, .int 0, .null, .null]))] H := hP
  have hD : va_D A [(a0, .inr (7, [.int 0, .int 0, .int 0, .int 0, .int 0, .int 0, .int 0, .int 0, .int 0, .null, .null]))] := hD
  refine lv_aload_n hx hb dX7_init_34 rfl (lv_at hl 0 rfl) ?_
  refine lv_iconst (v := 0) hx hb dX7_init_35 (by decide) ?_
  refine va_put (D := (dC, dI)) (ci := 7) (v := .int 0) (ty := .int) (C := RX7) (T := TX7) (N := 11) hx hb hts inX7_init_X7 tyX7 tyX7_ok nmX7 hown hK hP hD hS 0 rfl rfl 6 (by decide) (hts (.fieldLink RX7 31 "LeadPark$Stroll" "gone" "I") (List.mem_of_getElem? (i := 10) rfl)) (fun _ h9 => h9) rfl (by decide +kernel) rfl rfl (Nat.le_of_ble_eq_true rfl) dX7_init_36 (fun H locs hP hD hS => ?_)
  have hP : va_P (dC, dI) vwCl [(a0, .inr (7, [.int 0, .int 0, .int 0, .int 0, .int 0, .int 0, .int 0, .int 0, .int 0, .null, .null]))] H := hP
  have hD : va_D A [(a0, .inr (7, [.int 0, .int 0, .int 0, .int 0, .int 0, .int 0, .int 0, .int 0, .int 0, .null, .null]))] := hD
  refine lv_aload_n hx hb dX7_init_39 rfl (lv_at hl 0 rfl) ?_
  refine lv_iconst (v := 0) hx hb dX7_init_40 (by decide) ?_
  refine va_put (D := (dC, dI)) (ci := 7) (v := .int 0) (ty := .int) (C := RX7) (T := TX7) (N := 11) hx hb hts inX7_init_X7 tyX7 tyX7_ok nmX7 hown hK hP hD hS 0 rfl rfl 7 (by decide) (hts (.fieldLink RX7 34 "LeadPark$Stroll" "greatest" "I") (List.mem_of_getElem? (i := 11) rfl)) (fun _ h9 => h9) rfl (by decide +kernel) rfl rfl (Nat.le_of_ble_eq_true rfl) dX7_init_41 (fun H locs hP hD hS => ?_)
  have hP : va_P (dC, dI) vwCl [(a0, .inr (7, [.int 0, .int 0, .int 0, .int 0, .int 0, .int 0, .int 0, .int 0, .int 0, .null, .null]))] H := hP
  have hD : va_D A [(a0, .inr (7, [.int 0, .int 0, .int 0, .int 0, .int 0, .int 0, .int 0, .int 0, .int 0, .null, .null]))] := hD
  refine lv_aload_n hx hb dX7_init_44 rfl (lv_at hl 0 rfl) ?_
  refine lv_iconst (v := 0) hx hb dX7_init_45 (by decide) ?_
  refine va_put (D := (dC, dI)) (ci := 7) (v := .int 0) (ty := .int) (C := RX7) (T := TX7) (N := 11) hx hb hts inX7_init_X7 tyX7 tyX7_ok nmX7 hown hK hP hD hS 0 rfl rfl 8 (by decide) (hts (.fieldLink RX7 37 "LeadPark$Stroll" "remembered" "I") (List.mem_of_getElem? (i := 12) rfl)) (fun _ h9 => h9) rfl (by decide +kernel) rfl rfl (Nat.le_of_ble_eq_true rfl) dX7_init_46 (fun H locs hP hD hS => ?_)
  have hP : va_P (dC, dI) vwCl [(a0, .inr (7, [.int 0, .int 0, .int 0, .int 0, .int 0, .int 0, .int 0, .int 0, .int 0, .null, .null]))] H := hP
  have hD : va_D A [(a0, .inr (7, [.int 0, .int 0, .int 0, .int 0, .int 0, .int 0, .int 0, .int 0, .int 0, .null, .null]))] := hD
  refine lv_aload_n hx hb dX7_init_49 rfl (lv_at hl 0 rfl) ?_
  refine lv_bipush (v := 58) hx hb dX7_init_50 (by decide) ?_
  refine va_newa (atype := .int) (ty := .int) (N' := 58) (a0 := (58, .inl (fun _ => 0))) hx hb (hts (.arrayClass .int) (List.mem_of_getElem? (i := 13) rfl)) rfl hK hP hD hS hA (nw_I 58) (by decide) (by decide) (by decide) (by decide) (by decide) dX7_init_52 (fun q1 cA H hK1 hP hD hS => ?_)
  rw [cy_eq 0 hK1 rfl rfl] at hP hD
  have hP : va_P (dC, dI) vwCl [(a0, .inr (7, [.int 0, .int 0, .int 0, .int 0, .int 0, .int 0, .int 0, .int 0, .int 0, .null, .null])), (q1, .inl (cyI, 58, .inl (fun _ => 0)))] H := hP
  have hD : va_D A [(a0, .inr (7, [.int 0, .int 0, .int 0, .int 0, .int 0, .int 0, .int 0, .int 0, .int 0, .null, .null])), (q1, .inl (cyI, 58, .inl (fun _ => 0)))] := hD
  refine W.widen (k := 1) (n := 58) (by decide) (by decide) ?_
  refine va_putF (D := (dC, dI)) (ci := 7) (v := .ref q1) (ty := .array .int) (C := RX7) (T := TX7) (N := 11) hx hb hts inX7_init_X7 tyX7 tyX7_ok nmX7 hown hK hP hD hS 0 rfl rfl 9 (by decide) (hts (.fieldLink RX7 40 "LeadPark$Stroll" "steps" "[I") (List.mem_of_getElem? (i := 14) rfl)) (fun _ h9 => h9) rfl hin rfl (by decide +kernel) rfl rfl (Nat.le_of_ble_eq_true rfl) dX7_init_54 (fun H locs hP hD hS => ?_)
  have hP : va_P (dC, dI) vwCl [(a0, .inr (7, [.int 0, .int 0, .int 0, .int 0, .int 0, .int 0, .int 0, .int 0, .int 0, .ref q1, .null])), (q1, .inl (cyI, 58, .inl (fun _ => 0)))] H := hP
  have hD : va_D A [(a0, .inr (7, [.int 0, .int 0, .int 0, .int 0, .int 0, .int 0, .int 0, .int 0, .int 0, .ref q1, .null])), (q1, .inl (cyI, 58, .inl (fun _ => 0)))] := hD
  refine lv_aload_n hx hb dX7_init_57 rfl (lv_at hl 0 rfl) ?_
  refine lv_bipush (v := 58) hx hb dX7_init_58 (by decide) ?_
  refine va_newa (atype := .int) (ty := .int) (N' := 58) (a0 := (58, .inl (fun _ => 0))) hx hb (hts (.arrayClass .int) (List.mem_of_getElem? (i := 13) rfl)) rfl hK hP hD hS hA (nw_I 58) (by decide) (by decide) (by decide) (by decide) (by decide) dX7_init_60 (fun q2 cA H hK1 hP hD hS => ?_)
  rw [cy_eq 0 hK1 rfl rfl] at hP hD
  have hP : va_P (dC, dI) vwCl [(a0, .inr (7, [.int 0, .int 0, .int 0, .int 0, .int 0, .int 0, .int 0, .int 0, .int 0, .ref q1, .null])), (q1, .inl (cyI, 58, .inl (fun _ => 0))), (q2, .inl (cyI, 58, .inl (fun _ => 0)))] H := hP
  have hD : va_D A [(a0, .inr (7, [.int 0, .int 0, .int 0, .int 0, .int 0, .int 0, .int 0, .int 0, .int 0, .ref q1, .null])), (q1, .inl (cyI, 58, .inl (fun _ => 0))), (q2, .inl (cyI, 58, .inl (fun _ => 0)))] := hD
  refine W.widen (k := 2) (n := 116) (by decide) (by decide) ?_
  refine va_putF (D := (dC, dI)) (ci := 7) (v := .ref q2) (ty := .array .int) (C := RX7) (T := TX7) (N := 11) hx hb hts inX7_init_X7 tyX7 tyX7_ok nmX7 hown hK hP hD hS 0 rfl rfl 10 (by decide) (hts (.fieldLink RX7 44 "LeadPark$Stroll" "greatestAhead" "[I") (List.mem_of_getElem? (i := 15) rfl)) (fun _ h9 => h9) rfl hin rfl (by decide +kernel) rfl rfl (Nat.le_of_ble_eq_true rfl) dX7_init_62 (fun H locs hP hD hS => ?_)
  have hP : va_P (dC, dI) vwCl [(a0, .inr (7, [.int 0, .int 0, .int 0, .int 0, .int 0, .int 0, .int 0, .int 0, .int 0, .ref q1, .ref q2])), (q1, .inl (cyI, 58, .inl (fun _ => 0))), (q2, .inl (cyI, 58, .inl (fun _ => 0)))] H := hP
  have hD : va_D A [(a0, .inr (7, [.int 0, .int 0, .int 0, .int 0, .int 0, .int 0, .int 0, .int 0, .int 0, .ref q1, .ref q2])), (q1, .inl (cyI, 58, .inl (fun _ => 0))), (q2, .inl (cyI, 58, .inl (fun _ => 0)))] := hD
  exact W.vret hx hb hr (fun t ht hW => ⟨⟨(), rfl, trivial, q1, q2, by rw [ht]; exact hP, va_K.moved hW.alike hK, hD⟩, hS.F ht⟩) hS.2.2 dX7_init_65
/-! LeadPark$Scene() -/
theorem inX6_init_X1 : ∀ w ∈ wsX10, w ∈ wsX6_init := fun _ h => List.mem_cons_of_mem _ (List.mem_append_left _ (List.mem_append_left _ (List.mem_append_left _ (List.mem_append_left _ (List.mem_append_right _ h)))))
theorem inX6_init_X2 : ∀ w ∈ wsX20, w ∈ wsX6_init := fun _ h => List.mem_cons_of_mem _ (List.mem_append_left _ (List.mem_append_left _ (List.mem_append_right _ h)))
theorem inX6_init_X3 : ∀ w ∈ wsX30, w ∈ wsX6_init := fun _ h => List.mem_cons_of_mem _ (List.mem_append_left _ (List.mem_append_right _ h))
theorem inX6_init_X6 : ∀ w ∈ wsX60, w ∈ wsX6_init := fun _ h => List.mem_cons_of_mem _ (List.mem_append_left _ (List.mem_append_left _ (List.mem_append_left _ (List.mem_append_right _ h))))
theorem inX6_init_X7 : ∀ w ∈ wsX70, w ∈ wsX6_init := fun _ h => List.mem_cons_of_mem _ (List.mem_append_right _ h)
theorem iniX6 : ∀ j, j < 5 → defaultValue (tyX6 j) = vp_V [.null, .null, .null, .null, .int 0] j := by intro j hj; rcases (show j = 0 ∨ j = 1 ∨ j = 2 ∨ j = 3 ∨ j = 4 by omega) with rfl | rfl | rfl | rfl | rfl <;> rfl
abbrev rmX6_init : Room := { frames := 2, cells := 16, slots := 1394, locals := 44 }
def iX6 (dC : Nat → ClassId) (dI : Nat → Nat → Nat) (cyI cyB cyJ cyZ : ClassId) (A : Nat → Prop) (a0 : Nat) (t : State) : Prop := ∃ (q1 q2 q3 q4 q5 q6 q7 q8 q9 q10 q11 q12 q13 q14 q15 q16 : Nat), wAt dC dI cyI cyB cyJ cyZ A [(a0, .inr (6, [.ref q1, .ref q6, .ref q9, .ref q14, .int 1])), (q1, .inr (1, [.ref q2, .ref q3, .ref q4, .ref q5, .int 0, .int 0, .int 0])), (q2, .inl (cyI, 360, .inl (fun _ => 0))), (q3, .inl (cyI, 360, .inl (fun _ => 0))), (q4, .inl (cyI, 12, .inl (fun _ => 0))), (q5, .inl (cyI, 32, .inl (fun _ => 0))), (q6, .inr (2, [.ref q7, .ref q8, .int 0, .int (-1)])), (q7, .inl (cyI, 400, .inl (fun _ => 0))), (q8, .inl (cyI, 7, .inl (fun _ => 0))), (q9, .inr (3, [.ref q10, .ref q11, .ref q12, .ref q13, .int 0])), (q10, .inl (cyI, 20, .inl (fun _ => 0))), (q11, .inl (cyI, 20, .inl (fun _ => 0))), (q12, .inl (cyI, 20, .inl (fun _ => 0))), (q13, .inl (cyI, 20, .inl (fun _ => 0))), (q14, .inr (7, [.int 0, .int 0, .int 0, .int 0, .int 0, .int 0, .int 0, .int 0, .int 0, .ref q15, .ref q16])), (q15, .inl (cyI, 58, .inl (fun _ => 0))), (q16, .inl (cyI, 58, .inl (fun _ => 0)))] t
set_option maxRecDepth 100000 in
set_option maxHeartbeats 8000000 in
theorem ctX6_init (l : Launch) (dC : Nat → ClassId) (dI : Nat → Nat → Nat) (cyI cyB cyJ cyZ : ClassId) (sz a0 : Nat) : Met l yX6_init wsX6_init rmX6_init (va_Pc [.ref a0] (wPre dC dI cyI cyB cyJ cyZ sz [(a0, .inr (6, [.null, .null, .null, .null, .int 0]))])) (va_Qv (fun _ : Unit => True) (fun _ t => iX6 dC dI cyI cyB cyJ cyZ (va_A [(a0, .inr (6, [.null, .null, .null, .null, .int 0]))] sz) a0 t) (va_A [(a0, .inr (6, [.null, .null, .null, .null, .int 0]))] sz)) 16 1394 (va_A [(a0, .inr (6, [.null, .null, .null, .null, .int 0]))] sz) := by
  refine Met.ofW (cc := cX6_init) (maxL := 1) (ret := none) (by decide) rfl ?_
  intro p e s m args below meth c s₁ B hml hv
  obtain ⟨rfl, hsz, hP, hK, hD0, hN⟩ := hv
  have hx := B.exec
  have hb := B.bytes
  have hr := B.returns
  have hts := atoms_spec (ws := wsX6_init) B.pre
  have hown : s.vm.findClass RX6 = some m.cls := findClass_of_methodNamed B.named
  have hlocks := B.notSynchronized
  have hin : meth.name = "<init>" := (name_of_methodNamed B.named B.method).1
  subst hsz
  have hD := hD0.self (sz := s.heap.size)
  generalize hAe : va_A [(a0, .inr (6, [.null, .null, .null, .null, .int 0]))] s.heap.size = A at hD ⊢
  have hA : ∀ q : Nat, s.heap.size ≤ q → A q := fun q h => by rw [← hAe]; exact Or.inr h
  have hS : va_S A s.heap s.heap [] := va_S.rf
  have hl := lv_entry ([.ref a0]) (n := 1) (Nat.le_of_ble_eq_true rfl)
  rw [lg_entry_eq]
  generalize (lg_sl ([.ref a0]) ++ List.replicate (1 - (lg_sl ([.ref a0])).length) Slot.unset).toArray = ls at hl ⊢
  have hl : lv_has ls 1 [(0, .ref a0)] := hl
  show W p l e rmX6_init s m _ below meth c _ _ _ _ _ _
  refine lv_aload_n hx hb dX6_init_0 rfl (lv_at hl 0 rfl) ?_
  refine W.objInit hx hb hown (hts (.methodLink RX6 3 objectInit) (List.mem_of_getElem? (i := 1) rfl)) (hts (.instanceMethod objectInit) (List.mem_of_getElem? (i := 2) rfl)) (hts (.code objectInit ⟨#[0xb1]⟩ 1 none) (List.mem_of_getElem? (i := 3) rfl)) rfl (by rw [hml]; exact hl.1) rfl dX6_init_1 (Nat.le_of_ble_eq_true rfl) (Nat.le_of_ble_eq_true rfl) ?_
  refine W.eq (g2 := F0 m 4 ls []) rfl ?_
  refine lv_aload_n hx hb dX6_init_4 rfl (lv_at hl 0 rfl) ?_
  refine va_new (ci := 1) (fs := [.null, .null, .null, .null, .int 0, .int 0, .int 0]) (C := RX1) (T := TX1) (N := 7) hx hb hts inX6_init_X1 tyX1 tyX1_ok hown (hts (.classLink RX6 9 RX1) (List.mem_of_getElem? (i := 4) rfl)) (hts (.instantiable RX1 7) (List.mem_of_getElem? (i := 5) rfl)) (hts (.initialized RX1) (List.mem_of_getElem? (i := 6) rfl)) hK hP hD hS hA rfl iniX1 (by decide) (by decide) dX6_init_5 (fun q1 H hP hD hS => ?_)
  have hP : va_P (dC, dI) vwCl [(a0, .inr (6, [.null, .null, .null, .null, .int 0])), (q1, .inr (1, [.null, .null, .null, .null, .int 0, .int 0, .int 0]))] H := hP
  have hD : va_D A [(a0, .inr (6, [.null, .null, .null, .null, .int 0])), (q1, .inr (1, [.null, .null, .null, .null, .int 0, .int 0, .int 0]))] := hD
  refine W.widen (k := 1) (n := 7) (by decide) (by decide) ?_
  refine lv_dup hx hb dX6_init_8 rfl ?_
  have hPc := hP.sub (ws' := [(q1, .inr (1, [.null, .null, .null, .null, .int 0, .int 0, .int 0]))]) [1] rfl
  have hDc := hD.sub (ws' := [(q1, .inr (1, [.null, .null, .null, .null, .int 0, .int 0, .int 0]))]) [1] (by decide) rfl
  have hFc := va_free (wc := [(q1, .inr (1, [.null, .null, .null, .null, .int 0, .int 0, .int 0]))]) hD hS hA [1] rfl
  refine va_callv (va_runIN (As := []) (rest := [.ref q1, .ref a0]) ⟨hx, hb, hml, hown, hts⟩ (ctX1_init l dC dI cyI cyB cyJ cyZ _ q1) ⟨va_cnB 0 hts ggX6_init_X1_init rfl rfl rfl (hN _ (List.mem_of_getElem? (i := 38) rfl)) (hts (.initialized RX1) (List.mem_of_getElem? (i := 6) rfl)) (by decide +kernel) ⟨Nat.le_of_ble_eq_true rfl, Nat.le_of_ble_eq_true rfl⟩, rfl, (hts (.instanceMethod yX1_init) (List.mem_of_getElem? (i := 21) rfl))⟩ ⟨wPre_blind, fun U hU hW => wPre_of hPc hK hDc hN hU hW⟩ rfl rfl hl.1 rfl (lv_room (Nat.le_of_ble_eq_true rfl)) dX6_init_9 ⟨by decide, by decide⟩) hS (fun q _ h => hFc q h) hFc (fun u t H1 locs ht hvm hw hB hz1 hk1 hS => ?_)
  obtain ⟨q2, q3, q4, q5, hP1, hK1, hD1⟩ := hB
  rw [ht] at hP1
  obtain ⟨hP, hD⟩ := va_join (wr := [(a0, .inr (6, [.null, .null, .null, .null, .int 0]))]) (w1 := [(q1, .inr (1, [.ref q2, .ref q3, .ref q4, .ref q5, .int 0, .int 0, .int 0])), (q2, .inl (cyI, 360, .inl (fun _ => 0))), (q3, .inl (cyI, 360, .inl (fun _ => 0))), (q4, .inl (cyI, 12, .inl (fun _ => 0))), (q5, .inl (cyI, 32, .inl (fun _ => 0)))]) hP hD [1] [0] rfl rfl (by decide) (by decide) hk1 hFc hP1 hD1
  generalize H1 = H at hP hS ⊢
  have hP : va_P (dC, dI) vwCl [(a0, .inr (6, [.null, .null, .null, .null, .int 0])), (q1, .inr (1, [.ref q2, .ref q3, .ref q4, .ref q5, .int 0, .int 0, .int 0])), (q2, .inl (cyI, 360, .inl (fun _ => 0))), (q3, .inl (cyI, 360, .inl (fun _ => 0))), (q4, .inl (cyI, 12, .inl (fun _ => 0))), (q5, .inl (cyI, 32, .inl (fun _ => 0)))] H := hP
  have hD : va_D A [(a0, .inr (6, [.null, .null, .null, .null, .int 0])), (q1, .inr (1, [.ref q2, .ref q3, .ref q4, .ref q5, .int 0, .int 0, .int 0])), (q2, .inl (cyI, 360, .inl (fun _ => 0))), (q3, .inl (cyI, 360, .inl (fun _ => 0))), (q4, .inl (cyI, 12, .inl (fun _ => 0))), (q5, .inl (cyI, 32, .inl (fun _ => 0)))] := hD
  refine W.widen (k := 5) (n := 771) (by decide) (by decide) ?_
  refine va_putF (D := (dC, dI)) (ci := 6) (v := .ref q1) (ty := .object "LeadPark$Ground") (C := RX6) (T := TX6) (N := 5) hx hb hts inX6_init_X6 tyX6 tyX6_ok nmX6 hown hK hP hD hS 0 rfl rfl 0 (by decide) (hts (.fieldLink RX6 12 "LeadPark$Scene" "ground" "LLeadPark$Ground;") (List.mem_of_getElem? (i := 7) rfl)) (fun _ h9 => h9) rfl hin rfl (by decide +kernel) rfl rfl (Nat.le_of_ble_eq_true rfl) dX6_init_12 (fun H locs hP hD hS => ?_)
  have hP : va_P (dC, dI) vwCl [(a0, .inr (6, [.ref q1, .null, .null, .null, .int 0])), (q1, .inr (1, [.ref q2, .ref q3, .ref q4, .ref q5, .int 0, .int 0, .int 0])), (q2, .inl (cyI, 360, .inl (fun _ => 0))), (q3, .inl (cyI, 360, .inl (fun _ => 0))), (q4, .inl (cyI, 12, .inl (fun _ => 0))), (q5, .inl (cyI, 32, .inl (fun _ => 0)))] H := hP
  have hD : va_D A [(a0, .inr (6, [.ref q1, .null, .null, .null, .int 0])), (q1, .inr (1, [.ref q2, .ref q3, .ref q4, .ref q5, .int 0, .int 0, .int 0])), (q2, .inl (cyI, 360, .inl (fun _ => 0))), (q3, .inl (cyI, 360, .inl (fun _ => 0))), (q4, .inl (cyI, 12, .inl (fun _ => 0))), (q5, .inl (cyI, 32, .inl (fun _ => 0)))] := hD
  refine lv_aload_n hx hb dX6_init_15 rfl (lv_at hl 0 rfl) ?_
  refine va_new (ci := 2) (fs := [.null, .null, .int 0, .int 0]) (C := RX2) (T := TX2) (N := 4) hx hb hts inX6_init_X2 tyX2 tyX2_ok hown (hts (.classLink RX6 18 RX2) (List.mem_of_getElem? (i := 8) rfl)) (hts (.instantiable RX2 4) (List.mem_of_getElem? (i := 9) rfl)) (hts (.initialized RX2) (List.mem_of_getElem? (i := 10) rfl)) hK hP hD hS hA rfl iniX2 (by decide) (by decide) dX6_init_16 (fun q6 H hP hD hS => ?_)
  have hP : va_P (dC, dI) vwCl [(a0, .inr (6, [.ref q1, .null, .null, .null, .int 0])), (q1, .inr (1, [.ref q2, .ref q3, .ref q4, .ref q5, .int 0, .int 0, .int 0])), (q2, .inl (cyI, 360, .inl (fun _ => 0))), (q3, .inl (cyI, 360, .inl (fun _ => 0))), (q4, .inl (cyI, 12, .inl (fun _ => 0))), (q5, .inl (cyI, 32, .inl (fun _ => 0))), (q6, .inr (2, [.null, .null, .int 0, .int 0]))] H := hP
  have hD : va_D A [(a0, .inr (6, [.ref q1, .null, .null, .null, .int 0])), (q1, .inr (1, [.ref q2, .ref q3, .ref q4, .ref q5, .int 0, .int 0, .int 0])), (q2, .inl (cyI, 360, .inl (fun _ => 0))), (q3, .inl (cyI, 360, .inl (fun _ => 0))), (q4, .inl (cyI, 12, .inl (fun _ => 0))), (q5, .inl (cyI, 32, .inl (fun _ => 0))), (q6, .inr (2, [.null, .null, .int 0, .int 0]))] := hD
  refine W.widen (k := 6) (n := 775) (by decide) (by decide) ?_
  refine lv_dup hx hb dX6_init_19 rfl ?_
  have hPc := hP.sub (ws' := [(q6, .inr (2, [.null, .null, .int 0, .int 0]))]) [6] rfl
  have hDc := hD.sub (ws' := [(q6, .inr (2, [.null, .null, .int 0, .int 0]))]) [6] (by decide) rfl
  have hFc := va_free (wc := [(q6, .inr (2, [.null, .null, .int 0, .int 0]))]) hD hS hA [6] rfl
  refine va_callv (va_runIN (As := []) (rest := [.ref q6, .ref a0]) ⟨hx, hb, hml, hown, hts⟩ (ctX2_init l dC dI cyI cyB cyJ cyZ _ q6) ⟨va_cnB 0 hts ggX6_init_X2_init rfl rfl rfl (hN _ (List.mem_of_getElem? (i := 39) rfl)) (hts (.initialized RX2) (List.mem_of_getElem? (i := 10) rfl)) (by decide +kernel) ⟨Nat.le_of_ble_eq_true rfl, Nat.le_of_ble_eq_true rfl⟩, rfl, (hts (.instanceMethod yX2_init) (List.mem_of_getElem? (i := 32) rfl))⟩ ⟨wPre_blind, fun U hU hW => wPre_of hPc hK hDc hN hU hW⟩ rfl rfl hl.1 rfl (lv_room (Nat.le_of_ble_eq_true rfl)) dX6_init_20 ⟨by decide, by decide⟩) hS (fun q _ h => hFc q h) hFc (fun u t H1 locs ht hvm hw hB hz1 hk1 hS => ?_)
  obtain ⟨q7, q8, hP1, hK1, hD1⟩ := hB
  rw [ht] at hP1
  obtain ⟨hP, hD⟩ := va_join (wr := [(a0, .inr (6, [.ref q1, .null, .null, .null, .int 0])), (q1, .inr (1, [.ref q2, .ref q3, .ref q4, .ref q5, .int 0, .int 0, .int 0])), (q2, .inl (cyI, 360, .inl (fun _ => 0))), (q3, .inl (cyI, 360, .inl (fun _ => 0))), (q4, .inl (cyI, 12, .inl (fun _ => 0))), (q5, .inl (cyI, 32, .inl (fun _ => 0)))]) (w1 := [(q6, .inr (2, [.ref q7, .ref q8, .int 0, .int (-1)])), (q7, .inl (cyI, 400, .inl (fun _ => 0))), (q8, .inl (cyI, 7, .inl (fun _ => 0)))]) hP hD [6] [0, 1, 2, 3, 4, 5] rfl rfl (by decide) (by decide) hk1 hFc hP1 hD1
  generalize H1 = H at hP hS ⊢
  have hP : va_P (dC, dI) vwCl [(a0, .inr (6, [.ref q1, .null, .null, .null, .int 0])), (q1, .inr (1, [.ref q2, .ref q3, .ref q4, .ref q5, .int 0, .int 0, .int 0])), (q2, .inl (cyI, 360, .inl (fun _ => 0))), (q3, .inl (cyI, 360, .inl (fun _ => 0))), (q4, .inl (cyI, 12, .inl (fun _ => 0))), (q5, .inl (cyI, 32, .inl (fun _ => 0))), (q6, .inr (2, [.ref q7, .ref q8, .int 0, .int (-1)])), (q7, .inl (cyI, 400, .inl (fun _ => 0))), (q8, .inl (cyI, 7, .inl (fun _ => 0)))] H := hP
  have hD : va_D A [(a0, .inr (6, [.ref q1, .null, .null, .null, .int 0])), (q1, .inr (1, [.ref q2, .ref q3, .ref q4, .ref q5, .int 0, .int 0, .int 0])), (q2, .inl (cyI, 360, .inl (fun _ => 0))), (q3, .inl (cyI, 360, .inl (fun _ => 0))), (q4, .inl (cyI, 12, .inl (fun _ => 0))), (q5, .inl (cyI, 32, .inl (fun _ => 0))), (q6, .inr (2, [.ref q7, .ref q8, .int 0, .int (-1)])), (q7, .inl (cyI, 400, .inl (fun _ => 0))), (q8, .inl (cyI, 7, .inl (fun _ => 0)))] := hD
  refine W.widen (k := 8) (n := 1182) (by decide) (by decide) ?_
  refine va_putF (D := (dC, dI)) (ci := 6) (v := .ref q6) (ty := .object "LeadPark$Law") (C := RX6) (T := TX6) (N := 5) hx hb hts inX6_init_X6 tyX6 tyX6_ok nmX6 hown hK hP hD hS 0 rfl rfl 1 (by decide) (hts (.fieldLink RX6 21 "LeadPark$Scene" "law" "LLeadPark$Law;") (List.mem_of_getElem? (i := 11) rfl)) (fun _ h9 => h9) rfl hin rfl (by decide +kernel) rfl rfl (Nat.le_of_ble_eq_true rfl) dX6_init_23 (fun H locs hP hD hS => ?_)
  have hP : va_P (dC, dI) vwCl [(a0, .inr (6, [.ref q1, .ref q6, .null, .null, .int 0])), (q1, .inr (1, [.ref q2, .ref q3, .ref q4, .ref q5, .int 0, .int 0, .int 0])), (q2, .inl (cyI, 360, .inl (fun _ => 0))), (q3, .inl (cyI, 360, .inl (fun _ => 0))), (q4, .inl (cyI, 12, .inl (fun _ => 0))), (q5, .inl (cyI, 32, .inl (fun _ => 0))), (q6, .inr (2, [.ref q7, .ref q8, .int 0, .int (-1)])), (q7, .inl (cyI, 400, .inl (fun _ => 0))), (q8, .inl (cyI, 7, .inl (fun _ => 0)))] H := hP
  have hD : va_D A [(a0, .inr (6, [.ref q1, .ref q6, .null, .null, .int 0])), (q1, .inr (1, [.ref q2, .ref q3, .ref q4, .ref q5, .int 0, .int 0, .int 0])), (q2, .inl (cyI, 360, .inl (fun _ => 0))), (q3, .inl (cyI, 360, .inl (fun _ => 0))), (q4, .inl (cyI, 12, .inl (fun _ => 0))), (q5, .inl (cyI, 32, .inl (fun _ => 0))), (q6, .inr (2, [.ref q7, .ref q8, .int 0, .int (-1)])), (q7, .inl (cyI, 400, .inl (fun _ => 0))), (q8, .inl (cyI, 7, .inl (fun _ => 0)))] := hD
  refine lv_aload_n hx hb dX6_init_26 rfl (lv_at hl 0 rfl) ?_
  refine va_new (ci := 3) (fs := [.null, .null, .null, .null, .int 0]) (C := RX3) (T := TX3) (N := 5) hx hb hts inX6_init_X3 tyX3 tyX3_ok hown (hts (.classLink RX6 25 RX3) (List.mem_of_getElem? (i := 12) rfl)) (hts (.instantiable RX3 5) (List.mem_of_getElem? (i := 13) rfl)) (hts (.initialized RX3) (List.mem_of_getElem? (i := 14) rfl)) hK hP hD hS hA rfl iniX3 (by decide) (by decide) dX6_init_27 (fun q9 H hP hD hS => ?_)
  have hP : va_P (dC, dI) vwCl [(a0, .inr (6, [.ref q1, .ref q6, .null, .null, .int 0])), (q1, .inr (1, [.ref q2, .ref q3, .ref q4, .ref q5, .int 0, .int 0, .int 0])), (q2, .inl (cyI, 360, .inl (fun _ => 0))), (q3, .inl (cyI, 360, .inl (fun _ => 0))), (q4, .inl (cyI, 12, .inl (fun _ => 0))), (q5, .inl (cyI, 32, .inl (fun _ => 0))), (q6, .inr (2, [.ref q7, .ref q8, .int 0, .int (-1)])), (q7, .inl (cyI, 400, .inl (fun _ => 0))), (q8, .inl (cyI, 7, .inl (fun _ => 0))), (q9, .inr (3, [.null, .null, .null, .null, .int 0]))] H := hP
  have hD : va_D A [(a0, .inr (6, [.ref q1, .ref q6, .null, .null, .int 0])), (q1, .inr (1, [.ref q2, .ref q3, .ref q4, .ref q5, .int 0, .int 0, .int 0])), (q2, .inl (cyI, 360, .inl (fun _ => 0))), (q3, .inl (cyI, 360, .inl (fun _ => 0))), (q4, .inl (cyI, 12, .inl (fun _ => 0))), (q5, .inl (cyI, 32, .inl (fun _ => 0))), (q6, .inr (2, [.ref q7, .ref q8, .int 0, .int (-1)])), (q7, .inl (cyI, 400, .inl (fun _ => 0))), (q8, .inl (cyI, 7, .inl (fun _ => 0))), (q9, .inr (3, [.null, .null, .null, .null, .int 0]))] := hD
  refine W.widen (k := 9) (n := 1187) (by decide) (by decide) ?_
  refine lv_dup hx hb dX6_init_30 rfl ?_
  have hPc := hP.sub (ws' := [(q9, .inr (3, [.null, .null, .null, .null, .int 0]))]) [9] rfl
  have hDc := hD.sub (ws' := [(q9, .inr (3, [.null, .null, .null, .null, .int 0]))]) [9] (by decide) rfl
  have hFc := va_free (wc := [(q9, .inr (3, [.null, .null, .null, .null, .int 0]))]) hD hS hA [9] rfl
  refine va_callv (va_runIN (As := []) (rest := [.ref q9, .ref a0]) ⟨hx, hb, hml, hown, hts⟩ (ctX3_init l dC dI cyI cyB cyJ cyZ _ q9) ⟨va_cnB 0 hts ggX6_init_X3_init rfl rfl rfl (hN _ (List.mem_of_getElem? (i := 40) rfl)) (hts (.initialized RX3) (List.mem_of_getElem? (i := 14) rfl)) (by decide +kernel) ⟨Nat.le_of_ble_eq_true rfl, Nat.le_of_ble_eq_true rfl⟩, rfl, (hts (.instanceMethod yX3_init) (List.mem_of_getElem? (i := 39) rfl))⟩ ⟨wPre_blind, fun U hU hW => wPre_of hPc hK hDc hN hU hW⟩ rfl rfl hl.1 rfl (lv_room (Nat.le_of_ble_eq_true rfl)) dX6_init_31 ⟨by decide, by decide⟩) hS (fun q _ h => hFc q h) hFc (fun u t H1 locs ht hvm hw hB hz1 hk1 hS => ?_)
  obtain ⟨q10, q11, q12, q13, hP1, hK1, hD1⟩ := hB
  rw [ht] at hP1
  obtain ⟨hP, hD⟩ := va_join (wr := [(a0, .inr (6, [.ref q1, .ref q6, .null, .null, .int 0])), (q1, .inr (1, [.ref q2, .ref q3, .ref q4, .ref q5, .int 0, .int 0, .int 0])), (q2, .inl (cyI, 360, .inl (fun _ => 0))), (q3, .inl (cyI, 360, .inl (fun _ => 0))), (q4, .inl (cyI, 12, .inl (fun _ => 0))), (q5, .inl (cyI, 32, .inl (fun _ => 0))), (q6, .inr (2, [.ref q7, .ref q8, .int 0, .int (-1)])), (q7, .inl (cyI, 400, .inl (fun _ => 0))), (q8, .inl (cyI, 7, .inl (fun _ => 0)))]) (w1 := [(q9, .inr (3, [.ref q10, .ref q11, .ref q12, .ref q13, .int 0])), (q10, .inl (cyI, 20, .inl (fun _ => 0))), (q11, .inl (cyI, 20, .inl (fun _ => 0))), (q12, .inl (cyI, 20, .inl (fun _ => 0))), (q13, .inl (cyI, 20, .inl (fun _ => 0)))]) hP hD [9] [0, 1, 2, 3, 4, 5, 6, 7, 8] rfl rfl (by decide) (by decide) hk1 hFc hP1 hD1
  generalize H1 = H at hP hS ⊢
  have hP : va_P (dC, dI) vwCl [(a0, .inr (6, [.ref q1, .ref q6, .null, .null, .int 0])), (q1, .inr (1, [.ref q2, .ref q3, .ref q4, .ref q5, .int 0, .int 0, .int 0])), (q2, .inl (cyI, 360, .inl (fun _ => 0))), (q3, .inl (cyI, 360, .inl (fun _ => 0))), (q4, .inl (cyI, 12, .inl (fun _ => 0))), (q5, .inl (cyI, 32, .inl (fun _ => 0))), (q6, .inr (2, [.ref q7, .ref q8, .int 0, .int (-1)])), (q7, .inl (cyI, 400, .inl (fun _ => 0))), (q8, .inl (cyI, 7, .inl (fun _ => 0))), (q9, .inr (3, [.ref q10, .ref q11, .ref q12, .ref q13, .int 0])), (q10, .inl (cyI, 20, .inl (fun _ => 0))), (q11, .inl (cyI, 20, .inl (fun _ => 0))), (q12, .inl (cyI, 20, .inl (fun _ => 0))), (q13, .inl (cyI, 20, .inl (fun _ => 0)))] H := hP
  have hD : va_D A [(a0, .inr (6, [.ref q1, .ref q6, .null, .null, .int 0])), (q1, .inr (1, [.ref q2, .ref q3, .ref q4, .ref q5, .int 0, .int 0, .int 0])), (q2, .inl (cyI, 360, .inl (fun _ => 0))), (q3, .inl (cyI, 360, .inl (fun _ => 0))), (q4, .inl (cyI, 12, .inl (fun _ => 0))), (q5, .inl (cyI, 32, .inl (fun _ => 0))), (q6, .inr (2, [.ref q7, .ref q8, .int 0, .int (-1)])), (q7, .inl (cyI, 400, .inl (fun _ => 0))), (q8, .inl (cyI, 7, .inl (fun _ => 0))), (q9, .inr (3, [.ref q10, .ref q11, .ref q12, .ref q13, .int 0])), (q10, .inl (cyI, 20, .inl (fun _ => 0))), (q11, .inl (cyI, 20, .inl (fun _ => 0))), (q12, .inl (cyI, 20, .inl (fun _ => 0))), (q13, .inl (cyI, 20, .inl (fun _ => 0)))] := hD
  refine W.widen (k := 13) (n := 1267) (by decide) (by decide) ?_
  refine va_putF (D := (dC, dI)) (ci := 6) (v := .ref q9) (ty := .object "LeadPark$Marks") (C := RX6) (T := TX6) (N := 5) hx hb hts inX6_init_X6 tyX6 tyX6_ok nmX6 hown hK hP hD hS 0 rfl rfl 2 (by decide) (hts (.fieldLink RX6 28 "LeadPark$Scene" "marks" "LLeadPark$Marks;") (List.mem_of_getElem? (i := 15) rfl)) (fun _ h9 => h9) rfl hin rfl (by decide +kernel) rfl rfl (Nat.le_of_ble_eq_true rfl) dX6_init_34 (fun H locs hP hD hS => ?_)
  have hP : va_P (dC, dI) vwCl [(a0, .inr (6, [.ref q1, .ref q6, .ref q9, .null, .int 0])), (q1, .inr (1, [.ref q2, .ref q3, .ref q4, .ref q5, .int 0, .int 0, .int 0])), (q2, .inl (cyI, 360, .inl (fun _ => 0))), (q3, .inl (cyI, 360, .inl (fun _ => 0))), (q4, .inl (cyI, 12, .inl (fun _ => 0))), (q5, .inl (cyI, 32, .inl (fun _ => 0))), (q6, .inr (2, [.ref q7, .ref q8, .int 0, .int (-1)])), (q7, .inl (cyI, 400, .inl (fun _ => 0))), (q8, .inl (cyI, 7, .inl (fun _ => 0))), (q9, .inr (3, [.ref q10, .ref q11, .ref q12, .ref q13, .int 0])), (q10, .inl (cyI, 20, .inl (fun _ => 0))), (q11, .inl (cyI, 20, .inl (fun _ => 0))), (q12, .inl (cyI, 20, .inl (fun _ => 0))), (q13, .inl (cyI, 20, .inl (fun _ => 0)))] H := hP
  have hD : va_D A [(a0, .inr (6, [.ref q1, .ref q6, .ref q9, .null, .int 0])), (q1, .inr (1, [.ref q2, .ref q3, .ref q4, .ref q5, .int 0, .int 0, .int 0])), (q2, .inl (cyI, 360, .inl (fun _ => 0))), (q3, .inl (cyI, 360, .inl (fun _ => 0))), (q4, .inl (cyI, 12, .inl (fun _ => 0))), (q5, .inl (cyI, 32, .inl (fun _ => 0))), (q6, .inr (2, [.ref q7, .ref q8, .int 0, .int (-1)])), (q7, .inl (cyI, 400, .inl (fun _ => 0))), (q8, .inl (cyI, 7, .inl (fun _ => 0))), (q9, .inr (3, [.ref q10, .ref q11, .ref q12, .ref q13, .int 0])), (q10, .inl (cyI, 20, .inl (fun _ => 0))), (q11, .inl (cyI, 20, .inl (fun _ => 0))), (q12, .inl (cyI, 20, .inl (fun _ => 0))), (q13, .inl (cyI, 20, .inl (fun _ => 0)))] := hD
  refine lv_aload_n hx hb dX6_init_37 rfl (lv_at hl 0 rfl) ?_
  refine va_new (ci := 7) (fs := [.int 0, .int 0, .int 0, .int 0, .int 0, .int 0, .int 0, .int 0, .int 0, .null, .null]) (C := RX7) (T := TX7) (N := 11) hx hb hts inX6_init_X7 tyX7 tyX7_ok hown (hts (.classLink RX6 32 RX7) (List.mem_of_getElem? (i := 16) rfl)) (hts (.instantiable RX7 11) (List.mem_of_getElem? (i := 17) rfl)) (hts (.initialized RX7) (List.mem_of_getElem? (i := 18) rfl)) hK hP hD hS hA rfl iniX7 (by decide) (by decide) dX6_init_38 (fun q14 H hP hD hS => ?_)
  have hP : va_P (dC, dI) vwCl [(a0, .inr (6, [.ref q1, .ref q6, .ref q9, .null, .int 0])), (q1, .inr (1, [.ref q2, .ref q3, .ref q4, .ref q5, .int 0, .int 0, .int 0])), (q2, .inl (cyI, 360, .inl (fun _ => 0))), (q3, .inl (cyI, 360, .inl (fun _ => 0))), (q4, .inl (cyI, 12, .inl (fun _ => 0))), (q5, .inl (cyI, 32, .inl (fun _ => 0))), (q6, .inr (2, [.ref q7, .ref q8, .int 0, .int (-1)])), (q7, .inl (cyI, 400, .inl (fun _ => 0))), (q8, .inl (cyI, 7, .inl (fun _ => 0))), (q9, .inr (3, [.ref q10, .ref q11, .ref q12, .ref q13, .int 0])), (q10, .inl (cyI, 20, .inl (fun _ => 0))), (q11, .inl (cyI, 20, .inl (fun _ => 0))), (q12, .inl (cyI, 20, .inl (fun _ => 0))), (q13, .inl (cyI, 20, .inl (fun _ => 0))), (q14, .inr (7, [.int 0, .int 0, .int 0, .int 0, .int 0, .int 0, .int 0, .int 0, .int 0, .null, .null]))] H := hP
  have hD : va_D A [(a0, .inr (6, [.ref q1, .ref q6, .ref q9, .null, .int 0])), (q1, .inr (1, [.ref q2, .ref q3, .ref q4, .ref q5, .int 0, .int 0, .int 0])), (q2, .inl (cyI, 360, .inl (fun _ => 0))), (q3, .inl (cyI, 360, .inl (fun _ => 0))), (q4, .inl (cyI, 12, .inl (fun _ => 0))), (q5, .inl (cyI, 32, .inl (fun _ => 0))), (q6, .inr (2, [.ref q7, .ref q8, .int 0, .int (-1)])), (q7, .inl (cyI, 400, .inl (fun _ => 0))), (q8, .inl (cyI, 7, .inl (fun _ => 0))), (q9, .inr (3, [.ref q10, .ref q11, .ref q12, .ref q13, .int 0])), (q10, .inl (cyI, 20, .inl (fun _ => 0))), (q11, .inl (cyI, 20, .inl (fun _ => 0))), (q12, .inl (cyI, 20, .inl (fun _ => 0))), (q13, .inl (cyI, 20, .inl (fun _ => 0))), (q14, .inr (7, [.int 0, .int 0, .int 0, .int 0, .int 0, .int 0, .int 0, .int 0, .int 0, .null, .null]))] := hD
  refine W.widen (k := 14) (n := 1278) (by decide) (by decide) ?_
  refine lv_dup hx hb dX6_init_41 rfl ?_
  have hPc := hP.sub (ws' := [(q14, .inr (7, [.int 0, .int 0, .int 0, .int 0, .int 0, .int 0, .int 0, .int 0, .int 0, .null, .null]))]) [14] rfl
  have hDc := hD.sub (ws' := [(q14, .inr (7, [.int 0, .int 0, .int 0, .int 0, .int 0, .int 0, .int 0, .int 0, .int 0, .null, .null]))]) [14] (by decide) rfl
  have hFc := va_free (wc := [(q14, .inr (7, [.int 0, .int 0, .int 0, .int 0, .int 0, .int 0, .int 0, .int 0, .int 0, .null, .null]))]) hD hS hA [14] rfl
  refine va_callv (va_runIN (As := []) (rest := [.ref q14, .ref a0]) ⟨hx, hb, hml, hown, hts⟩ (ctX7_init l dC dI cyI cyB cyJ cyZ _ q14) ⟨va_cnB 0 hts ggX6_init_X7_init rfl rfl rfl (hN _ (List.mem_of_getElem? (i := 41) rfl)) (hts (.initialized RX7) (List.mem_of_getElem? (i := 18) rfl)) (by decide +kernel) ⟨Nat.le_of_ble_eq_true rfl, Nat.le_of_ble_eq_true rfl⟩, rfl, (hts (.instanceMethod yX7_init) (List.mem_of_getElem? (i := 47) rfl))⟩ ⟨wPre_blind, fun U hU hW => wPre_of hPc hK hDc hN hU hW⟩ rfl rfl hl.1 rfl (lv_room (Nat.le_of_ble_eq_true rfl)) dX6_init_42 ⟨by decide, by decide⟩) hS (fun q _ h => hFc q h) hFc (fun u t H1 locs ht hvm hw hB hz1 hk1 hS => ?_)
  obtain ⟨q15, q16, hP1, hK1, hD1⟩ := hB
  rw [ht] at hP1
  obtain ⟨hP, hD⟩ := va_join (wr := [(a0, .inr (6, [.ref q1, .ref q6, .ref q9, .null, .int 0])), (q1, .inr (1, [.ref q2, .ref q3, .ref q4, .ref q5, .int 0, .int 0, .int 0])), (q2, .inl (cyI, 360, .inl (fun _ => 0))), (q3, .inl (cyI, 360, .inl (fun _ => 0))), (q4, .inl (cyI, 12, .inl (fun _ => 0))), (q5, .inl (cyI, 32, .inl (fun _ => 0))), (q6, .inr (2, [.ref q7, .ref q8, .int 0, .int (-1)])), (q7, .inl (cyI, 400, .inl (fun _ => 0))), (q8, .inl (cyI, 7, .inl (fun _ => 0))), (q9, .inr (3, [.ref q10, .ref q11, .ref q12, .ref q13, .int 0])), (q10, .inl (cyI, 20, .inl (fun _ => 0))), (q11, .inl (cyI, 20, .inl (fun _ => 0))), (q12, .inl (cyI, 20, .inl (fun _ => 0))), (q13, .inl (cyI, 20, .inl (fun _ => 0)))]) (w1 := [(q14, .inr (7, [.int 0, .int 0, .int 0, .int 0, .int 0, .int 0, .int 0, .int 0, .int 0, .ref q15, .ref q16])), (q15, .inl (cyI, 58, .inl (fun _ => 0))), (q16, .inl (cyI, 58, .inl (fun _ => 0)))]) hP hD [14] [0, 1, 2, 3, 4, 5, 6, 7, 8, 9, 10, 11, 12, 13] rfl rfl (by decide) (by decide) hk1 hFc hP1 hD1
  generalize H1 = H at hP hS ⊢
  have hP : va_P (dC, dI) vwCl [(a0, .inr (6, [.ref q1, .ref q6, .ref q9, .null, .int 0])), (q1, .inr (1, [.ref q2, .ref q3, .ref q4, .ref q5, .int 0, .int 0, .int 0])), (q2, .inl (cyI, 360, .inl (fun _ => 0))), (q3, .inl (cyI, 360, .inl (fun _ => 0))), (q4, .inl (cyI, 12, .inl (fun _ => 0))), (q5, .inl (cyI, 32, .inl (fun _ => 0))), (q6, .inr (2, [.ref q7, .ref q8, .int 0, .int (-1)])), (q7, .inl (cyI, 400, .inl (fun _ => 0))), (q8, .inl (cyI, 7, .inl (fun _ => 0))), (q9, .inr (3, [.ref q10, .ref q11, .ref q12, .ref q13, .int 0])), (q10, .inl (cyI, 20, .inl (fun _ => 0))), (q11, .inl (cyI, 20, .inl (fun _ => 0))), (q12, .inl (cyI, 20, .inl (fun _ => 0))), (q13, .inl (cyI, 20, .inl (fun _ => 0))), (q14, .inr (7, [.int 0, .int 0, .int 0, .int 0, .int 0, .int 0, .int 0, .int 0, .int 0, .ref q15, .ref q16])), (q15, .inl (cyI, 58, .inl (fun _ => 0))), (q16, .inl (cyI, 58, .inl (fun _ => 0)))] H := hP
  have hD : va_D A [(a0, .inr (6, [.ref q1, .ref q6, .ref q9, .null, .int 0])), (q1, .inr (1, [.ref q2, .ref q3, .ref q4, .ref q5, .int 0, .int 0, .int 0])), (q2, .inl (cyI, 360, .inl (fun _ => 0))), (q3, .inl (cyI, 360, .inl (fun _ => 0))), (q4, .inl (cyI, 12, .inl (fun _ => 0))), (q5, .inl (cyI, 32, .inl (fun _ => 0))), (q6, .inr (2, [.ref q7, .ref q8, .int 0, .int (-1)])), (q7, .inl (cyI, 400, .inl (fun _ => 0))), (q8, .inl (cyI, 7, .inl (fun _ => 0))), (q9, .inr (3, [.ref q10, .ref q11, .ref q12, .ref q13, .int 0])), (q10, .inl (cyI, 20, .inl (fun _ => 0))), (q11, .inl (cyI, 20, .inl (fun _ => 0))), (q12, .inl (cyI, 20, .inl (fun _ => 0))), (q13, .inl (cyI, 20, .inl (fun _ => 0))), (q14, .inr (7, [.int 0, .int 0, .int 0, .int 0, .int 0, .int 0, .int 0, .int 0, .int 0, .ref q15, .ref q16])), (q15, .inl (cyI, 58, .inl (fun _ => 0))), (q16, .inl (cyI, 58, .inl (fun _ => 0)))] := hD
  refine W.widen (k := 16) (n := 1394) (by decide) (by decide) ?_
  refine va_putF (D := (dC, dI)) (ci := 6) (v := .ref q14) (ty := .object "LeadPark$Stroll") (C := RX6) (T := TX6) (N := 5) hx hb hts inX6_init_X6 tyX6 tyX6_ok nmX6 hown hK hP hD hS 0 rfl rfl 3 (by decide) (hts (.fieldLink RX6 35 "LeadPark$Scene" "stroll" "LLeadPark$Stroll;") (List.mem_of_getElem? (i := 19) rfl)) (fun _ h9 => h9) rfl hin rfl (by decide +kernel) rfl rfl (Nat.le_of_ble_eq_true rfl) dX6_init_45 (fun H locs hP hD hS => ?_)
  have hP : va_P (dC, dI) vwCl [(a0, .inr (6, [.ref q1, .ref q6, .ref q9, .ref q14, .int 0])), (q1, .inr (1, [.ref q2, .ref q3, .ref q4, .ref q5, .int 0, .int 0, .int 0])), (q2, .inl (cyI, 360, .inl (fun _ => 0))), (q3, .inl (cyI, 360, .inl (fun _ => 0))), (q4, .inl (cyI, 12, .inl (fun _ => 0))), (q5, .inl (cyI, 32, .inl (fun _ => 0))), (q6, .inr (2, [.ref q7, .ref q8, .int 0, .int (-1)])), (q7, .inl (cyI, 400, .inl (fun _ => 0))), (q8, .inl (cyI, 7, .inl (fun _ => 0))), (q9, .inr (3, [.ref q10, .ref q11, .ref q12, .ref q13, .int 0])), (q10, .inl (cyI, 20, .inl (fun _ => 0))), (q11, .inl (cyI, 20, .inl (fun _ => 0))), (q12, .inl (cyI, 20, .inl (fun _ => 0))), (q13, .inl (cyI, 20, .inl (fun _ => 0))), (q14, .inr (7, [.int 0, .int 0, .int 0, .int 0, .int 0, .int 0, .int 0, .int 0, .int 0, .ref q15, .ref q16])), (q15, .inl (cyI, 58, .inl (fun _ => 0))), (q16, .inl (cyI, 58, .inl (fun _ => 0)))] H := hP
  have hD : va_D A [(a0, .inr (6, [.ref q1, .ref q6, .ref q9, .ref q14, .int 0])), (q1, .inr (1, [.ref q2, .ref q3, .ref q4, .ref q5, .int 0, .int 0, .int 0])), (q2, .inl (cyI, 360, .inl (fun _ => 0))), (q3, .inl (cyI, 360, .inl (fun _ => 0))), (q4, .inl (cyI, 12, .inl (fun _ => 0))), (q5, .inl (cyI, 32, .inl (fun _ => 0))), (q6, .inr (2, [.ref q7, .ref q8, .int 0, .int (-1)])), (q7, .inl (cyI, 400, .inl (fun _ => 0))), (q8, .inl (cyI, 7, .inl (fun _ => 0))), (q9, .inr (3, [.ref q10, .ref q11, .ref q12, .ref q13, .int 0])), (q10, .inl (cyI, 20, .inl (fun _ => 0))), (q11, .inl (cyI, 20, .inl (fun _ => 0))), (q12, .inl (cyI, 20, .inl (fun _ => 0))), (q13, .inl (cyI, 20, .inl (fun _ => 0))), (q14, .inr (7, [.int 0, .int 0, .int 0, .int 0, .int 0, .int 0, .int 0, .int 0, .int 0, .ref q15, .ref q16])), (q15, .inl (cyI, 58, .inl (fun _ => 0))), (q16, .inl (cyI, 58, .inl (fun _ => 0)))] := hD
  refine lv_aload_n hx hb dX6_init_48 rfl (lv_at hl 0 rfl) ?_
  refine lv_iconst (v := 1) hx hb dX6_init_49 (by decide) ?_
  refine va_put (D := (dC, dI)) (ci := 6) (v := .int 1) (ty := .int) (C := RX6) (T := TX6) (N := 5) hx hb hts inX6_init_X6 tyX6 tyX6_ok nmX6 hown hK hP hD hS 0 rfl rfl 4 (by decide) (hts (.fieldLink RX6 39 "LeadPark$Scene" "drawSeed" "I") (List.mem_of_getElem? (i := 20) rfl)) (fun _ h9 => h9) rfl (by decide +kernel) rfl rfl (Nat.le_of_ble_eq_true rfl) dX6_init_50 (fun H locs hP hD hS => ?_)
  have hP : va_P (dC, dI) vwCl [(a0, .inr (6, [.ref q1, .ref q6, .ref q9, .ref q14, .int 1])), (q1, .inr (1, [.ref q2, .ref q3, .ref q4, .ref q5, .int 0, .int 0, .int 0])), (q2, .inl (cyI, 360, .inl (fun _ => 0))), (q3, .inl (cyI, 360, .inl (fun _ => 0))), (q4, .inl (cyI, 12, .inl (fun _ => 0))), (q5, .inl (cyI, 32, .inl (fun _ => 0))), (q6, .inr (2, [.ref q7, .ref q8, .int 0, .int (-1)])), (q7, .inl (cyI, 400, .inl (fun _ => 0))), (q8, .inl (cyI, 7, .inl (fun _ => 0))), (q9, .inr (3, [.ref q10, .ref q11, .ref q12, .ref q13, .int 0])), (q10, .inl (cyI, 20, .inl (fun _ => 0))), (q11, .inl (cyI, 20, .inl (fun _ => 0))), (q12, .inl (cyI, 20, .inl (fun _ => 0))), (q13, .inl (cyI, 20, .inl (fun _ => 0))), (q14, .inr (7, [.int 0, .int 0, .int 0, .int 0, .int 0, .int 0, .int 0, .int 0, .int 0, .ref q15, .ref q16])), (q15, .inl (cyI, 58, .inl (fun _ => 0))), (q16, .inl (cyI, 58, .inl (fun _ => 0)))] H := hP
  have hD : va_D A [(a0, .inr (6, [.ref q1, .ref q6, .ref q9, .ref q14, .int 1])), (q1, .inr (1, [.ref q2, .ref q3, .ref q4, .ref q5, .int 0, .int 0, .int 0])), (q2, .inl (cyI, 360, .inl (fun _ => 0))), (q3, .inl (cyI, 360, .inl (fun _ => 0))), (q4, .inl (cyI, 12, .inl (fun _ => 0))), (q5, .inl (cyI, 32, .inl (fun _ => 0))), (q6, .inr (2, [.ref q7, .ref q8, .int 0, .int (-1)])), (q7, .inl (cyI, 400, .inl (fun _ => 0))), (q8, .inl (cyI, 7, .inl (fun _ => 0))), (q9, .inr (3, [.ref q10, .ref q11, .ref q12, .ref q13, .int 0])), (q10, .inl (cyI, 20, .inl (fun _ => 0))), (q11, .inl (cyI, 20, .inl (fun _ => 0))), (q12, .inl (cyI, 20, .inl (fun _ => 0))), (q13, .inl (cyI, 20, .inl (fun _ => 0))), (q14, .inr (7, [.int 0, .int 0, .int 0, .int 0, .int 0, .int 0, .int 0, .int 0, .int 0, .ref q15, .ref q16])), (q15, .inl (cyI, 58, .inl (fun _ => 0))), (q16, .inl (cyI, 58, .inl (fun _ => 0)))] := hD
  exact W.vret hx hb hr (fun t ht hW => ⟨⟨(), rfl, trivial, q1, q2, q3, q4, q5, q6, q7, q8, q9, q10, q11, q12, q13, q14, q15, q16, by rw [ht]; exact hP, va_K.moved hW.alike hK, hD⟩, hS.F ht⟩) hS.2.2 dX6_init_53
/-! LeadPark$Grid() -/
theorem inX0_init_X0 : ∀ w ∈ wsX00, w ∈ wsX0_init := fun _ h => List.mem_cons_of_mem _ (List.mem_append_right _ h)
theorem iniX0 : ∀ j, j < 4 → defaultValue (tyX0 j) = vp_V [.null, .null, .int 0, .int 0] j := by intro j hj; rcases (show j = 0 ∨ j = 1 ∨ j = 2 ∨ j = 3 by omega) with rfl | rfl | rfl | rfl <;> rfl
abbrev rmX0_init : Room := { frames := 1, cells := 2, slots := 2178, locals := 24 }
def iX0 (dC : Nat → ClassId) (dI : Nat → Nat → Nat) (cyI cyB cyJ cyZ : ClassId) (A : Nat → Prop) (a0 : Nat) (t : State) : Prop := ∃ (q1 q2 : Nat), wAt dC dI cyI cyB cyJ cyZ A [(a0, .inr (0, [.ref q1, .ref q2, .int 0, .int 0])), (q1, .inl (cyI, 1089, .inl (fun _ => 0))), (q2, .inl (cyI, 1089, .inl (fun _ => 0)))] t
set_option maxRecDepth 100000 in
set_option maxHeartbeats 8000000 in
theorem ctX0_init (l : Launch) (dC : Nat → ClassId) (dI : Nat → Nat → Nat) (cyI cyB cyJ cyZ : ClassId) (sz a0 : Nat) : Met l yX0_init wsX0_init rmX0_init (va_Pc [.ref a0] (wPre dC dI cyI cyB cyJ cyZ sz [(a0, .inr (0, [.null, .null, .int 0, .int 0]))])) (va_Qv (fun _ : Unit => True) (fun _ t => iX0 dC dI cyI cyB cyJ cyZ (va_A [(a0, .inr (0, [.null, .null, .int 0, .int 0]))] sz) a0 t) (va_A [(a0, .inr (0, [.null, .null, .int 0, .int 0]))] sz)) 2 2178 (va_A [(a0, .inr (0, [.null, .null, .int 0, .int 0]))] sz) := by
  refine Met.ofW (cc := cX0_init) (maxL := 1) (ret := none) (by decide) rfl ?_
  intro p e s m args below meth c s₁ B hml hv
  obtain ⟨rfl, hsz, hP, hK, hD0, hN⟩ := hv
  have hx := B.exec
  have hb := B.bytes
  have hr := B.returns
  have hts := atoms_spec (ws := wsX0_init) B.pre
  have hown : s.vm.findClass RX0 = some m.cls := findClass_of_methodNamed B.named
  have hlocks := B.notSynchronized
  have hin : meth.name = "<init>" := (name_of_methodNamed B.named B.method).1
  subst hsz
  have hD := hD0.self (sz := s.heap.size)
  generalize hAe : va_A [(a0, .inr (0, [.null, .null, .int 0, .int 0]))] s.heap.size = A at hD ⊢
  have hA : ∀ q : Nat, s.heap.size ≤ q → A q := fun q h => by rw [← hAe]; exact Or.inr h
  have hS : va_S A s.heap s.heap [] := va_S.rf
  have hl := lv_entry ([.ref a0]) (n := 1) (Nat.le_of_ble_eq_true rfl)
  rw [lg_entry_eq]
  generalize (lg_sl ([.ref a0]) ++ List.replicate (1 - (lg_sl ([.ref a0])).length) Slot.unset).toArray = ls at hl ⊢
  have hl : lv_has ls 1 [(0, .ref a0)] := hl
  show W p l e rmX0_init s m _ below meth c _ _ _ _ _ _
  refine lv_aload_n hx hb dX0_init_0 rfl (lv_at hl 0 rfl) ?_
  refine W.objInit hx hb hown (hts (.methodLink RX0 3 objectInit) (List.mem_of_getElem? (i := 1) rfl)) (hts (.instanceMethod objectInit) (List.mem_of_getElem? (i := 2) rfl)) (hts (.code objectInit ⟨#[0xb1]⟩ 1 none) (List.mem_of_getElem? (i := 3) rfl)) rfl (by rw [hml]; exact hl.1) rfl dX0_init_1 (Nat.le_of_ble_eq_true rfl) (Nat.le_of_ble_eq_true rfl) ?_
  refine W.eq (g2 := F0 m 4 ls []) rfl ?_
  refine lv_aload_n hx hb dX0_init_4 rfl (lv_at hl 0 rfl) ?_
  refine lv_sipush (v := 1089) hx hb dX0_init_5 (by decide) ?_
  refine va_newa (atype := .int) (ty := .int) (N' := 1089) (a0 := (1089, .inl (fun _ => 0))) hx hb (hts (.arrayClass .int) (List.mem_of_getElem? (i := 4) rfl)) rfl hK hP hD hS hA (nw_I 1089) (by decide) (by decide) (by decide) (by decide) (by decide) dX0_init_8 (fun q1 cA H hK1 hP hD hS => ?_)
  rw [cy_eq 0 hK1 rfl rfl] at hP hD
  have hP : va_P (dC, dI) vwCl [(a0, .inr (0, [.null, .null, .int 0, .int 0])), (q1, .inl (cyI, 1089, .inl (fun _ => 0)))] H := hP
  have hD : va_D A [(a0, .inr (0, [.null, .null, .int 0, .int 0])), (q1, .inl (cyI, 1089, .inl (fun _ => 0)))] := hD
  refine W.widen (k := 1) (n := 1089) (by decide) (by decide) ?_
  refine va_putF (D := (dC, dI)) (ci := 0) (v := .ref q1) (ty := .array .int) (C := RX0) (T := TX0) (N := 4) hx hb hts inX0_init_X0 tyX0 tyX0_ok nmX0 hown hK hP hD hS 0 rfl rfl 0 (by decide) (hts (.fieldLink RX0 11 "LeadPark$Grid" "prices" "[I") (List.mem_of_getElem? (i := 5) rfl)) (fun _ h9 => h9) rfl hin rfl (by decide +kernel) rfl rfl (Nat.le_of_ble_eq_true rfl) dX0_init_10 (fun H locs hP hD hS => ?_)
  have hP : va_P (dC, dI) vwCl [(a0, .inr (0, [.ref q1, .null, .int 0, .int 0])), (q1, .inl (cyI, 1089, .inl (fun _ => 0)))] H := hP
  have hD : va_D A [(a0, .inr (0, [.ref q1, .null, .int 0, .int 0])), (q1, .inl (cyI, 1089, .inl (fun _ => 0)))] := hD
  refine lv_aload_n hx hb dX0_init_13 rfl (lv_at hl 0 rfl) ?_
  refine lv_sipush (v := 1089) hx hb dX0_init_14 (by decide) ?_
  refine va_newa (atype := .int) (ty := .int) (N' := 1089) (a0 := (1089, .inl (fun _ => 0))) hx hb (hts (.arrayClass .int) (List.mem_of_getElem? (i := 4) rfl)) rfl hK hP hD hS hA (nw_I 1089) (by decide) (by decide) (by decide) (by decide) (by decide) dX0_init_17 (fun q2 cA H hK1 hP hD hS => ?_)
  rw [cy_eq 0 hK1 rfl rfl] at hP hD
  have hP : va_P (dC, dI) vwCl [(a0, .inr (0, [.ref q1, .null, .int 0, .int 0])), (q1, .inl (cyI, 1089, .inl (fun _ => 0))), (q2, .inl (cyI, 1089, .inl (fun _ => 0)))] H := hP
  have hD : va_D A [(a0, .inr (0, [.ref q1, .null, .int 0, .int 0])), (q1, .inl (cyI, 1089, .inl (fun _ => 0))), (q2, .inl (cyI, 1089, .inl (fun _ => 0)))] := hD
  refine W.widen (k := 2) (n := 2178) (by decide) (by decide) ?_
  refine va_putF (D := (dC, dI)) (ci := 0) (v := .ref q2) (ty := .array .int) (C := RX0) (T := TX0) (N := 4) hx hb hts inX0_init_X0 tyX0 tyX0_ok nmX0 hown hK hP hD hS 0 rfl rfl 1 (by decide) (hts (.fieldLink RX0 15 "LeadPark$Grid" "best" "[I") (List.mem_of_getElem? (i := 6) rfl)) (fun _ h9 => h9) rfl hin rfl (by decide +kernel) rfl rfl (Nat.le_of_ble_eq_true rfl) dX0_init_19 (fun H locs hP hD hS => ?_)
  have hP : va_P (dC, dI) vwCl [(a0, .inr (0, [.ref q1, .ref q2, .int 0, .int 0])), (q1, .inl (cyI, 1089, .inl (fun _ => 0))), (q2, .inl (cyI, 1089, .inl (fun _ => 0)))] H := hP
  have hD : va_D A [(a0, .inr (0, [.ref q1, .ref q2, .int 0, .int 0])), (q1, .inl (cyI, 1089, .inl (fun _ => 0))), (q2, .inl (cyI, 1089, .inl (fun _ => 0)))] := hD
  refine lv_aload_n hx hb dX0_init_22 rfl (lv_at hl 0 rfl) ?_
  refine lv_iconst (v := 0) hx hb dX0_init_23 (by decide) ?_
  refine va_put (D := (dC, dI)) (ci := 0) (v := .int 0) (ty := .int) (C := RX0) (T := TX0) (N := 4) hx hb hts inX0_init_X0 tyX0 tyX0_ok nmX0 hown hK hP hD hS 0 rfl rfl 2 (by decide) (hts (.fieldLink RX0 18 "LeadPark$Grid" "rows" "I") (List.mem_of_getElem? (i := 7) rfl)) (fun _ h9 => h9) rfl (by decide +kernel) rfl rfl (Nat.le_of_ble_eq_true rfl) dX0_init_24 (fun H locs hP hD hS => ?_)
  have hP : va_P (dC, dI) vwCl [(a0, .inr (0, [.ref q1, .ref q2, .int 0, .int 0])), (q1, .inl (cyI, 1089, .inl (fun _ => 0))), (q2, .inl (cyI, 1089, .inl (fun _ => 0)))] H := hP
  have hD : va_D A [(a0, .inr (0, [.ref q1, .ref q2, .int 0, .int 0])), (q1, .inl (cyI, 1089, .inl (fun _ => 0))), (q2, .inl (cyI, 1089, .inl (fun _ => 0)))] := hD
  refine lv_aload_n hx hb dX0_init_27 rfl (lv_at hl 0 rfl) ?_
  refine lv_iconst (v := 0) hx hb dX0_init_28 (by decide) ?_
  refine va_put (D := (dC, dI)) (ci := 0) (v := .int 0) (ty := .int) (C := RX0) (T := TX0) (N := 4) hx hb hts inX0_init_X0 tyX0 tyX0_ok nmX0 hown hK hP hD hS 0 rfl rfl 3 (by decide) (hts (.fieldLink RX0 22 "LeadPark$Grid" "columns" "I") (List.mem_of_getElem? (i := 8) rfl)) (fun _ h9 => h9) rfl (by decide +kernel) rfl rfl (Nat.le_of_ble_eq_true rfl) dX0_init_29 (fun H locs hP hD hS => ?_)
  have hP : va_P (dC, dI) vwCl [(a0, .inr (0, [.ref q1, .ref q2, .int 0, .int 0])), (q1, .inl (cyI, 1089, .inl (fun _ => 0))), (q2, .inl (cyI, 1089, .inl (fun _ => 0)))] H := hP
  have hD : va_D A [(a0, .inr (0, [.ref q1, .ref q2, .int 0, .int 0])), (q1, .inl (cyI, 1089, .inl (fun _ => 0))), (q2, .inl (cyI, 1089, .inl (fun _ => 0)))] := hD
  exact W.vret hx hb hr (fun t ht hW => ⟨⟨(), rfl, trivial, q1, q2, by rw [ht]; exact hP, va_K.moved hW.alike hK, hD⟩, hS.F ht⟩) hS.2.2 dX0_init_32
/-! LeadPark$Pack() -/
theorem inX4_init_X4 : ∀ w ∈ wsX40, w ∈ wsX4_init := fun _ h => List.mem_cons_of_mem _ (List.mem_append_right _ h)
theorem iniX4 : ∀ j, j < 7 → defaultValue (tyX4 j) = vp_V [.null, .null, .null, .null, .null, .int 0, .int 0] j := by intro j hj; rcases (show j = 0 ∨ j = 1 ∨ j = 2 ∨ j = 3 ∨ j = 4 ∨ j = 5 ∨ j = 6 by omega) with rfl | rfl | rfl | rfl | rfl | rfl | rfl <;> rfl
abbrev rmX4_init : Room := { frames := 1, cells := 5, slots := 2882, locals := 24 }
def iX4 (dC : Nat → ClassId) (dI : Nat → Nat → Nat) (cyI cyB cyJ cyZ : ClassId) (A : Nat → Prop) (a0 : Nat) (t : State) : Prop := ∃ (q1 q2 q3 q4 q5 : Nat), wAt dC dI cyI cyB cyJ cyZ A [(a0, .inr (4, [.ref q1, .ref q2, .ref q3, .ref q4, .ref q5, .int 0, .int 0])), (q1, .inl (cyI, 30, .inl (fun _ => 0))), (q2, .inl (cyI, 30, .inl (fun _ => 0))), (q3, .inl (cyI, 900, .inl (fun _ => 0))), (q4, .inl (cyI, 961, .inl (fun _ => 0))), (q5, .inl (cyI, 961, .inl (fun _ => 0)))] t
set_option maxRecDepth 100000 in
set_option maxHeartbeats 8000000 in
theorem ctX4_init (l : Launch) (dC : Nat → ClassId) (dI : Nat → Nat → Nat) (cyI cyB cyJ cyZ : ClassId) (sz a0 : Nat) : Met l yX4_init wsX4_init rmX4_init (va_Pc [.ref a0] (wPre dC dI cyI cyB cyJ cyZ sz [(a0, .inr (4, [.null, .null, .null, .null, .null, .int 0, .int 0]))])) (va_Qv (fun _ : Unit => True) (fun _ t => iX4 dC dI cyI cyB cyJ cyZ (va_A [(a0, .inr (4, [.null, .null, .null, .null, .null, .int 0, .int 0]))] sz) a0 t) (va_A [(a0, .inr (4, [.null, .null, .null, .null, .null, .int 0, .int 0]))] sz)) 5 2882 (va_A [(a0, .inr (4, [.null, .null, .null, .null, .null, .int 0, .int 0]))] sz) := by
  refine Met.ofW (cc := cX4_init) (maxL := 1) (ret := none) (by decide) rfl ?_
  intro p e s m args below meth c s₁ B hml hv
  obtain ⟨rfl, hsz, hP, hK, hD0, hN⟩ := hv
  have hx := B.exec
  have hb := B.bytes
  have hr := B.returns
  have hts := atoms_spec (ws := wsX4_init) B.pre
  have hown : s.vm.findClass RX4 = some m.cls := findClass_of_methodNamed B.named
  have hlocks := B.notSynchronized
  have hin : meth.name = "<init>" := (name_of_methodNamed B.named B.method).1
  subst hsz
  have hD := hD0.self (sz := s.heap.size)
  generalize hAe : va_A [(a0, .inr (4, [.null, .null, .null, .null, .null, .int 0, .int 0]))] s.heap.size = A at hD ⊢
  have hA : ∀ q : Nat, s.heap.size ≤ q → A q := fun q h => by rw [← hAe]; exact Or.inr h
  have hS : va_S A s.heap s.heap [] := va_S.rf
  have hl := lv_entry ([.ref a0]) (n := 1) (Nat.le_of_ble_eq_true rfl)
  rw [lg_entry_eq]
  generalize (lg_sl ([.ref a0]) ++ List.replicate (1 - (lg_sl ([.ref a0])).length) Slot.unset).toArray = ls at hl ⊢
  have hl : lv_has ls 1 [(0, .ref a0)] := hl
  show W p l e rmX4_init s m _ below meth c _ _ _ _ _ _
  refine lv_aload_n hx hb dX4_init_0 rfl (lv_at hl 0 rfl) ?_
  refine W.objInit hx hb hown (hts (.methodLink RX4 3 objectInit) (List.mem_of_getElem? (i := 1) rfl)) (hts (.instanceMethod objectInit) (List.mem_of_getElem? (i := 2) rfl)) (hts (.code objectInit ⟨#[0xb1]⟩ 1 none) (List.mem_of_getElem? (i := 3) rfl)) rfl (by rw [hml]; exact hl.1) rfl dX4_init_1 (Nat.le_of_ble_eq_true rfl) (Nat.le_of_ble_eq_true rfl) ?_
  refine W.eq (g2 := F0 m 4 ls []) rfl ?_
  refine lv_aload_n hx hb dX4_init_4 rfl (lv_at hl 0 rfl) ?_
  refine lv_bipush (v := 30) hx hb dX4_init_5 (by decide) ?_
  refine va_newa (atype := .int) (ty := .int) (N' := 30) (a0 := (30, .inl (fun _ => 0))) hx hb (hts (.arrayClass .int) (List.mem_of_getElem? (i := 4) rfl)) rfl hK hP hD hS hA (nw_I 30) (by decide) (by decide) (by decide) (by decide) (by decide) dX4_init_7 (fun q1 cA H hK1 hP hD hS => ?_)
  rw [cy_eq 0 hK1 rfl rfl] at hP hD
  have hP : va_P (dC, dI) vwCl [(a0, .inr (4, [.null, .null, .null, .null, .null, .int 0, .int 0])), (q1, .inl (cyI, 30, .inl (fun _ => 0)))] H := hP
  have hD : va_D A [(a0, .inr (4, [.null, .null, .null, .null, .null, .int 0, .int 0])), (q1, .inl (cyI, 30, .inl (fun _ => 0)))] := hD
  refine W.widen (k := 1) (n := 30) (by decide) (by decide) ?_
  refine va_putF (D := (dC, dI)) (ci := 4) (v := .ref q1) (ty := .array .int) (C := RX4) (T := TX4) (N := 7) hx hb hts inX4_init_X4 tyX4 tyX4_ok nmX4 hown hK hP hD hS 0 rfl rfl 0 (by decide) (hts (.fieldLink RX4 9 "LeadPark$Pack" "toOne" "[I") (List.mem_of_getElem? (i := 5) rfl)) (fun _ h9 => h9) rfl hin rfl (by decide +kernel) rfl rfl (Nat.le_of_ble_eq_true rfl) dX4_init_9 (fun H locs hP hD hS => ?_)
  have hP : va_P (dC, dI) vwCl [(a0, .inr (4, [.ref q1, .null, .null, .null, .null, .int 0, .int 0])), (q1, .inl (cyI, 30, .inl (fun _ => 0)))] H := hP
  have hD : va_D A [(a0, .inr (4, [.ref q1, .null, .null, .null, .null, .int 0, .int 0])), (q1, .inl (cyI, 30, .inl (fun _ => 0)))] := hD
  refine lv_aload_n hx hb dX4_init_12 rfl (lv_at hl 0 rfl) ?_
  refine lv_bipush (v := 30) hx hb dX4_init_13 (by decide) ?_
  refine va_newa (atype := .int) (ty := .int) (N' := 30) (a0 := (30, .inl (fun _ => 0))) hx hb (hts (.arrayClass .int) (List.mem_of_getElem? (i := 4) rfl)) rfl hK hP hD hS hA (nw_I 30) (by decide) (by decide) (by decide) (by decide) (by decide) dX4_init_15 (fun q2 cA H hK1 hP hD hS => ?_)
  rw [cy_eq 0 hK1 rfl rfl] at hP hD
  have hP : va_P (dC, dI) vwCl [(a0, .inr (4, [.ref q1, .null, .null, .null, .null, .int 0, .int 0])), (q1, .inl (cyI, 30, .inl (fun _ => 0))), (q2, .inl (cyI, 30, .inl (fun _ => 0)))] H := hP
  have hD : va_D A [(a0, .inr (4, [.ref q1, .null, .null, .null, .null, .int 0, .int 0])), (q1, .inl (cyI, 30, .inl (fun _ => 0))), (q2, .inl (cyI, 30, .inl (fun _ => 0)))] := hD
  refine W.widen (k := 2) (n := 60) (by decide) (by decide) ?_
  refine va_putF (D := (dC, dI)) (ci := 4) (v := .ref q2) (ty := .array .int) (C := RX4) (T := TX4) (N := 7) hx hb hts inX4_init_X4 tyX4 tyX4_ok nmX4 hown hK hP hD hS 0 rfl rfl 1 (by decide) (hts (.fieldLink RX4 15 "LeadPark$Pack" "toOther" "[I") (List.mem_of_getElem? (i := 6) rfl)) (fun _ h9 => h9) rfl hin rfl (by decide +kernel) rfl rfl (Nat.le_of_ble_eq_true rfl) dX4_init_17 (fun H locs hP hD hS => ?_)
  have hP : va_P (dC, dI) vwCl [(a0, .inr (4, [.ref q1, .ref q2, .null, .null, .null, .int 0, .int 0])), (q1, .inl (cyI, 30, .inl (fun _ => 0))), (q2, .inl (cyI, 30, .inl (fun _ => 0)))] H := hP
  have hD : va_D A [(a0, .inr (4, [.ref q1, .ref q2, .null, .null, .null, .int 0, .int 0])), (q1, .inl (cyI, 30, .inl (fun _ => 0))), (q2, .inl (cyI, 30, .inl (fun _ => 0)))] := hD
  refine lv_aload_n hx hb dX4_init_20 rfl (lv_at hl 0 rfl) ?_
  refine lv_sipush (v := 900) hx hb dX4_init_21 (by decide) ?_
  refine va_newa (atype := .int) (ty := .int) (N' := 900) (a0 := (900, .inl (fun _ => 0))) hx hb (hts (.arrayClass .int) (List.mem_of_getElem? (i := 4) rfl)) rfl hK hP hD hS hA (nw_I 900) (by decide) (by decide) (by decide) (by decide) (by decide) dX4_init_24 (fun q3 cA H hK1 hP hD hS => ?_)
  rw [cy_eq 0 hK1 rfl rfl] at hP hD
  have hP : va_P (dC, dI) vwCl [(a0, .inr (4, [.ref q1, .ref q2, .null, .null, .null, .int 0, .int 0])), (q1, .inl (cyI, 30, .inl (fun _ => 0))), (q2, .inl (cyI, 30, .inl (fun _ => 0))), (q3, .inl (cyI, 900, .inl (fun _ => 0)))] H := hP
  have hD : va_D A [(a0, .inr (4, [.ref q1, .ref q2, .null, .null, .null, .int 0, .int 0])), (q1, .inl (cyI, 30, .inl (fun _ => 0))), (q2, .inl (cyI, 30, .inl (fun _ => 0))), (q3, .inl (cyI, 900, .inl (fun _ => 0)))] := hD
  refine W.widen (k := 3) (n := 960) (by decide) (by decide) ?_
  refine va_putF (D := (dC, dI)) (ci := 4) (v := .ref q3) (ty := .array .int) (C := RX4) (T := TX4) (N := 7) hx hb hts inX4_init_X4 tyX4 tyX4_ok nmX4 hown hK hP hD hS 0 rfl rfl 2 (by decide) (hts (.fieldLink RX4 18 "LeadPark$Pack" "between" "[I") (List.mem_of_getElem? (i := 7) rfl)) (fun _ h9 => h9) rfl hin rfl (by decide +kernel) rfl rfl (Nat.le_of_ble_eq_true rfl) dX4_init_26 (fun H locs hP hD hS => ?_)
  have hP : va_P (dC, dI) vwCl [(a0, .inr (4, [.ref q1, .ref q2, .ref q3, .null, .null, .int 0, .int 0])), (q1, .inl (cyI, 30, .inl (fun _ => 0))), (q2, .inl (cyI, 30, .inl (fun _ => 0))), (q3, .inl (cyI, 900, .inl (fun _ => 0)))] H := hP
  have hD : va_D A [(a0, .inr (4, [.ref q1, .ref q2, .ref q3, .null, .null, .int 0, .int 0])), (q1, .inl (cyI, 30, .inl (fun _ => 0))), (q2, .inl (cyI, 30, .inl (fun _ => 0))), (q3, .inl (cyI, 900, .inl (fun _ => 0)))] := hD
  refine lv_aload_n hx hb dX4_init_29 rfl (lv_at hl 0 rfl) ?_
  refine lv_sipush (v := 961) hx hb dX4_init_30 (by decide) ?_
  refine va_newa (atype := .int) (ty := .int) (N' := 961) (a0 := (961, .inl (fun _ => 0))) hx hb (hts (.arrayClass .int) (List.mem_of_getElem? (i := 4) rfl)) rfl hK hP hD hS hA (nw_I 961) (by decide) (by decide) (by decide) (by decide) (by decide) dX4_init_33 (fun q4 cA H hK1 hP hD hS => ?_)
  rw [cy_eq 0 hK1 rfl rfl] at hP hD
  have hP : va_P (dC, dI) vwCl [(a0, .inr (4, [.ref q1, .ref q2, .ref q3, .null, .null, .int 0, .int 0])), (q1, .inl (cyI, 30, .inl (fun _ => 0))), (q2, .inl (cyI, 30, .inl (fun _ => 0))), (q3, .inl (cyI, 900, .inl (fun _ => 0))), (q4, .inl (cyI, 961, .inl (fun _ => 0)))] H := hP
  have hD : va_D A [(a0, .inr (4, [.ref q1, .ref q2, .ref q3, .null, .null, .int 0, .int 0])), (q1, .inl (cyI, 30, .inl (fun _ => 0))), (q2, .inl (cyI, 30, .inl (fun _ => 0))), (q3, .inl (cyI, 900, .inl (fun _ => 0))), (q4, .inl (cyI, 961, .inl (fun _ => 0)))] := hD
  refine W.widen (k := 4) (n := 1921) (by decide) (by decide) ?_
  refine va_putF (D := (dC, dI)) (ci := 4) (v := .ref q4) (ty := .array .int) (C := RX4) (T := TX4) (N := 7) hx hb hts inX4_init_X4 tyX4 tyX4_ok nmX4 hown hK hP hD hS 0 rfl rfl 3 (by decide) (hts (.fieldLink RX4 21 "LeadPark$Pack" "evenLayer" "[I") (List.mem_of_getElem? (i := 8) rfl)) (fun _ h9 => h9) rfl hin rfl (by decide +kernel) rfl rfl (Nat.le_of_ble_eq_true rfl) dX4_init_35 (fun H locs hP hD hS => ?_)
  have hP : va_P (dC, dI) vwCl [(a0, .inr (4, [.ref q1, .ref q2, .ref q3, .ref q4, .null, .int 0, .int 0])), (q1, .inl (cyI, 30, .inl (fun _ => 0))), (q2, .inl (cyI, 30, .inl (fun _ => 0))), (q3, .inl (cyI, 900, .inl (fun _ => 0))), (q4, .inl (cyI, 961, .inl (fun _ => 0)))] H := hP
  have hD : va_D A [(a0, .inr (4, [.ref q1, .ref q2, .ref q3, .ref q4, .null, .int 0, .int 0])), (q1, .inl (cyI, 30, .inl (fun _ => 0))), (q2, .inl (cyI, 30, .inl (fun _ => 0))), (q3, .inl (cyI, 900, .inl (fun _ => 0))), (q4, .inl (cyI, 961, .inl (fun _ => 0)))] := hD
  refine lv_aload_n hx hb dX4_init_38 rfl (lv_at hl 0 rfl) ?_
  refine lv_sipush (v := 961) hx hb dX4_init_39 (by decide) ?_
  refine va_newa (atype := .int) (ty := .int) (N' := 961) (a0 := (961, .inl (fun _ => 0))) hx hb (hts (.arrayClass .int) (List.mem_of_getElem? (i := 4) rfl)) rfl hK hP hD hS hA (nw_I 961) (by decide) (by decide) (by decide) (by decide) (by decide) dX4_init_42 (fun q5 cA H hK1 hP hD hS => ?_)
  rw [cy_eq 0 hK1 rfl rfl] at hP hD
  have hP : va_P (dC, dI) vwCl [(a0, .inr (4, [.ref q1, .ref q2, .ref q3, .ref q4, .null, .int 0, .int 0])), (q1, .inl (cyI, 30, .inl (fun _ => 0))), (q2, .inl (cyI, 30, .inl (fun _ => 0))), (q3, .inl (cyI, 900, .inl (fun _ => 0))), (q4, .inl (cyI, 961, .inl (fun _ => 0))), (q5, .inl (cyI, 961, .inl (fun _ => 0)))] H := hP
  have hD : va_D A [(a0, .inr (4, [.ref q1, .ref q2, .ref q3, .ref q4, .null, .int 0, .int 0])), (q1, .inl (cyI, 30, .inl (fun _ => 0))), (q2, .inl (cyI, 30, .inl (fun _ => 0))), (q3, .inl (cyI, 900, .inl (fun _ => 0))), (q4, .inl (cyI, 961, .inl (fun _ => 0))), (q5, .inl (cyI, 961, .inl (fun _ => 0)))] := hD
  refine W.widen (k := 5) (n := 2882) (by decide) (by decide) ?_
  refine va_putF (D := (dC, dI)) (ci := 4) (v := .ref q5) (ty := .array .int) (C := RX4) (T := TX4) (N := 7) hx hb hts inX4_init_X4 tyX4 tyX4_ok nmX4 hown hK hP hD hS 0 rfl rfl 4 (by decide) (hts (.fieldLink RX4 24 "LeadPark$Pack" "oddLayer" "[I") (List.mem_of_getElem? (i := 9) rfl)) (fun _ h9 => h9) rfl hin rfl (by decide +kernel) rfl rfl (Nat.le_of_ble_eq_true rfl) dX4_init_44 (fun H locs hP hD hS => ?_)
  have hP : va_P (dC, dI) vwCl [(a0, .inr (4, [.ref q1, .ref q2, .ref q3, .ref q4, .ref q5, .int 0, .int 0])), (q1, .inl (cyI, 30, .inl (fun _ => 0))), (q2, .inl (cyI, 30, .inl (fun _ => 0))), (q3, .inl (cyI, 900, .inl (fun _ => 0))), (q4, .inl (cyI, 961, .inl (fun _ => 0))), (q5, .inl (cyI, 961, .inl (fun _ => 0)))] H := hP
  have hD : va_D A [(a0, .inr (4, [.ref q1, .ref q2, .ref q3, .ref q4, .ref q5, .int 0, .int 0])), (q1, .inl (cyI, 30, .inl (fun _ => 0))), (q2, .inl (cyI, 30, .inl (fun _ => 0))), (q3, .inl (cyI, 900, .inl (fun _ => 0))), (q4, .inl (cyI, 961, .inl (fun _ => 0))), (q5, .inl (cyI, 961, .inl (fun _ => 0)))] := hD
  refine lv_aload_n hx hb dX4_init_47 rfl (lv_at hl 0 rfl) ?_
  refine lv_iconst (v := 0) hx hb dX4_init_48 (by decide) ?_
  refine va_put (D := (dC, dI)) (ci := 4) (v := .int 0) (ty := .int) (C := RX4) (T := TX4) (N := 7) hx hb hts inX4_init_X4 tyX4 tyX4_ok nmX4 hown hK hP hD hS 0 rfl rfl 5 (by decide) (hts (.fieldLink RX4 27 "LeadPark$Pack" "ones" "I") (List.mem_of_getElem? (i := 10) rfl)) (fun _ h9 => h9) rfl (by decide +kernel) rfl rfl (Nat.le_of_ble_eq_true rfl) dX4_init_49 (fun H locs hP hD hS => ?_)
  have hP : va_P (dC, dI) vwCl [(a0, .inr (4, [.ref q1, .ref q2, .ref q3, .ref q4, .ref q5, .int 0, .int 0])), (q1, .inl (cyI, 30, .inl (fun _ => 0))), (q2, .inl (cyI, 30, .inl (fun _ => 0))), (q3, .inl (cyI, 900, .inl (fun _ => 0))), (q4, .inl (cyI, 961, .inl (fun _ => 0))), (q5, .inl (cyI, 961, .inl (fun _ => 0)))] H := hP
  have hD : va_D A [(a0, .inr (4, [.ref q1, .ref q2, .ref q3, .ref q4, .ref q5, .int 0, .int 0])), (q1, .inl (cyI, 30, .inl (fun _ => 0))), (q2, .inl (cyI, 30, .inl (fun _ => 0))), (q3, .inl (cyI, 900, .inl (fun _ => 0))), (q4, .inl (cyI, 961, .inl (fun _ => 0))), (q5, .inl (cyI, 961, .inl (fun _ => 0)))] := hD
  refine lv_aload_n hx hb dX4_init_52 rfl (lv_at hl 0 rfl) ?_
  refine lv_iconst (v := 0) hx hb dX4_init_53 (by decide) ?_
  refine va_put (D := (dC, dI)) (ci := 4) (v := .int 0) (ty := .int) (C := RX4) (T := TX4) (N := 7) hx hb hts inX4_init_X4 tyX4 tyX4_ok nmX4 hown hK hP hD hS 0 rfl rfl 6 (by decide) (hts (.fieldLink RX4 31 "LeadPark$Pack" "others" "I") (List.mem_of_getElem? (i := 11) rfl)) (fun _ h9 => h9) rfl (by decide +kernel) rfl rfl (Nat.le_of_ble_eq_true rfl) dX4_init_54 (fun H locs hP hD hS => ?_)
  have hP : va_P (dC, dI) vwCl [(a0, .inr (4, [.ref q1, .ref q2, .ref q3, .ref q4, .ref q5, .int 0, .int 0])), (q1, .inl (cyI, 30, .inl (fun _ => 0))), (q2, .inl (cyI, 30, .inl (fun _ => 0))), (q3, .inl (cyI, 900, .inl (fun _ => 0))), (q4, .inl (cyI, 961, .inl (fun _ => 0))), (q5, .inl (cyI, 961, .inl (fun _ => 0)))] H := hP
  have hD : va_D A [(a0, .inr (4, [.ref q1, .ref q2, .ref q3, .ref q4, .ref q5, .int 0, .int 0])), (q1, .inl (cyI, 30, .inl (fun _ => 0))), (q2, .inl (cyI, 30, .inl (fun _ => 0))), (q3, .inl (cyI, 900, .inl (fun _ => 0))), (q4, .inl (cyI, 961, .inl (fun _ => 0))), (q5, .inl (cyI, 961, .inl (fun _ => 0)))] := hD
  exact W.vret hx hb hr (fun t ht hW => ⟨⟨(), rfl, trivial, q1, q2, q3, q4, q5, by rw [ht]; exact hP, va_K.moved hW.alike hK, hD⟩, hS.F ht⟩) hS.2.2 dX4_init_57
/-! LeadPark$Pieces() -/
theorem inX5_init_X5 : ∀ w ∈ wsX50, w ∈ wsX5_init := fun _ h => List.mem_cons_of_mem _ (List.mem_append_right _ h)
theorem iniX5 : ∀ j, j < 5 → defaultValue (tyX5 j) = vp_V [.null, .null, .null, .null, .null] j := by intro j hj; rcases (show j = 0 ∨ j = 1 ∨ j = 2 ∨ j = 3 ∨ j = 4 by omega) with rfl | rfl | rfl | rfl | rfl <;> rfl
abbrev rmX5_init : Room := { frames := 1, cells := 5, slots := 1166, locals := 24 }
def iX5 (dC : Nat → ClassId) (dI : Nat → Nat → Nat) (cyI cyB cyJ cyZ : ClassId) (A : Nat → Prop) (a0 : Nat) (t : State) : Prop := ∃ (q1 q2 q3 q4 q5 : Nat), wAt dC dI cyI cyB cyJ cyZ A [(a0, .inr (5, [.ref q1, .ref q2, .ref q3, .ref q4, .ref q5])), (q1, .inl (cyI, 233, .inl (fun _ => 0))), (q2, .inl (cyI, 233, .inl (fun _ => 0))), (q3, .inl (cyI, 233, .inl (fun _ => 0))), (q4, .inl (cyI, 233, .inl (fun _ => 0))), (q5, .inl (cyI, 234, .inl (fun _ => 0)))] t
set_option maxRecDepth 100000 in
set_option maxHeartbeats 8000000 in
theorem ctX5_init (l : Launch) (dC : Nat → ClassId) (dI : Nat → Nat → Nat) (cyI cyB cyJ cyZ : ClassId) (sz a0 : Nat) : Met l yX5_init wsX5_init rmX5_init (va_Pc [.ref a0] (wPre dC dI cyI cyB cyJ cyZ sz [(a0, .inr (5, [.null, .null, .null, .null, .null]))])) (va_Qv (fun _ : Unit => True) (fun _ t => iX5 dC dI cyI cyB cyJ cyZ (va_A [(a0, .inr (5, [.null, .null, .null, .null, .null]))] sz) a0 t) (va_A [(a0, .inr (5, [.null, .null, .null, .null, .null]))] sz)) 5 1166 (va_A [(a0, .inr (5, [.null, .null, .null, .null, .null]))] sz) := by
  refine Met.ofW (cc := cX5_init) (maxL := 1) (ret := none) (by decide) rfl ?_
  intro p e s m args below meth c s₁ B hml hv
  obtain ⟨rfl, hsz, hP, hK, hD0, hN⟩ := hv
  have hx := B.exec
  have hb := B.bytes
  have hr := B.returns
  have hts := atoms_spec (ws := wsX5_init) B.pre
  have hown : s.vm.findClass RX5 = some m.cls := findClass_of_methodNamed B.named
  have hlocks := B.notSynchronized
  have hin : meth.name = "<init>" := (name_of_methodNamed B.named B.method).1
  subst hsz
  have hD := hD0.self (sz := s.heap.size)
  generalize hAe : va_A [(a0, .inr (5, [.null, .null, .null, .null, .null]))] s.heap.size = A at hD ⊢
  have hA : ∀ q : Nat, s.heap.size ≤ q → A q := fun q h => by rw [← hAe]; exact Or.inr h
  have hS : va_S A s.heap s.heap [] := va_S.rf
  have hl := lv_entry ([.ref a0]) (n := 1) (Nat.le_of_ble_eq_true rfl)
  rw [lg_entry_eq]
  generalize (lg_sl ([.ref a0]) ++ List.replicate (1 - (lg_sl ([.ref a0])).length) Slot.unset).toArray = ls at hl ⊢
  have hl : lv_has ls 1 [(0, .ref a0)] := hl
  show W p l e rmX5_init s m _ below meth c _ _ _ _ _ _
  refine lv_aload_n hx hb dX5_init_0 rfl (lv_at hl 0 rfl) ?_
  refine W.objInit hx hb hown (hts (.methodLink RX5 3 objectInit) (List.mem_of_getElem? (i := 1) rfl)) (hts (.instanceMethod objectInit) (List.mem_of_getElem? (i := 2) rfl)) (hts (.code objectInit ⟨#[0xb1]⟩ 1 none) (List.mem_of_getElem? (i := 3) rfl)) rfl (by rw [hml]; exact hl.1) rfl dX5_init_1 (Nat.le_of_ble_eq_true rfl) (Nat.le_of_ble_eq_true rfl) ?_
  refine W.eq (g2 := F0 m 4 ls []) rfl ?_
  refine lv_aload_n hx hb dX5_init_4 rfl (lv_at hl 0 rfl) ?_
  refine lv_sipush (v := 233) hx hb dX5_init_5 (by decide) ?_
  refine va_newa (atype := .int) (ty := .int) (N' := 233) (a0 := (233, .inl (fun _ => 0))) hx hb (hts (.arrayClass .int) (List.mem_of_getElem? (i := 4) rfl)) rfl hK hP hD hS hA (nw_I 233) (by decide) (by decide) (by decide) (by decide) (by decide) dX5_init_8 (fun q1 cA H hK1 hP hD hS => ?_)
  rw [cy_eq 0 hK1 rfl rfl] at hP hD
  have hP : va_P (dC, dI) vwCl [(a0, .inr (5, [.null, .null, .null, .null, .null])), (q1, .inl (cyI, 233, .inl (fun _ => 0)))] H := hP
  have hD : va_D A [(a0, .inr (5, [.null, .null, .null, .null, .null])), (q1, .inl (cyI, 233, .inl (fun _ => 0)))] := hD
  refine W.widen (k := 1) (n := 233) (by decide) (by decide) ?_
  refine va_putF (D := (dC, dI)) (ci := 5) (v := .ref q1) (ty := .array .int) (C := RX5) (T := TX5) (N := 5) hx hb hts inX5_init_X5 tyX5 tyX5_ok nmX5 hown hK hP hD hS 0 rfl rfl 0 (by decide) (hts (.fieldLink RX5 11 "LeadPark$Pieces" "manX" "[I") (List.mem_of_getElem? (i := 5) rfl)) (fun _ h9 => h9) rfl hin rfl (by decide +kernel) rfl rfl (Nat.le_of_ble_eq_true rfl) dX5_init_10 (fun H locs hP hD hS => ?_)
  have hP : va_P (dC, dI) vwCl [(a0, .inr (5, [.ref q1, .null, .null, .null, .null])), (q1, .inl (cyI, 233, .inl (fun _ => 0)))] H := hP
  have hD : va_D A [(a0, .inr (5, [.ref q1, .null, .null, .null, .null])), (q1, .inl (cyI, 233, .inl (fun _ => 0)))] := hD
  refine lv_aload_n hx hb dX5_init_13 rfl (lv_at hl 0 rfl) ?_
  refine lv_sipush (v := 233) hx hb dX5_init_14 (by decide) ?_
  refine va_newa (atype := .int) (ty := .int) (N' := 233) (a0 := (233, .inl (fun _ => 0))) hx hb (hts (.arrayClass .int) (List.mem_of_getElem? (i := 4) rfl)) rfl hK hP hD hS hA (nw_I 233) (by decide) (by decide) (by decide) (by decide) (by decide) dX5_init_17 (fun q2 cA H hK1 hP hD hS => ?_)
  rw [cy_eq 0 hK1 rfl rfl] at hP hD
  have hP : va_P (dC, dI) vwCl [(a0, .inr (5, [.ref q1, .null, .null, .null, .null])), (q1, .inl (cyI, 233, .inl (fun _ => 0))), (q2, .inl (cyI, 233, .inl (fun _ => 0)))] H := hP
  have hD : va_D A [(a0, .inr (5, [.ref q1, .null, .null, .null, .null])), (q1, .inl (cyI, 233, .inl (fun _ => 0))), (q2, .inl (cyI, 233, .inl (fun _ => 0)))] := hD
  refine W.widen (k := 2) (n := 466) (by decide) (by decide) ?_
  refine va_putF (D := (dC, dI)) (ci := 5) (v := .ref q2) (ty := .array .int) (C := RX5) (T := TX5) (N := 5) hx hb hts inX5_init_X5 tyX5 tyX5_ok nmX5 hown hK hP hD hS 0 rfl rfl 1 (by decide) (hts (.fieldLink RX5 15 "LeadPark$Pieces" "manY" "[I") (List.mem_of_getElem? (i := 6) rfl)) (fun _ h9 => h9) rfl hin rfl (by decide +kernel) rfl rfl (Nat.le_of_ble_eq_true rfl) dX5_init_19 (fun H locs hP hD hS => ?_)
  have hP : va_P (dC, dI) vwCl [(a0, .inr (5, [.ref q1, .ref q2, .null, .null, .null])), (q1, .inl (cyI, 233, .inl (fun _ => 0))), (q2, .inl (cyI, 233, .inl (fun _ => 0)))] H := hP
  have hD : va_D A [(a0, .inr (5, [.ref q1, .ref q2, .null, .null, .null])), (q1, .inl (cyI, 233, .inl (fun _ => 0))), (q2, .inl (cyI, 233, .inl (fun _ => 0)))] := hD
  refine lv_aload_n hx hb dX5_init_22 rfl (lv_at hl 0 rfl) ?_
  refine lv_sipush (v := 233) hx hb dX5_init_23 (by decide) ?_
  refine va_newa (atype := .int) (ty := .int) (N' := 233) (a0 := (233, .inl (fun _ => 0))) hx hb (hts (.arrayClass .int) (List.mem_of_getElem? (i := 4) rfl)) rfl hK hP hD hS hA (nw_I 233) (by decide) (by decide) (by decide) (by decide) (by decide) dX5_init_26 (fun q3 cA H hK1 hP hD hS => ?_)
  rw [cy_eq 0 hK1 rfl rfl] at hP hD
  have hP : va_P (dC, dI) vwCl [(a0, .inr (5, [.ref q1, .ref q2, .null, .null, .null])), (q1, .inl (cyI, 233, .inl (fun _ => 0))), (q2, .inl (cyI, 233, .inl (fun _ => 0))), (q3, .inl (cyI, 233, .inl (fun _ => 0)))] H := hP
  have hD : va_D A [(a0, .inr (5, [.ref q1, .ref q2, .null, .null, .null])), (q1, .inl (cyI, 233, .inl (fun _ => 0))), (q2, .inl (cyI, 233, .inl (fun _ => 0))), (q3, .inl (cyI, 233, .inl (fun _ => 0)))] := hD
  refine W.widen (k := 3) (n := 699) (by decide) (by decide) ?_
  refine va_putF (D := (dC, dI)) (ci := 5) (v := .ref q3) (ty := .array .int) (C := RX5) (T := TX5) (N := 5) hx hb hts inX5_init_X5 tyX5 tyX5_ok nmX5 hown hK hP hD hS 0 rfl rfl 2 (by decide) (hts (.fieldLink RX5 18 "LeadPark$Pieces" "dogX" "[I") (List.mem_of_getElem? (i := 7) rfl)) (fun _ h9 => h9) rfl hin rfl (by decide +kernel) rfl rfl (Nat.le_of_ble_eq_true rfl) dX5_init_28 (fun H locs hP hD hS => ?_)
  have hP : va_P (dC, dI) vwCl [(a0, .inr (5, [.ref q1, .ref q2, .ref q3, .null, .null])), (q1, .inl (cyI, 233, .inl (fun _ => 0))), (q2, .inl (cyI, 233, .inl (fun _ => 0))), (q3, .inl (cyI, 233, .inl (fun _ => 0)))] H := hP
  have hD : va_D A [(a0, .inr (5, [.ref q1, .ref q2, .ref q3, .null, .null])), (q1, .inl (cyI, 233, .inl (fun _ => 0))), (q2, .inl (cyI, 233, .inl (fun _ => 0))), (q3, .inl (cyI, 233, .inl (fun _ => 0)))] := hD
  refine lv_aload_n hx hb dX5_init_31 rfl (lv_at hl 0 rfl) ?_
  refine lv_sipush (v := 233) hx hb dX5_init_32 (by decide) ?_
  refine va_newa (atype := .int) (ty := .int) (N' := 233) (a0 := (233, .inl (fun _ => 0))) hx hb (hts (.arrayClass .int) (List.mem_of_getElem? (i := 4) rfl)) rfl hK hP hD hS hA (nw_I 233) (by decide) (by decide) (by decide) (by decide) (by decide) dX5_init_35 (fun q4 cA H hK1 hP hD hS => ?_)
  rw [cy_eq 0 hK1 rfl rfl] at hP hD
  have hP : va_P (dC, dI) vwCl [(a0, .inr (5, [.ref q1, .ref q2, .ref q3, .null, .null])), (q1, .inl (cyI, 233, .inl (fun _ => 0))), (q2, .inl (cyI, 233, .inl (fun _ => 0))), (q3, .inl (cyI, 233, .inl (fun _ => 0))), (q4, .inl (cyI, 233, .inl (fun _ => 0)))] H := hP
  have hD : va_D A [(a0, .inr (5, [.ref q1, .ref q2, .ref q3, .null, .null])), (q1, .inl (cyI, 233, .inl (fun _ => 0))), (q2, .inl (cyI, 233, .inl (fun _ => 0))), (q3, .inl (cyI, 233, .inl (fun _ => 0))), (q4, .inl (cyI, 233, .inl (fun _ => 0)))] := hD
  refine W.widen (k := 4) (n := 932) (by decide) (by decide) ?_
  refine va_putF (D := (dC, dI)) (ci := 5) (v := .ref q4) (ty := .array .int) (C := RX5) (T := TX5) (N := 5) hx hb hts inX5_init_X5 tyX5 tyX5_ok nmX5 hown hK hP hD hS 0 rfl rfl 3 (by decide) (hts (.fieldLink RX5 21 "LeadPark$Pieces" "dogY" "[I") (List.mem_of_getElem? (i := 8) rfl)) (fun _ h9 => h9) rfl hin rfl (by decide +kernel) rfl rfl (Nat.le_of_ble_eq_true rfl) dX5_init_37 (fun H locs hP hD hS => ?_)
  have hP : va_P (dC, dI) vwCl [(a0, .inr (5, [.ref q1, .ref q2, .ref q3, .ref q4, .null])), (q1, .inl (cyI, 233, .inl (fun _ => 0))), (q2, .inl (cyI, 233, .inl (fun _ => 0))), (q3, .inl (cyI, 233, .inl (fun _ => 0))), (q4, .inl (cyI, 233, .inl (fun _ => 0)))] H := hP
  have hD : va_D A [(a0, .inr (5, [.ref q1, .ref q2, .ref q3, .ref q4, .null])), (q1, .inl (cyI, 233, .inl (fun _ => 0))), (q2, .inl (cyI, 233, .inl (fun _ => 0))), (q3, .inl (cyI, 233, .inl (fun _ => 0))), (q4, .inl (cyI, 233, .inl (fun _ => 0)))] := hD
  refine lv_aload_n hx hb dX5_init_40 rfl (lv_at hl 0 rfl) ?_
  refine lv_sipush (v := 234) hx hb dX5_init_41 (by decide) ?_
  refine va_newa (atype := .int) (ty := .int) (N' := 234) (a0 := (234, .inl (fun _ => 0))) hx hb (hts (.arrayClass .int) (List.mem_of_getElem? (i := 4) rfl)) rfl hK hP hD hS hA (nw_I 234) (by decide) (by decide) (by decide) (by decide) (by decide) dX5_init_44 (fun q5 cA H hK1 hP hD hS => ?_)
  rw [cy_eq 0 hK1 rfl rfl] at hP hD
  have hP : va_P (dC, dI) vwCl [(a0, .inr (5, [.ref q1, .ref q2, .ref q3, .ref q4, .null])), (q1, .inl (cyI, 233, .inl (fun _ => 0))), (q2, .inl (cyI, 233, .inl (fun _ => 0))), (q3, .inl (cyI, 233, .inl (fun _ => 0))), (q4, .inl (cyI, 233, .inl (fun _ => 0))), (q5, .inl (cyI, 234, .inl (fun _ => 0)))] H := hP
  have hD : va_D A [(a0, .inr (5, [.ref q1, .ref q2, .ref q3, .ref q4, .null])), (q1, .inl (cyI, 233, .inl (fun _ => 0))), (q2, .inl (cyI, 233, .inl (fun _ => 0))), (q3, .inl (cyI, 233, .inl (fun _ => 0))), (q4, .inl (cyI, 233, .inl (fun _ => 0))), (q5, .inl (cyI, 234, .inl (fun _ => 0)))] := hD
  refine W.widen (k := 5) (n := 1166) (by decide) (by decide) ?_
  refine va_putF (D := (dC, dI)) (ci := 5) (v := .ref q5) (ty := .array .int) (C := RX5) (T := TX5) (N := 5) hx hb hts inX5_init_X5 tyX5 tyX5_ok nmX5 hown hK hP hD hS 0 rfl rfl 4 (by decide) (hts (.fieldLink RX5 24 "LeadPark$Pieces" "best" "[I") (List.mem_of_getElem? (i := 9) rfl)) (fun _ h9 => h9) rfl hin rfl (by decide +kernel) rfl rfl (Nat.le_of_ble_eq_true rfl) dX5_init_46 (fun H locs hP hD hS => ?_)
  have hP : va_P (dC, dI) vwCl [(a0, .inr (5, [.ref q1, .ref q2, .ref q3, .ref q4, .ref q5])), (q1, .inl (cyI, 233, .inl (fun _ => 0))), (q2, .inl (cyI, 233, .inl (fun _ => 0))), (q3, .inl (cyI, 233, .inl (fun _ => 0))), (q4, .inl (cyI, 233, .inl (fun _ => 0))), (q5, .inl (cyI, 234, .inl (fun _ => 0)))] H := hP
  have hD : va_D A [(a0, .inr (5, [.ref q1, .ref q2, .ref q3, .ref q4, .ref q5])), (q1, .inl (cyI, 233, .inl (fun _ => 0))), (q2, .inl (cyI, 233, .inl (fun _ => 0))), (q3, .inl (cyI, 233, .inl (fun _ => 0))), (q4, .inl (cyI, 233, .inl (fun _ => 0))), (q5, .inl (cyI, 234, .inl (fun _ => 0)))] := hD
  exact W.vret hx hb hr (fun t ht hW => ⟨⟨(), rfl, trivial, q1, q2, q3, q4, q5, by rw [ht]; exact hP, va_K.moved hW.alike hK, hD⟩, hS.F ht⟩) hS.2.2 dX5_init_49
/-! LeadPark$Thinning() -/
theorem inX9_init_X9 : ∀ w ∈ wsX90, w ∈ wsX9_init := fun _ h => List.mem_cons_of_mem _ (List.mem_append_right _ h)
theorem iniX9 : ∀ j, j < 2 → defaultValue (tyX9 j) = vp_V [.null, .null] j := by intro j hj; rcases (show j = 0 ∨ j = 1 by omega) with rfl | rfl <;> rfl
abbrev rmX9_init : Room := { frames := 1, cells := 2, slots := 992, locals := 24 }
def iX9 (dC : Nat → ClassId) (dI : Nat → Nat → Nat) (cyI cyB cyJ cyZ : ClassId) (A : Nat → Prop) (a0 : Nat) (t : State) : Prop := ∃ (q1 q2 : Nat), wAt dC dI cyI cyB cyJ cyZ A [(a0, .inr (9, [.ref q1, .ref q2])), (q1, .inl (cyI, 961, .inl (fun _ => 0))), (q2, .inl (cyI, 31, .inl (fun _ => 0)))] t
set_option maxRecDepth 100000 in
set_option maxHeartbeats 8000000 in
theorem ctX9_init (l : Launch) (dC : Nat → ClassId) (dI : Nat → Nat → Nat) (cyI cyB cyJ cyZ : ClassId) (sz a0 : Nat) : Met l yX9_init wsX9_init rmX9_init (va_Pc [.ref a0] (wPre dC dI cyI cyB cyJ cyZ sz [(a0, .inr (9, [.null, .null]))])) (va_Qv (fun _ : Unit => True) (fun _ t => iX9 dC dI cyI cyB cyJ cyZ (va_A [(a0, .inr (9, [.null, .null]))] sz) a0 t) (va_A [(a0, .inr (9, [.null, .null]))] sz)) 2 992 (va_A [(a0, .inr (9, [.null, .null]))] sz) := by
  refine Met.ofW (cc := cX9_init) (maxL := 1) (ret := none) (by decide) rfl ?_
  intro p e s m args below meth c s₁ B hml hv
  obtain ⟨rfl, hsz, hP, hK, hD0, hN⟩ := hv
  have hx := B.exec
  have hb := B.bytes
  have hr := B.returns
  have hts := atoms_spec (ws := wsX9_init) B.pre
  have hown : s.vm.findClass RX9 = some m.cls := findClass_of_methodNamed B.named
  have hlocks := B.notSynchronized
  have hin : meth.name = "<init>" := (name_of_methodNamed B.named B.method).1
  subst hsz
  have hD := hD0.self (sz := s.heap.size)
  generalize hAe : va_A [(a0, .inr (9, [.null, .null]))] s.heap.size = A at hD ⊢
  have hA : ∀ q : Nat, s.heap.size ≤ q → A q := fun q h => by rw [← hAe]; exact Or.inr h
  have hS : va_S A s.heap s.heap [] := va_S.rf
  have hl := lv_entry ([.ref a0]) (n := 1) (Nat.le_of_ble_eq_true rfl)
  rw [lg_entry_eq]
  generalize (lg_sl ([.ref a0]) ++ List.replicate (1 - (lg_sl ([.ref a0])).length) Slot.unset).toArray = ls at hl ⊢
  have hl : lv_has ls 1 [(0, .ref a0)] := hl
  show W p l e rmX9_init s m _ below meth c _ _ _ _ _ _
  refine lv_aload_n hx hb dX9_init_0 rfl (lv_at hl 0 rfl) ?_
  refine W.objInit hx hb hown (hts (.methodLink RX9 3 objectInit) (List.mem_of_getElem? (i := 1) rfl)) (hts (.instanceMethod objectInit) (List.mem_of_getElem? (i := 2) rfl)) (hts (.code objectInit ⟨#[0xb1]⟩ 1 none) (List.mem_of_getElem? (i := 3) rfl)) rfl (by rw [hml]; exact hl.1) rfl dX9_init_1 (Nat.le_of_ble_eq_true rfl) (Nat.le_of_ble_eq_true rfl) ?_
  refine W.eq (g2 := F0 m 4 ls []) rfl ?_
  refine lv_aload_n hx hb dX9_init_4 rfl (lv_at hl 0 rfl) ?_
  refine lv_sipush (v := 961) hx hb dX9_init_5 (by decide) ?_
  refine va_newa (atype := .int) (ty := .int) (N' := 961) (a0 := (961, .inl (fun _ => 0))) hx hb (hts (.arrayClass .int) (List.mem_of_getElem? (i := 4) rfl)) rfl hK hP hD hS hA (nw_I 961) (by decide) (by decide) (by decide) (by decide) (by decide) dX9_init_8 (fun q1 cA H hK1 hP hD hS => ?_)
  rw [cy_eq 0 hK1 rfl rfl] at hP hD
  have hP : va_P (dC, dI) vwCl [(a0, .inr (9, [.null, .null])), (q1, .inl (cyI, 961, .inl (fun _ => 0)))] H := hP
  have hD : va_D A [(a0, .inr (9, [.null, .null])), (q1, .inl (cyI, 961, .inl (fun _ => 0)))] := hD
  refine W.widen (k := 1) (n := 961) (by decide) (by decide) ?_
  refine va_putF (D := (dC, dI)) (ci := 9) (v := .ref q1) (ty := .array .int) (C := RX9) (T := TX9) (N := 2) hx hb hts inX9_init_X9 tyX9 tyX9_ok nmX9 hown hK hP hD hS 0 rfl rfl 0 (by decide) (hts (.fieldLink RX9 11 "LeadPark$Thinning" "fewest" "[I") (List.mem_of_getElem? (i := 5) rfl)) (fun _ h9 => h9) rfl hin rfl (by decide +kernel) rfl rfl (Nat.le_of_ble_eq_true rfl) dX9_init_10 (fun H locs hP hD hS => ?_)
  have hP : va_P (dC, dI) vwCl [(a0, .inr (9, [.ref q1, .null])), (q1, .inl (cyI, 961, .inl (fun _ => 0)))] H := hP
  have hD : va_D A [(a0, .inr (9, [.ref q1, .null])), (q1, .inl (cyI, 961, .inl (fun _ => 0)))] := hD
  refine lv_aload_n hx hb dX9_init_13 rfl (lv_at hl 0 rfl) ?_
  refine lv_bipush (v := 31) hx hb dX9_init_14 (by decide) ?_
  refine va_newa (atype := .int) (ty := .int) (N' := 31) (a0 := (31, .inl (fun _ => 0))) hx hb (hts (.arrayClass .int) (List.mem_of_getElem? (i := 4) rfl)) rfl hK hP hD hS hA (nw_I 31) (by decide) (by decide) (by decide) (by decide) (by decide) dX9_init_16 (fun q2 cA H hK1 hP hD hS => ?_)
  rw [cy_eq 0 hK1 rfl rfl] at hP hD
  have hP : va_P (dC, dI) vwCl [(a0, .inr (9, [.ref q1, .null])), (q1, .inl (cyI, 961, .inl (fun _ => 0))), (q2, .inl (cyI, 31, .inl (fun _ => 0)))] H := hP
  have hD : va_D A [(a0, .inr (9, [.ref q1, .null])), (q1, .inl (cyI, 961, .inl (fun _ => 0))), (q2, .inl (cyI, 31, .inl (fun _ => 0)))] := hD
  refine W.widen (k := 2) (n := 992) (by decide) (by decide) ?_
  refine va_putF (D := (dC, dI)) (ci := 9) (v := .ref q2) (ty := .array .int) (C := RX9) (T := TX9) (N := 2) hx hb hts inX9_init_X9 tyX9 tyX9_ok nmX9 hown hK hP hD hS 0 rfl rfl 1 (by decide) (hts (.fieldLink RX9 15 "LeadPark$Thinning" "fewestLater" "[I") (List.mem_of_getElem? (i := 6) rfl)) (fun _ h9 => h9) rfl hin rfl (by decide +kernel) rfl rfl (Nat.le_of_ble_eq_true rfl) dX9_init_18 (fun H locs hP hD hS => ?_)
  have hP : va_P (dC, dI) vwCl [(a0, .inr (9, [.ref q1, .ref q2])), (q1, .inl (cyI, 961, .inl (fun _ => 0))), (q2, .inl (cyI, 31, .inl (fun _ => 0)))] H := hP
  have hD : va_D A [(a0, .inr (9, [.ref q1, .ref q2])), (q1, .inl (cyI, 961, .inl (fun _ => 0))), (q2, .inl (cyI, 31, .inl (fun _ => 0)))] := hD
  exact W.vret hx hb hr (fun t ht hW => ⟨⟨(), rfl, trivial, q1, q2, by rw [ht]; exact hP, va_K.moved hW.alike hK, hD⟩, hS.F ht⟩) hS.2.2 dX9_init_21
