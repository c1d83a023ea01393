/-! LeadPark$Tape.hasRoomFor (I)Z -/
abbrev ceX8_hasRoomFor (cyI cyB cyJ cyZ : ClassId) (a0 b0_bytes : Nat) (g0_here : Int32) (g0_behind : Int32) (g0_digits : Int32) (g0_value : Int32) (g0_size : Int32) : va_W := [(a0, .inr (8, [.ref b0_bytes, .int g0_size, .int g0_here, .int g0_behind, .int g0_digits, .int g0_value]))]

theorem inX8_hasRoomFor_X8 : ∀ w ∈ wsX80, w ∈ wsX8_hasRoomFor := fun _ h => List.mem_cons_of_mem _ (List.mem_append_right _ h)
abbrev rmX8_hasRoomFor : Room := { frames := 0, cells := 0, slots := 0, locals := 0 }
set_option maxRecDepth 100000 in
set_option maxHeartbeats 4000000 in
theorem ctX8_hasRoomFor (l : Launch) (dC : Nat → ClassId) (dI : Nat → Nat → Nat) (cyI cyB cyJ cyZ : ClassId) (sz : Nat) (a0 b0_bytes : Nat) (g0_here : Int32) (g0_behind : Int32) (g0_digits : Int32) (g0_value : Int32) (g0_size : Int32) (p0 : Int32) (post : Int32 → Unit → Prop) (hw : wpX8_hasRoomFor post g0_size p0) : Met l yX8_hasRoomFor wsX8_hasRoomFor rmX8_hasRoomFor (va_Pc [.ref a0, .int p0] (wPre dC dI cyI cyB cyJ cyZ sz (ceX8_hasRoomFor cyI cyB cyJ cyZ a0 b0_bytes g0_here g0_behind g0_digits g0_value g0_size))) (va_Qi post (fun u : Unit => wAt dC dI cyI cyB cyJ cyZ (va_A (ceX8_hasRoomFor cyI cyB cyJ cyZ a0 b0_bytes g0_here g0_behind g0_digits g0_value g0_size) sz) (ceX8_hasRoomFor cyI cyB cyJ cyZ a0 b0_bytes g0_here g0_behind g0_digits g0_value g0_size)) (va_A (ceX8_hasRoomFor cyI cyB cyJ cyZ a0 b0_bytes g0_here g0_behind g0_digits g0_value g0_size) sz)) 0 0 (va_A (ceX8_hasRoomFor cyI cyB cyJ cyZ a0 b0_bytes g0_here g0_behind g0_digits g0_value g0_size) sz) := by
  refine Met.ofW (cc := cX8_hasRoomFor) (maxL := 2) (ret := (some .boolean)) (by decide) rfl ?_
  intro p e s m args below meth c s₁ B hml hv
  obtain ⟨rfl, hsz, hP, hK, hD0, hN⟩ := hv
  have hx := B.exec
  have hb := B.bytes
  have hr := B.returns
  have hts := atoms_spec (ws := wsX8_hasRoomFor) B.pre
  have hown : s.vm.findClass RX8 = some m.cls := findClass_of_methodNamed B.named
  have hlocks := B.notSynchronized
  subst hsz
  have hD := hD0.self (sz := s.heap.size)
  generalize hAe : va_A (ceX8_hasRoomFor cyI cyB cyJ cyZ a0 b0_bytes g0_here g0_behind g0_digits g0_value g0_size) s.heap.size = A at hD ⊢
  have hA : ∀ q : Nat, s.heap.size ≤ q → A q := fun q h => by rw [← hAe]; exact Or.inr h
  have hS : va_S A s.heap s.heap [] := va_S.rf
  have C0 : cxM p s m meth c _ wsX8_hasRoomFor RX8 cX8_hasRoomFor 2 (some .boolean) := ⟨hx, hb, hr, hml, hown, hts, hlocks⟩
  have hl := lv_entry ([.ref a0, .int p0]) (n := 2) (Nat.le_of_ble_eq_true rfl)
  rw [lg_entry_eq]
  generalize (lg_sl ([.ref a0, .int p0]) ++ List.replicate (2 - (lg_sl ([.ref a0, .int p0])).length) Slot.unset).toArray = ls at hl ⊢
  have hl : lv_has ls 2 [(0, .ref a0), (1, .int p0)] := hl
  show W p l e rmX8_hasRoomFor s m _ below meth c _ _ _ _ _ _
  refine wq (fun Q hQ => ?_)
  refine lv_aload_n hx hb dX8_hasRoomFor_0 rfl (lv_at hl 0 rfl) ?_
  refine va_get (D := (dC, dI)) (ci := 8) (v := .int g0_size) (C := RX8) (T := TX8) (N := 6) hx hb hts inX8_hasRoomFor_X8 hown hK hP 0 rfl rfl 1 (by decide) (hts (.fieldLink RX8 15 "LeadPark$Tape" "size" "I") (List.mem_of_getElem? (i := 1) rfl)) (fun _ h9 => h9) rfl dX8_hasRoomFor_1 ?_
  refine lv_iload_n hx hb dX8_hasRoomFor_4 rfl (lv_at hl 1 rfl) ?_
  refine lv_iadd hx hb dX8_hasRoomFor_5 ?_
  refine lv_sipush (v := 400) hx hb dX8_hasRoomFor_6 (by decide) ?_
  refine lv_icmp_gt (tgt := 16) hx hb dX8_hasRoomFor_9 (by decide) (fun hc => ?_) (fun hc => ?_)
  · have hw := hw.1 hc
    refine lv_iconst (v := 0) hx hb dX8_hasRoomFor_16 (by decide) ?_
    rw [hQ]
    exact W.zret (v := 0) (ty := .boolean) hx hb hr rfl (fun t ht hW => ⟨⟨0, (), rfl, hw, by rw [ht]; exact hP, va_K.moved hW.alike hK, hD⟩, hS.F ht⟩) hS.2.2 dX8_hasRoomFor_17
  · have hw := hw.2 hc
    refine lv_iconst (v := 1) hx hb dX8_hasRoomFor_12 (by decide) ?_
    refine lv_goto (tgt := 17) hx hb dX8_hasRoomFor_13 (by decide) ?_
    rw [hQ]
    exact W.zret (v := 1) (ty := .boolean) hx hb hr rfl (fun t ht hW => ⟨⟨1, (), rfl, hw, by rw [ht]; exact hP, va_K.moved hW.alike hK, hD⟩, hS.F ht⟩) hS.2.2 dX8_hasRoomFor_17
/-! LeadPark$Tape.append (I)V -/
abbrev ceX8_append (cyI cyB cyJ cyZ : ClassId) (a0 a1 : Nat) (g0_here : Int32) (g0_behind : Int32) (g0_digits : Int32) (g0_value : Int32) (g0_size : Int32) (f1 : Nat → Int32) : va_W := [(a0, .inr (8, [.ref a1, .int g0_size, .int g0_here, .int g0_behind, .int g0_digits, .int g0_value])), (a1, .inl (cyB, 400, .inl f1))]

theorem inX8_append_X8 : ∀ w ∈ wsX80, w ∈ wsX8_append := fun _ h => List.mem_cons_of_mem _ (List.mem_append_right _ h)
abbrev rmX8_append : Room := { frames := 0, cells := 0, slots := 0, locals := 0 }
set_option maxRecDepth 100000 in
set_option maxHeartbeats 4000000 in
theorem bX8_append_3 {p : Program} {l : Launch} {e : Env} {s : State} {m : MethodId} {args : Array Value} {below : List Frame} {meth : Method} {c : Code} {dC : Nat → ClassId} {dI : Nat → Nat → Nat} {cyI cyB cyJ cyZ : ClassId} {A : Nat → Prop} {a0 a1 : Nat} {g0_here : Int32} {g0_behind : Int32} {g0_digits : Int32} {g0_value : Int32} (C0 : cxM p s m meth c args wsX8_append RX8 cX8_append 3 none) (hK : va_K (dC, dI) vwCl (tyA cyI cyB cyJ cyZ) s) (hN : nwA s) (hA : ∀ q : Nat, s.heap.size ≤ q → A q) {post : (Int32 × (Nat → Int32)) → Prop} {Q : State → Prop} (hQ : Q = MQ below (va_Qv post (fun u : Int32 × (Nat → Int32) => wAt dC dI cyI cyB cyJ cyZ A (ceX8_append cyI cyB cyJ cyZ a0 a1 g0_here g0_behind g0_digits g0_value u.1 u.2)) A) args s 0 0 A) : ∀ (n : Nat) (g0_size : Int32) (f1 : Nat → Int32) (x1 : Int32) (x2 : Int32), wpX8_append_3 post n g0_size f1 x1 x2 → AtW p l e rmX8_append s m args below meth c dC dI A Q 3 0 0 (ceX8_append cyI cyB cyJ cyZ a0 a1 g0_here g0_behind g0_digits g0_value g0_size f1) [(0, .ref a0), (1, .int x1), (2, .int x2)] 3 [] := by
  intro n
  induction n with
  | zero => intro g0_size f1 x1 x2 hw; exact False.elim hw
  | succ n ih =>
    intro g0_size f1 x1 x2 hw H locs hP hD hS ls hl
    have C1 := C0
    obtain ⟨hx, hb, hr, hml, hown, hts, hlocks⟩ := C1
    refine lv_iload_n hx hb dX8_append_3 rfl (lv_at hl 2 rfl) ?_
    refine lv_if_lt (tgt := 46) hx hb dX8_append_4 (by decide) (fun hc => ?_) (fun hc => ?_)
    · have hw := hw.1 hc
      rw [hQ]
      exact W.vret hx hb hr (fun t ht hW => ⟨⟨(g0_size, f1), rfl, hw, by rw [ht]; exact hP, va_K.moved hW.alike hK, hD⟩, hS.F ht⟩) hS.2.2 dX8_append_46
    · have hw := hw.2 hc
      refine lv_aload_n hx hb dX8_append_7 rfl (lv_at hl 0 rfl) ?_
      refine va_get (D := (dC, dI)) (ci := 8) (v := .int g0_size) (C := RX8) (T := TX8) (N := 6) hx hb hts inX8_append_X8 hown hK hP 0 rfl rfl 1 (by decide) (hts (.fieldLink RX8 15 "LeadPark$Tape" "size" "I") (List.mem_of_getElem? (i := 1) rfl)) (fun _ h9 => h9) rfl dX8_append_8 ?_
      refine lv_sipush (v := 400) hx hb dX8_append_11 (by decide) ?_
      refine lv_icmp_ge (tgt := 46) hx hb dX8_append_14 (by decide) (fun hc => ?_) (fun hc => ?_)
      · have hw := hw.1 hc
        rw [hQ]
        exact W.vret hx hb hr (fun t ht hW => ⟨⟨(g0_size, f1), rfl, hw, by rw [ht]; exact hP, va_K.moved hW.alike hK, hD⟩, hS.F ht⟩) hS.2.2 dX8_append_46
      · have hw := hw.2 hc
        refine lv_aload_n hx hb dX8_append_17 rfl (lv_at hl 0 rfl) ?_
        refine va_get (D := (dC, dI)) (ci := 8) (v := .ref a1) (C := RX8) (T := TX8) (N := 6) hx hb hts inX8_append_X8 hown hK hP 0 rfl rfl 0 (by decide) (hts (.fieldLink RX8 9 "LeadPark$Tape" "bytes" "[B") (List.mem_of_getElem? (i := 2) rfl)) (fun _ h9 => h9) rfl dX8_append_18 ?_
        refine lv_aload_n hx hb dX8_append_21 rfl (lv_at hl 0 rfl) ?_
        refine va_get (D := (dC, dI)) (ci := 8) (v := .int g0_size) (C := RX8) (T := TX8) (N := 6) hx hb hts inX8_append_X8 hown hK hP 0 rfl rfl 1 (by decide) (hts (.fieldLink RX8 15 "LeadPark$Tape" "size" "I") (List.mem_of_getElem? (i := 1) rfl)) (fun _ h9 => h9) rfl dX8_append_22 ?_
        refine lv_iload_n hx hb dX8_append_25 rfl (lv_at hl 1 rfl) ?_
        refine lv_iload_n hx hb dX8_append_26 rfl (lv_at hl 2 rfl) ?_
        refine lv_ishr hx hb dX8_append_27 ?_
        refine lv_i2b hx hb dX8_append_28 rfl ?_
        obtain ⟨hi, hw⟩ := hw
        refine va_bast hx hb hK hP hD hS 1 1 rfl rfl hi dX8_append_29 (fun H locs hP hD hS => ?_)
        have hP : va_P (dC, dI) vwCl (ceX8_append cyI cyB cyJ cyZ a0 a1 g0_here g0_behind g0_digits g0_value g0_size (upd f1 g0_size.toNatClampNeg (vp_nar .byte ((x1 >>> (x2 &&& 31)).toInt8.toInt32)))) H := hP
        have hD : va_D A (ceX8_append cyI cyB cyJ cyZ a0 a1 g0_here g0_behind g0_digits g0_value g0_size (upd f1 g0_size.toNatClampNeg (vp_nar .byte ((x1 >>> (x2 &&& 31)).toInt8.toInt32)))) := hD
        refine lv_aload_n hx hb dX8_append_30 rfl (lv_at hl 0 rfl) ?_
        refine lv_dup hx hb dX8_append_31 rfl ?_
        refine va_get (D := (dC, dI)) (ci := 8) (v := .int g0_size) (C := RX8) (T := TX8) (N := 6) hx hb hts inX8_append_X8 hown hK hP 0 rfl rfl 1 (by decide) (hts (.fieldLink RX8 15 "LeadPark$Tape" "size" "I") (List.mem_of_getElem? (i := 1) rfl)) (fun _ h9 => h9) rfl dX8_append_32 ?_
        refine lv_iconst (v := 1) hx hb dX8_append_35 (by decide) ?_
        refine lv_iadd hx hb dX8_append_36 ?_
        refine lv_topi (fun v1 ev1 => ?_)
        have hw := hw v1 ev1
        refine va_put (D := (dC, dI)) (ci := 8) (v := .int v1) (ty := .int) (C := RX8) (T := TX8) (N := 6) hx hb hts inX8_append_X8 tyX8 tyX8_ok nmX8 hown hK hP hD hS 0 rfl rfl 1 (by decide) (hts (.fieldLink RX8 15 "LeadPark$Tape" "size" "I") (List.mem_of_getElem? (i := 1) rfl)) (fun _ h9 => h9) rfl (by decide +kernel) rfl rfl (Nat.le_of_ble_eq_true rfl) dX8_append_37 (fun H locs hP hD hS => ?_)
        have hP : va_P (dC, dI) vwCl (ceX8_append cyI cyB cyJ cyZ a0 a1 g0_here g0_behind g0_digits g0_value v1 (upd f1 g0_size.toNatClampNeg (vp_nar .byte ((x1 >>> (x2 &&& 31)).toInt8.toInt32)))) H := hP
        have hD : va_D A (ceX8_append cyI cyB cyJ cyZ a0 a1 g0_here g0_behind g0_digits g0_value v1 (upd f1 g0_size.toNatClampNeg (vp_nar .byte ((x1 >>> (x2 &&& 31)).toInt8.toInt32)))) := hD
        obtain ⟨v2, ev2⟩ : ∃ y : Int32, y = x2 + (-8) := ⟨_, rfl⟩
        have hw := hw v2 ev2
        refine lv_iinc (v := v2) (lv' := [(2, .int v2), (0, .ref a0), (1, .int x1)]) hx hb dX8_append_40 hl (k := 2) rfl (by rw [ev2]; rfl) (by decide) rfl (fun ls hl => ?_)
        refine lv_goto (tgt := 3) hx hb dX8_append_43 (by decide) ?_
        exact ih v1 (upd f1 g0_size.toNatClampNeg (vp_nar .byte ((x1 >>> (x2 &&& 31)).toInt8.toInt32))) x1 v2 hw H locs hP hD hS ls (lv_sub hl [1, 2, 0] rfl)
set_option maxRecDepth 100000 in
set_option maxHeartbeats 4000000 in
theorem ctX8_append (l : Launch) (dC : Nat → ClassId) (dI : Nat → Nat → Nat) (cyI cyB cyJ cyZ : ClassId) (sz : Nat) (a0 a1 : Nat) (g0_here : Int32) (g0_behind : Int32) (g0_digits : Int32) (g0_value : Int32) (g0_size : Int32) (f1 : Nat → Int32) (p0 : Int32) (post : (Int32 × (Nat → Int32)) → Prop) (hw : wpX8_append post g0_size f1 p0) : Met l yX8_append wsX8_append rmX8_append (va_Pc [.ref a0, .int p0] (wPre dC dI cyI cyB cyJ cyZ sz (ceX8_append cyI cyB cyJ cyZ a0 a1 g0_here g0_behind g0_digits g0_value g0_size f1))) (va_Qv post (fun u : Int32 × (Nat → Int32) => wAt dC dI cyI cyB cyJ cyZ (va_A (ceX8_append cyI cyB cyJ cyZ a0 a1 g0_here g0_behind g0_digits g0_value g0_size f1) sz) (ceX8_append cyI cyB cyJ cyZ a0 a1 g0_here g0_behind g0_digits g0_value u.1 u.2)) (va_A (ceX8_append cyI cyB cyJ cyZ a0 a1 g0_here g0_behind g0_digits g0_value g0_size f1) sz)) 0 0 (va_A (ceX8_append cyI cyB cyJ cyZ a0 a1 g0_here g0_behind g0_digits g0_value g0_size f1) sz) := by
  refine Met.ofW (cc := cX8_append) (maxL := 3) (ret := none) (by decide) rfl ?_
  intro p e s m args below meth c s₁ B hml hv
  obtain ⟨rfl, hsz, hP, hK, hD0, hN⟩ := hv
  have hx := B.exec
  have hb := B.bytes
  have hr := B.returns
  have hts := atoms_spec (ws := wsX8_append) B.pre
  have hown : s.vm.findClass RX8 = some m.cls := findClass_of_methodNamed B.named
  have hlocks := B.notSynchronized
  subst hsz
  have hD := hD0.self (sz := s.heap.size)
  generalize hAe : va_A (ceX8_append cyI cyB cyJ cyZ a0 a1 g0_here g0_behind g0_digits g0_value g0_size f1) s.heap.size = A at hD ⊢
  have hA : ∀ q : Nat, s.heap.size ≤ q → A q := fun q h => by rw [← hAe]; exact Or.inr h
  have hS : va_S A s.heap s.heap [] := va_S.rf
  have C0 : cxM p s m meth c _ wsX8_append RX8 cX8_append 3 none := ⟨hx, hb, hr, hml, hown, hts, hlocks⟩
  have hl := lv_entry ([.ref a0, .int p0]) (n := 3) (Nat.le_of_ble_eq_true rfl)
  rw [lg_entry_eq]
  generalize (lg_sl ([.ref a0, .int p0]) ++ List.replicate (3 - (lg_sl ([.ref a0, .int p0])).length) Slot.unset).toArray = ls at hl ⊢
  have hl : lv_has ls 3 [(0, .ref a0), (1, .int p0)] := hl
  show W p l e rmX8_append s m _ below meth c _ _ _ _ _ _
  refine wq (fun Q hQ => ?_)
  refine lv_bipush (v := 24) hx hb dX8_append_0 (by decide) ?_
  refine lv_istore_n (lv' := [(2, .int 24), (0, .ref a0), (1, .int p0)]) hx hb dX8_append_2 rfl hl (by decide) rfl (fun ls hl => ?_)
  obtain ⟨nn, hw⟩ := hw
  exact bX8_append_3 C0 hK hN hA hQ nn g0_size f1 p0 24 hw _ _ hP hD hS ls (lv_sub hl [1, 2, 0] rfl)
/-! LeadPark$Tape.stepAt (I)I -/
abbrev ceX8_stepAt (cyI cyB cyJ cyZ : ClassId) (a0 a1 : Nat) (g0_size : Int32) (g0_here : Int32) (g0_behind : Int32) (g0_digits : Int32) (g0_value : Int32) (f1 : Nat → Int32) : va_W := [(a0, .inr (8, [.ref a1, .int g0_size, .int g0_here, .int g0_behind, .int g0_digits, .int g0_value])), (a1, .inl (cyB, 400, .inl f1))]

theorem inX8_stepAt_X8 : ∀ w ∈ wsX80, w ∈ wsX8_stepAt := fun _ h => List.mem_cons_of_mem _ (List.mem_append_right _ h)
abbrev rmX8_stepAt : Room := { frames := 0, cells := 0, slots := 0, locals := 0 }
set_option maxRecDepth 100000 in
set_option maxHeartbeats 4000000 in
theorem ctX8_stepAt (l : Launch) (dC : Nat → ClassId) (dI : Nat → Nat → Nat) (cyI cyB cyJ cyZ : ClassId) (sz : Nat) (a0 a1 : Nat) (g0_size : Int32) (g0_here : Int32) (g0_behind : Int32) (g0_digits : Int32) (g0_value : Int32) (f1 : Nat → Int32) (p0 : Int32) (post : Int32 → Unit → Prop) (hw : wpX8_stepAt post f1 p0) : Met l yX8_stepAt wsX8_stepAt rmX8_stepAt (va_Pc [.ref a0, .int p0] (wPre dC dI cyI cyB cyJ cyZ sz (ceX8_stepAt cyI cyB cyJ cyZ a0 a1 g0_size g0_here g0_behind g0_digits g0_value f1))) (va_Qi post (fun u : Unit => wAt dC dI cyI cyB cyJ cyZ (va_A (ceX8_stepAt cyI cyB cyJ cyZ a0 a1 g0_size g0_here g0_behind g0_digits g0_value f1) sz) (ceX8_stepAt cyI cyB cyJ cyZ a0 a1 g0_size g0_here g0_behind g0_digits g0_value f1)) (va_A (ceX8_stepAt cyI cyB cyJ cyZ a0 a1 g0_size g0_here g0_behind g0_digits g0_value f1) sz)) 0 0 (va_A (ceX8_stepAt cyI cyB cyJ cyZ a0 a1 g0_size g0_here g0_behind g0_digits g0_value f1) sz) := by
  refine Met.ofW (cc := cX8_stepAt) (maxL := 2) (ret := (some .int)) (by decide) rfl ?_
  intro p e s m args below meth c s₁ B hml hv
  obtain ⟨rfl, hsz, hP, hK, hD0, hN⟩ := hv
  have hx := B.exec
  have hb := B.bytes
  have hr := B.returns
  have hts := atoms_spec (ws := wsX8_stepAt) B.pre
  have hown : s.vm.findClass RX8 = some m.cls := findClass_of_methodNamed B.named
  have hlocks := B.notSynchronized
  subst hsz
  have hD := hD0.self (sz := s.heap.size)
  generalize hAe : va_A (ceX8_stepAt cyI cyB cyJ cyZ a0 a1 g0_size g0_here g0_behind g0_digits g0_value f1) s.heap.size = A at hD ⊢
  have hA : ∀ q : Nat, s.heap.size ≤ q → A q := fun q h => by rw [← hAe]; exact Or.inr h
  have hS : va_S A s.heap s.heap [] := va_S.rf
  have C0 : cxM p s m meth c _ wsX8_stepAt RX8 cX8_stepAt 2 (some .int) := ⟨hx, hb, hr, hml, hown, hts, hlocks⟩
  have hl := lv_entry ([.ref a0, .int p0]) (n := 2) (Nat.le_of_ble_eq_true rfl)
  rw [lg_entry_eq]
  generalize (lg_sl ([.ref a0, .int p0]) ++ List.replicate (2 - (lg_sl ([.ref a0, .int p0])).length) Slot.unset).toArray = ls at hl ⊢
  have hl : lv_has ls 2 [(0, .ref a0), (1, .int p0)] := hl
  show W p l e rmX8_stepAt s m _ below meth c _ _ _ _ _ _
  refine wq (fun Q hQ => ?_)
  refine lv_aload_n hx hb dX8_stepAt_0 rfl (lv_at hl 0 rfl) ?_
  refine va_get (D := (dC, dI)) (ci := 8) (v := .ref a1) (C := RX8) (T := TX8) (N := 6) hx hb hts inX8_stepAt_X8 hown hK hP 0 rfl rfl 0 (by decide) (hts (.fieldLink RX8 9 "LeadPark$Tape" "bytes" "[B") (List.mem_of_getElem? (i := 1) rfl)) (fun _ h9 => h9) rfl dX8_stepAt_1 ?_
  refine lv_iload_n hx hb dX8_stepAt_4 rfl (lv_at hl 1 rfl) ?_
  obtain ⟨hi, hw⟩ := hw
  refine va_bald hx hb hK hP 1 1 rfl rfl hi dX8_stepAt_5 ?_
  refine lv_bipush (v := 48) hx hb dX8_stepAt_6 (by decide) ?_
  refine lv_isub hx hb dX8_stepAt_8 ?_
  rw [hQ]
  exact W.iret (v := (f1 p0.toNatClampNeg) - 48) hx hb hr (fun t ht hW => ⟨⟨(f1 p0.toNatClampNeg) - 48, (), rfl, hw, by rw [ht]; exact hP, va_K.moved hW.alike hK, hD⟩, hS.F ht⟩) hS.2.2 dX8_stepAt_9
/-! LeadPark$Tape.holdsStepsUpTo (I)Z -/
abbrev ceX8_holdsStepsUpTo (cyI cyB cyJ cyZ : ClassId) (a0 a1 : Nat) (g0_size : Int32) (g0_here : Int32) (g0_behind : Int32) (g0_digits : Int32) (g0_value : Int32) (f1 : Nat → Int32) : va_W := [(a0, .inr (8, [.ref a1, .int g0_size, .int g0_here, .int g0_behind, .int g0_digits, .int g0_value])), (a1, .inl (cyB, 400, .inl f1))]

abbrev rmX8_holdsStepsUpTo : Room := { frames := 1, cells := 0, slots := 0, locals := 21 }
set_option maxRecDepth 100000 in
set_option maxHeartbeats 4000000 in
theorem bX8_holdsStepsUpTo_2 {p : Program} {l : Launch} {e : Env} {s : State} {m : MethodId} {args : Array Value} {below : List Frame} {meth : Method} {c : Code} {dC : Nat → ClassId} {dI : Nat → Nat → Nat} {cyI cyB cyJ cyZ : ClassId} {A : Nat → Prop} {a0 a1 : Nat} {g0_size : Int32} {g0_here : Int32} {g0_behind : Int32} {g0_digits : Int32} {g0_value : Int32} (C0 : cxM p s m meth c args wsX8_holdsStepsUpTo RX8 cX8_holdsStepsUpTo 3 (some .boolean)) (hK : va_K (dC, dI) vwCl (tyA cyI cyB cyJ cyZ) s) (hN : nwA s) (hA : ∀ q : Nat, s.heap.size ≤ q → A q) {post : Int32 → Unit → Prop} {f1 : Nat → Int32} {Q : State → Prop} (hQ : Q = MQ below (va_Qi post (fun u : Unit => wAt dC dI cyI cyB cyJ cyZ A (ceX8_holdsStepsUpTo cyI cyB cyJ cyZ a0 a1 g0_size g0_here g0_behind g0_digits g0_value f1)) A) args s 0 0 A) : ∀ (n : Nat) (x1 : Int32) (x2 : Int32), wpX8_holdsStepsUpTo_2 post f1 n x1 x2 → AtW p l e rmX8_holdsStepsUpTo s m args below meth c dC dI A Q 3 0 0 (ceX8_holdsStepsUpTo cyI cyB cyJ cyZ a0 a1 g0_size g0_here g0_behind g0_digits g0_value f1) [(0, .ref a0), (1, .int x1), (2, .int x2)] 2 [] := by
  intro n
  induction n with
  | zero => intro x1 x2 hw; exact False.elim hw
  | succ n ih =>
    intro x1 x2 hw H locs hP hD hS ls hl
    have C1 := C0
    obtain ⟨hx, hb, hr, hml, hown, hts, hlocks⟩ := C1
    refine lv_iload_n hx hb dX8_holdsStepsUpTo_2 rfl (lv_at hl 2 rfl) ?_
    refine lv_iload_n hx hb dX8_holdsStepsUpTo_3 rfl (lv_at hl 1 rfl) ?_
    refine lv_icmp_ge (tgt := 40) hx hb dX8_holdsStepsUpTo_4 (by decide) (fun hc => ?_) (fun hc => ?_)
    · have hw := hw.1 hc
      refine lv_iconst (v := 1) hx hb dX8_holdsStepsUpTo_40 (by decide) ?_
      rw [hQ]
      exact W.zret (v := 1) (ty := .boolean) hx hb hr rfl (fun t ht hW => ⟨⟨1, (), rfl, hw, by rw [ht]; exact hP, va_K.moved hW.alike hK, hD⟩, hS.F ht⟩) hS.2.2 dX8_holdsStepsUpTo_41
    · have hw := hw.2 hc
      refine lv_iload_n hx hb dX8_holdsStepsUpTo_7 rfl (lv_at hl 2 rfl) ?_
      refine lv_sipush (v := 400) hx hb dX8_holdsStepsUpTo_8 (by decide) ?_
      refine lv_icmp_ge (tgt := 40) hx hb dX8_holdsStepsUpTo_11 (by decide) (fun hc => ?_) (fun hc => ?_)
      · have hw := hw.1 hc
        refine lv_iconst (v := 1) hx hb dX8_holdsStepsUpTo_40 (by decide) ?_
        rw [hQ]
        exact W.zret (v := 1) (ty := .boolean) hx hb hr rfl (fun t ht hW => ⟨⟨1, (), rfl, hw, by rw [ht]; exact hP, va_K.moved hW.alike hK, hD⟩, hS.F ht⟩) hS.2.2 dX8_holdsStepsUpTo_41
      · have hw := hw.2 hc
        refine lv_aload_n hx hb dX8_holdsStepsUpTo_14 rfl (lv_at hl 0 rfl) ?_
        refine lv_iload_n hx hb dX8_holdsStepsUpTo_15 rfl (lv_at hl 2 rfl) ?_
        have hPc := hP.sub (ws' := (ceX8_stepAt cyI cyB cyJ cyZ a0 a1 g0_size g0_here g0_behind g0_digits g0_value f1)) [0, 1] rfl
        have hDc := hD.sub (ws' := (ceX8_stepAt cyI cyB cyJ cyZ a0 a1 g0_size g0_here g0_behind g0_digits g0_value f1)) [0, 1] (by decide) rfl
        have hFc := va_free (wc := (ceX8_stepAt cyI cyB cyJ cyZ a0 a1 g0_size g0_here g0_behind g0_digits g0_value f1)) hD hS hA [0, 1] rfl
        refine va_calli (va_runV (As := [.int x2]) (rest := []) ⟨hx, hb, hml, hown, hts⟩ (ctX8_stepAt l dC dI cyI cyB cyJ cyZ _ a0 a1 g0_size g0_here g0_behind g0_digits g0_value f1 x2 _ hw) (cwV 1 hts gX8_holdsStepsUpTo_X8_stepAt rfl rfl rfl (by decide +kernel) ⟨Nat.le_of_ble_eq_true rfl, Nat.le_of_ble_eq_true rfl⟩) ⟨wPre_blind, va_recv hK hPc (ci := 8) (q0 := 0) rfl rfl, fun U hU hW => wPre_of hPc hK hDc hN hU hW⟩ rfl rfl hl.1 rfl (lv_room (Nat.le_of_ble_eq_true rfl)) dX8_holdsStepsUpTo_16 ⟨(Nat.zero_le _), (Nat.zero_le _)⟩) hS (fun q _ h => hFc q h) hFc (fun r2 u1 t H1 locs ht hvm hw hB hz1 hk1 hS => ?_)
        obtain ⟨hP1, hK1, hD1⟩ := hB
        rw [ht] at hP1
        obtain ⟨hP, hD⟩ := va_join (wr := pickW (ceX8_holdsStepsUpTo cyI cyB cyJ cyZ a0 a1 g0_size g0_here g0_behind g0_digits g0_value f1) []) (w1 := (ceX8_stepAt cyI cyB cyJ cyZ a0 a1 g0_size g0_here g0_behind g0_digits g0_value f1)) hP hD [0, 1] [] rfl rfl (by decide) (by decide) hk1 hFc hP1 hD1
        have hP := hP.sub (ws' := (ceX8_holdsStepsUpTo cyI cyB cyJ cyZ a0 a1 g0_size g0_here g0_behind g0_digits g0_value f1)) [0, 1] rfl
        have hD := hD.sub (ws' := (ceX8_holdsStepsUpTo cyI cyB cyJ cyZ a0 a1 g0_size g0_here g0_behind g0_digits g0_value f1)) [0, 1] (by decide) rfl
        generalize H1 = H at hP hS ⊢
        refine lv_iconst (v := 1) hx hb dX8_holdsStepsUpTo_19 (by decide) ?_
        refine lv_icmp_lt (tgt := 32) hx hb dX8_holdsStepsUpTo_20 (by decide) (fun hc => ?_) (fun hc => ?_)
        · have hw := hw.1 hc
          refine lv_iconst (v := 0) hx hb dX8_holdsStepsUpTo_32 (by decide) ?_
          rw [hQ]
          exact W.zret (v := 0) (ty := .boolean) hx hb hr rfl (fun t ht hW => ⟨⟨0, (), rfl, hw, by rw [ht]; exact hP, va_K.moved hW.alike hK, hD⟩, hS.F ht⟩) hS.2.2 dX8_holdsStepsUpTo_33
        · have hw := hw.2 hc
          refine lv_aload_n hx hb dX8_holdsStepsUpTo_23 rfl (lv_at hl 0 rfl) ?_
          refine lv_iload_n hx hb dX8_holdsStepsUpTo_24 rfl (lv_at hl 2 rfl) ?_
          have hPc := hP.sub (ws' := (ceX8_stepAt cyI cyB cyJ cyZ a0 a1 g0_size g0_here g0_behind g0_digits g0_value f1)) [0, 1] rfl
          have hDc := hD.sub (ws' := (ceX8_stepAt cyI cyB cyJ cyZ a0 a1 g0_size g0_here g0_behind g0_digits g0_value f1)) [0, 1] (by decide) rfl
          have hFc := va_free (wc := (ceX8_stepAt cyI cyB cyJ cyZ a0 a1 g0_size g0_here g0_behind g0_digits g0_value f1)) hD hS hA [0, 1] rfl
          refine va_calli (va_runV (As := [.int x2]) (rest := []) ⟨hx, hb, hml, hown, hts⟩ (ctX8_stepAt l dC dI cyI cyB cyJ cyZ _ a0 a1 g0_size g0_here g0_behind g0_digits g0_value f1 x2 _ hw) (cwV 1 hts gX8_holdsStepsUpTo_X8_stepAt rfl rfl rfl (by decide +kernel) ⟨Nat.le_of_ble_eq_true rfl, Nat.le_of_ble_eq_true rfl⟩) ⟨wPre_blind, va_recv hK hPc (ci := 8) (q0 := 0) rfl rfl, fun U hU hW => wPre_of hPc hK hDc hN hU hW⟩ rfl rfl hl.1 rfl (lv_room (Nat.le_of_ble_eq_true rfl)) dX8_holdsStepsUpTo_25 ⟨(Nat.zero_le _), (Nat.zero_le _)⟩) hS (fun q _ h => hFc q h) hFc (fun r4 u3 t H1 locs ht hvm hw hB hz1 hk1 hS => ?_)
          obtain ⟨hP1, hK1, hD1⟩ := hB
          rw [ht] at hP1
          obtain ⟨hP, hD⟩ := va_join (wr := pickW (ceX8_holdsStepsUpTo cyI cyB cyJ cyZ a0 a1 g0_size g0_here g0_behind g0_digits g0_value f1) []) (w1 := (ceX8_stepAt cyI cyB cyJ cyZ a0 a1 g0_size g0_here g0_behind g0_digits g0_value f1)) hP hD [0, 1] [] rfl rfl (by decide) (by decide) hk1 hFc hP1 hD1
          have hP := hP.sub (ws' := (ceX8_holdsStepsUpTo cyI cyB cyJ cyZ a0 a1 g0_size g0_here g0_behind g0_digits g0_value f1)) [0, 1] rfl
          have hD := hD.sub (ws' := (ceX8_holdsStepsUpTo cyI cyB cyJ cyZ a0 a1 g0_size g0_here g0_behind g0_digits g0_value f1)) [0, 1] (by decide) rfl
          generalize H1 = H at hP hS ⊢
          refine lv_iconst (v := 3) hx hb dX8_holdsStepsUpTo_28 (by decide) ?_
          refine lv_icmp_le (tgt := 34) hx hb dX8_holdsStepsUpTo_29 (by decide) (fun hc => ?_) (fun hc => ?_)
          · have hw := hw.1 hc
            obtain ⟨v5, ev5⟩ : ∃ y : Int32, y = x2 + 1 := ⟨_, rfl⟩
            have hw := hw v5 ev5
            refine lv_iinc (v := v5) (lv' := [(2, .int v5), (0, .ref a0), (1, .int x1)]) hx hb dX8_holdsStepsUpTo_34 hl (k := 2) rfl (by rw [ev5]; rfl) (by decide) rfl (fun ls hl => ?_)
            refine lv_goto (tgt := 2) hx hb dX8_holdsStepsUpTo_37 (by decide) ?_
            exact ih x1 v5 hw H locs hP hD hS ls (lv_sub hl [1, 2, 0] rfl)
          · have hw := hw.2 hc
            refine lv_iconst (v := 0) hx hb dX8_holdsStepsUpTo_32 (by decide) ?_
            rw [hQ]
            exact W.zret (v := 0) (ty := .boolean) hx hb hr rfl (fun t ht hW => ⟨⟨0, (), rfl, hw, by rw [ht]; exact hP, va_K.moved hW.alike hK, hD⟩, hS.F ht⟩) hS.2.2 dX8_holdsStepsUpTo_33
set_option maxRecDepth 100000 in
set_option maxHeartbeats 4000000 in
theorem ctX8_holdsStepsUpTo (l : Launch) (dC : Nat → ClassId) (dI : Nat → Nat → Nat) (cyI cyB cyJ cyZ : ClassId) (sz : Nat) (a0 a1 : Nat) (g0_size : Int32) (g0_here : Int32) (g0_behind : Int32) (g0_digits : Int32) (g0_value : Int32) (f1 : Nat → Int32) (p0 : Int32) (post : Int32 → Unit → Prop) (hw : wpX8_holdsStepsUpTo post f1 p0) : Met l yX8_holdsStepsUpTo wsX8_holdsStepsUpTo rmX8_holdsStepsUpTo (va_Pc [.ref a0, .int p0] (wPre dC dI cyI cyB cyJ cyZ sz (ceX8_holdsStepsUpTo cyI cyB cyJ cyZ a0 a1 g0_size g0_here g0_behind g0_digits g0_value f1))) (va_Qi post (fun u : Unit => wAt dC dI cyI cyB cyJ cyZ (va_A (ceX8_holdsStepsUpTo cyI cyB cyJ cyZ a0 a1 g0_size g0_here g0_behind g0_digits g0_value f1) sz) (ceX8_holdsStepsUpTo cyI cyB cyJ cyZ a0 a1 g0_size g0_here g0_behind g0_digits g0_value f1)) (va_A (ceX8_holdsStepsUpTo cyI cyB cyJ cyZ a0 a1 g0_size g0_here g0_behind g0_digits g0_value f1) sz)) 0 0 (va_A (ceX8_holdsStepsUpTo cyI cyB cyJ cyZ a0 a1 g0_size g0_here g0_behind g0_digits g0_value f1) sz) := by
  refine Met.ofW (cc := cX8_holdsStepsUpTo) (maxL := 3) (ret := (some .boolean)) (by decide) rfl ?_
  intro p e s m args below meth c s₁ B hml hv
  obtain ⟨rfl, hsz, hP, hK, hD0, hN⟩ := hv
  have hx := B.exec
  have hb := B.bytes
  have hr := B.returns
  have hts := atoms_spec (ws := wsX8_holdsStepsUpTo) B.pre
  have hown : s.vm.findClass RX8 = some m.cls := findClass_of_methodNamed B.named
  have hlocks := B.notSynchronized
  subst hsz
  have hD := hD0.self (sz := s.heap.size)
  generalize hAe : va_A (ceX8_holdsStepsUpTo cyI cyB cyJ cyZ a0 a1 g0_size g0_here g0_behind g0_digits g0_value f1) s.heap.size = A at hD ⊢
  have hA : ∀ q : Nat, s.heap.size ≤ q → A q := fun q h => by rw [← hAe]; exact Or.inr h
  have hS : va_S A s.heap s.heap [] := va_S.rf
  have C0 : cxM p s m meth c _ wsX8_holdsStepsUpTo RX8 cX8_holdsStepsUpTo 3 (some .boolean) := ⟨hx, hb, hr, hml, hown, hts, hlocks⟩
  have hl := lv_entry ([.ref a0, .int p0]) (n := 3) (Nat.le_of_ble_eq_true rfl)
  rw [lg_entry_eq]
  generalize (lg_sl ([.ref a0, .int p0]) ++ List.replicate (3 - (lg_sl ([.ref a0, .int p0])).length) Slot.unset).toArray = ls at hl ⊢
  have hl : lv_has ls 3 [(0, .ref a0), (1, .int p0)] := hl
  show W p l e rmX8_holdsStepsUpTo s m _ below meth c _ _ _ _ _ _
  refine wq (fun Q hQ => ?_)
  refine lv_iconst (v := 0) hx hb dX8_holdsStepsUpTo_0 (by decide) ?_
  refine lv_istore_n (lv' := [(2, .int 0), (0, .ref a0), (1, .int p0)]) hx hb dX8_holdsStepsUpTo_1 rfl hl (by decide) rfl (fun ls hl => ?_)
  obtain ⟨nn, hw⟩ := hw
  exact bX8_holdsStepsUpTo_2 C0 hK hN hA hQ nn p0 0 hw _ _ hP hD hS ls (lv_sub hl [1, 2, 0] rfl)
/-! LeadPark$Tape.passWord ()V -/
abbrev ceX8_passWord (cyI cyB cyJ cyZ : ClassId) (a0 a1 : Nat) (g0_here : Int32) (g0_digits : Int32) (g0_value : Int32) (g0_size : Int32) (f1 : Nat → Int32) (g0_behind : Int32) : va_W := [(a0, .inr (8, [.ref a1, .int g0_size, .int g0_here, .int g0_behind, .int g0_digits, .int g0_value])), (a1, .inl (cyB, 400, .inl f1))]

theorem inX8_passWord_X8 : ∀ w ∈ wsX80, w ∈ wsX8_passWord := fun _ h => List.mem_cons_of_mem _ (List.mem_append_right _ h)
abbrev rmX8_passWord : Room := { frames := 0, cells := 0, slots := 0, locals := 0 }
set_option maxRecDepth 100000 in
set_option maxHeartbeats 4000000 in
theorem bX8_passWord_0 {p : Program} {l : Launch} {e : Env} {s : State} {m : MethodId} {args : Array Value} {below : List Frame} {meth : Method} {c : Code} {dC : Nat → ClassId} {dI : Nat → Nat → Nat} {cyI cyB cyJ cyZ : ClassId} {A : Nat → Prop} {a0 a1 : Nat} {g0_here : Int32} {g0_digits : Int32} {g0_value : Int32} (C0 : cxM p s m meth c args wsX8_passWord RX8 cX8_passWord 1 none) (hK : va_K (dC, dI) vwCl (tyA cyI cyB cyJ cyZ) s) (hN : nwA s) (hA : ∀ q : Nat, s.heap.size ≤ q → A q) {post : Int32 → Prop} {g0_size : Int32} {f1 : Nat → Int32} {Q : State → Prop} (hQ : Q = MQ below (va_Qv post (fun u : Int32 => wAt dC dI cyI cyB cyJ cyZ A (ceX8_passWord cyI cyB cyJ cyZ a0 a1 g0_here g0_digits g0_value g0_size f1 u)) A) args s 0 0 A) : ∀ (n : Nat) (g0_behind : Int32), wpX8_passWord_0 post g0_size f1 n g0_behind → AtW p l e rmX8_passWord s m args below meth c dC dI A Q 1 0 0 (ceX8_passWord cyI cyB cyJ cyZ a0 a1 g0_here g0_digits g0_value g0_size f1 g0_behind) [(0, .ref a0)] 0 [] := by
  intro n
  induction n with
  | zero => intro g0_behind hw; exact False.elim hw
  | succ n ih =>
    intro g0_behind hw H locs hP hD hS ls hl
    have C1 := C0
    obtain ⟨hx, hb, hr, hml, hown, hts, hlocks⟩ := C1
    refine lv_aload_n hx hb dX8_passWord_0 rfl (lv_at hl 0 rfl) ?_
    refine va_get (D := (dC, dI)) (ci := 8) (v := .int g0_behind) (C := RX8) (T := TX8) (N := 6) hx hb hts inX8_passWord_X8 hown hK hP 0 rfl rfl 3 (by decide) (hts (.fieldLink RX8 22 "LeadPark$Tape" "behind" "I") (List.mem_of_getElem? (i := 1) rfl)) (fun _ h9 => h9) rfl dX8_passWord_1 ?_
    refine lv_aload_n hx hb dX8_passWord_4 rfl (lv_at hl 0 rfl) ?_
    refine va_get (D := (dC, dI)) (ci := 8) (v := .int g0_size) (C := RX8) (T := TX8) (N := 6) hx hb hts inX8_passWord_X8 hown hK hP 0 rfl rfl 1 (by decide) (hts (.fieldLink RX8 15 "LeadPark$Tape" "size" "I") (List.mem_of_getElem? (i := 2) rfl)) (fun _ h9 => h9) rfl dX8_passWord_5 ?_
    refine lv_icmp_ge (tgt := 52) hx hb dX8_passWord_8 (by decide) (fun hc => ?_) (fun hc => ?_)
    · have hw := hw.1 hc
      rw [hQ]
      exact W.vret hx hb hr (fun t ht hW => ⟨⟨(g0_behind), rfl, hw, by rw [ht]; exact hP, va_K.moved hW.alike hK, hD⟩, hS.F ht⟩) hS.2.2 dX8_passWord_52
    · have hw := hw.2 hc
      refine lv_aload_n hx hb dX8_passWord_11 rfl (lv_at hl 0 rfl) ?_
      refine va_get (D := (dC, dI)) (ci := 8) (v := .ref a1) (C := RX8) (T := TX8) (N := 6) hx hb hts inX8_passWord_X8 hown hK hP 0 rfl rfl 0 (by decide) (hts (.fieldLink RX8 9 "LeadPark$Tape" "bytes" "[B") (List.mem_of_getElem? (i := 3) rfl)) (fun _ h9 => h9) rfl dX8_passWord_12 ?_
      refine lv_aload_n hx hb dX8_passWord_15 rfl (lv_at hl 0 rfl) ?_
      refine va_get (D := (dC, dI)) (ci := 8) (v := .int g0_behind) (C := RX8) (T := TX8) (N := 6) hx hb hts inX8_passWord_X8 hown hK hP 0 rfl rfl 3 (by decide) (hts (.fieldLink RX8 22 "LeadPark$Tape" "behind" "I") (List.mem_of_getElem? (i := 1) rfl)) (fun _ h9 => h9) rfl dX8_passWord_16 ?_
      obtain ⟨hi, hw⟩ := hw
      refine va_bald hx hb hK hP 1 1 rfl rfl hi dX8_passWord_19 ?_
      refine lv_bipush (v := 97) hx hb dX8_passWord_20 (by decide) ?_
      refine lv_icmp_lt (tgt := 52) hx hb dX8_passWord_22 (by decide) (fun hc => ?_) (fun hc => ?_)
      · have hw := hw.1 hc
        rw [hQ]
        exact W.vret hx hb hr (fun t ht hW => ⟨⟨(g0_behind), rfl, hw, by rw [ht]; exact hP, va_K.moved hW.alike hK, hD⟩, hS.F ht⟩) hS.2.2 dX8_passWord_52
      · have hw := hw.2 hc
        refine lv_aload_n hx hb dX8_passWord_25 rfl (lv_at hl 0 rfl) ?_
        refine va_get (D := (dC, dI)) (ci := 8) (v := .ref a1) (C := RX8) (T := TX8) (N := 6) hx hb hts inX8_passWord_X8 hown hK hP 0 rfl rfl 0 (by decide) (hts (.fieldLink RX8 9 "LeadPark$Tape" "bytes" "[B") (List.mem_of_getElem? (i := 3) rfl)) (fun _ h9 => h9) rfl dX8_passWord_26 ?_
        refine lv_aload_n hx hb dX8_passWord_29 rfl (lv_at hl 0 rfl) ?_
        refine va_get (D := (dC, dI)) (ci := 8) (v := .int g0_behind) (C := RX8) (T := TX8) (N := 6) hx hb hts inX8_passWord_X8 hown hK hP 0 rfl rfl 3 (by decide) (hts (.fieldLink RX8 22 "LeadPark$Tape" "behind" "I") (List.mem_of_getElem? (i := 1) rfl)) (fun _ h9 => h9) rfl dX8_passWord_30 ?_
        obtain ⟨hi, hw⟩ := hw
        refine va_bald hx hb hK hP 1 1 rfl rfl hi dX8_passWord_33 ?_
        refine lv_bipush (v := 122) hx hb dX8_passWord_34 (by decide) ?_
        refine lv_icmp_gt (tgt := 52) hx hb dX8_passWord_36 (by decide) (fun hc => ?_) (fun hc => ?_)
        · have hw := hw.1 hc
          rw [hQ]
          exact W.vret hx hb hr (fun t ht hW => ⟨⟨(g0_behind), rfl, hw, by rw [ht]; exact hP, va_K.moved hW.alike hK, hD⟩, hS.F ht⟩) hS.2.2 dX8_passWord_52
        · have hw := hw.2 hc
          refine lv_aload_n hx hb dX8_passWord_39 rfl (lv_at hl 0 rfl) ?_
          refine lv_dup hx hb dX8_passWord_40 rfl ?_
          refine va_get (D := (dC, dI)) (ci := 8) (v := .int g0_behind) (C := RX8) (T := TX8) (N := 6) hx hb hts inX8_passWord_X8 hown hK hP 0 rfl rfl 3 (by decide) (hts (.fieldLink RX8 22 "LeadPark$Tape" "behind" "I") (List.mem_of_getElem? (i := 1) rfl)) (fun _ h9 => h9) rfl dX8_passWord_41 ?_
          refine lv_iconst (v := 1) hx hb dX8_passWord_44 (by decide) ?_
          refine lv_iadd hx hb dX8_passWord_45 ?_
          refine lv_topi (fun v1 ev1 => ?_)
          have hw := hw v1 ev1
          refine va_put (D := (dC, dI)) (ci := 8) (v := .int v1) (ty := .int) (C := RX8) (T := TX8) (N := 6) hx hb hts inX8_passWord_X8 tyX8 tyX8_ok nmX8 hown hK hP hD hS 0 rfl rfl 3 (by decide) (hts (.fieldLink RX8 22 "LeadPark$Tape" "behind" "I") (List.mem_of_getElem? (i := 1) rfl)) (fun _ h9 => h9) rfl (by decide +kernel) rfl rfl (Nat.le_of_ble_eq_true rfl) dX8_passWord_46 (fun H locs hP hD hS => ?_)
          have hP : va_P (dC, dI) vwCl (ceX8_passWord cyI cyB cyJ cyZ a0 a1 g0_here g0_digits g0_value g0_size f1 v1) H := hP
          have hD : va_D A (ceX8_passWord cyI cyB cyJ cyZ a0 a1 g0_here g0_digits g0_value g0_size f1 v1) := hD
          refine lv_goto (tgt := 0) hx hb dX8_passWord_49 (by decide) ?_
          exact ih v1 hw H locs hP hD hS ls (lv_sub hl [0] rfl)
set_option maxRecDepth 100000 in
set_option maxHeartbeats 4000000 in
theorem ctX8_passWord (l : Launch) (dC : Nat → ClassId) (dI : Nat → Nat → Nat) (cyI cyB cyJ cyZ : ClassId) (sz : Nat) (a0 a1 : Nat) (g0_here : Int32) (g0_digits : Int32) (g0_value : Int32) (g0_size : Int32) (f1 : Nat → Int32) (g0_behind : Int32) (post : Int32 → Prop) (hw : wpX8_passWord post g0_size f1 g0_behind ) : Met l yX8_passWord wsX8_passWord rmX8_passWord (va_Pc [.ref a0] (wPre dC dI cyI cyB cyJ cyZ sz (ceX8_passWord cyI cyB cyJ cyZ a0 a1 g0_here g0_digits g0_value g0_size f1 g0_behind))) (va_Qv post (fun u : Int32 => wAt dC dI cyI cyB cyJ cyZ (va_A (ceX8_passWord cyI cyB cyJ cyZ a0 a1 g0_here g0_digits g0_value g0_size f1 g0_behind) sz) (ceX8_passWord cyI cyB cyJ cyZ a0 a1 g0_here g0_digits g0_value g0_size f1 u)) (va_A (ceX8_passWord cyI cyB cyJ cyZ a0 a1 g0_here g0_digits g0_value g0_size f1 g0_behind) sz)) 0 0 (va_A (ceX8_passWord cyI cyB cyJ cyZ a0 a1 g0_here g0_digits g0_value g0_size f1 g0_behind) sz) := by
  refine Met.ofW (cc := cX8_passWord) (maxL := 1) (ret := none) (by decide) rfl ?_
  intro p e s m args below meth c s₁ B hml hv
  obtain ⟨rfl, hsz, hP, hK, hD0, hN⟩ := hv
  have hx := B.exec
  have hb := B.bytes
  have hr := B.returns
  have hts := atoms_spec (ws := wsX8_passWord) B.pre
  have hown : s.vm.findClass RX8 = some m.cls := findClass_of_methodNamed B.named
  have hlocks := B.notSynchronized
  subst hsz
  have hD := hD0.self (sz := s.heap.size)
  generalize hAe : va_A (ceX8_passWord cyI cyB cyJ cyZ a0 a1 g0_here g0_digits g0_value g0_size f1 g0_behind) s.heap.size = A at hD ⊢
  have hA : ∀ q : Nat, s.heap.size ≤ q → A q := fun q h => by rw [← hAe]; exact Or.inr h
  have hS : va_S A s.heap s.heap [] := va_S.rf
  have C0 : cxM p s m meth c _ wsX8_passWord RX8 cX8_passWord 1 none := ⟨hx, hb, hr, hml, hown, hts, hlocks⟩
  have hl := lv_entry ([.ref a0]) (n := 1) (Nat.le_of_ble_eq_true rfl)
  rw [lg_entry_eq]
  generalize (lg_sl ([.ref a0]) ++ List.replicate (1 - (lg_sl ([.ref a0])).length) Slot.unset).toArray = ls at hl ⊢
  have hl : lv_has ls 1 [(0, .ref a0)] := hl
  show W p l e rmX8_passWord s m _ below meth c _ _ _ _ _ _
  refine wq (fun Q hQ => ?_)
  obtain ⟨nn, hw⟩ := hw
  exact bX8_passWord_0 C0 hK hN hA hQ nn g0_behind hw _ _ hP hD hS ls (lv_sub hl [0] rfl)
/-! LeadPark$Tape.passNumber ()V -/
abbrev ceX8_passNumber (cyI cyB cyJ cyZ : ClassId) (a0 a1 : Nat) (g0_here : Int32) (g0_size : Int32) (f1 : Nat → Int32) (g0_behind : Int32) (g0_digits : Int32) (g0_value : Int32) : va_W := [(a0, .inr (8, [.ref a1, .int g0_size, .int g0_here, .int g0_behind, .int g0_digits, .int g0_value])), (a1, .inl (cyB, 400, .inl f1))]

theorem inX8_passNumber_X8 : ∀ w ∈ wsX80, w ∈ wsX8_passNumber := fun _ h => List.mem_cons_of_mem _ (List.mem_append_right _ h)
abbrev rmX8_passNumber : Room := { frames := 0, cells := 0, slots := 0, locals := 0 }
set_option maxRecDepth 100000 in
set_option maxHeartbeats 4000000 in
theorem bX8_passNumber_72 {p : Program} {l : Launch} {e : Env} {s : State} {m : MethodId} {args : Array Value} {below : List Frame} {meth : Method} {c : Code} {dC : Nat → ClassId} {dI : Nat → Nat → Nat} {cyI cyB cyJ cyZ : ClassId} {A : Nat → Prop} {a0 a1 : Nat} {g0_here : Int32} (C0 : cxM p s m meth c args wsX8_passNumber RX8 cX8_passNumber 1 none) (hK : va_K (dC, dI) vwCl (tyA cyI cyB cyJ cyZ) s) (hN : nwA s) (hA : ∀ q : Nat, s.heap.size ≤ q → A q) {post : (Int32 × Int32 × Int32) → Prop} {g0_size : Int32} {f1 : Nat → Int32} {k0 : Int32 → Int32 → Int32 → Prop} {Q : State → Prop} (hQ : Q = MQ below (va_Qv post (fun u : Int32 × Int32 × Int32 => wAt dC dI cyI cyB cyJ cyZ A (ceX8_passNumber cyI cyB cyJ cyZ a0 a1 g0_here g0_size f1 u.1 u.2.1 u.2.2)) A) args s 0 0 A) (hk0 : ∀ (g0_behind : Int32) (g0_digits : Int32) (g0_value : Int32), k0 g0_behind g0_digits g0_value → AtW p l e rmX8_passNumber s m args below meth c dC dI A Q 1 0 0 (ceX8_passNumber cyI cyB cyJ cyZ a0 a1 g0_here g0_size f1 g0_behind g0_digits g0_value) [(0, .ref a0)] 0 []) : ∀ (g0_behind : Int32) (g0_digits : Int32) (g0_value : Int32), wpX8_passNumber_72 k0 post g0_size f1 g0_behind g0_digits g0_value → AtW p l e rmX8_passNumber s m args below meth c dC dI A Q 1 0 0 (ceX8_passNumber cyI cyB cyJ cyZ a0 a1 g0_here g0_size f1 g0_behind g0_digits g0_value) [(0, .ref a0)] 72 [] := by
  intro g0_behind g0_digits g0_value hw H locs hP hD hS ls hl
  have C1 := C0
  obtain ⟨hx, hb, hr, hml, hown, hts, hlocks⟩ := C1
  refine lv_aload_n hx hb dX8_passNumber_72 rfl (lv_at hl 0 rfl) ?_
  refine lv_dup hx hb dX8_passNumber_73 rfl ?_
  refine va_get (D := (dC, dI)) (ci := 8) (v := .int g0_digits) (C := RX8) (T := TX8) (N := 6) hx hb hts inX8_passNumber_X8 hown hK hP 0 rfl rfl 4 (by decide) (hts (.fieldLink RX8 25 "LeadPark$Tape" "digits" "I") (List.mem_of_getElem? (i := 4) rfl)) (fun _ h9 => h9) rfl dX8_passNumber_74 ?_
  refine lv_iconst (v := 1) hx hb dX8_passNumber_77 (by decide) ?_
  refine lv_iadd hx hb dX8_passNumber_78 ?_
  refine lv_topi (fun v1 ev1 => ?_)
  have hw := hw v1 ev1
  refine va_put (D := (dC, dI)) (ci := 8) (v := .int v1) (ty := .int) (C := RX8) (T := TX8) (N := 6) hx hb hts inX8_passNumber_X8 tyX8 tyX8_ok nmX8 hown hK hP hD hS 0 rfl rfl 4 (by decide) (hts (.fieldLink RX8 25 "LeadPark$Tape" "digits" "I") (List.mem_of_getElem? (i := 4) rfl)) (fun _ h9 => h9) rfl (by decide +kernel) rfl rfl (Nat.le_of_ble_eq_true rfl) dX8_passNumber_79 (fun H locs hP hD hS => ?_)
  have hP : va_P (dC, dI) vwCl (ceX8_passNumber cyI cyB cyJ cyZ a0 a1 g0_here g0_size f1 g0_behind v1 g0_value) H := hP
  have hD : va_D A (ceX8_passNumber cyI cyB cyJ cyZ a0 a1 g0_here g0_size f1 g0_behind v1 g0_value) := hD
  refine lv_aload_n hx hb dX8_passNumber_82 rfl (lv_at hl 0 rfl) ?_
  refine lv_dup hx hb dX8_passNumber_83 rfl ?_
  refine va_get (D := (dC, dI)) (ci := 8) (v := .int g0_behind) (C := RX8) (T := TX8) (N := 6) hx hb hts inX8_passNumber_X8 hown hK hP 0 rfl rfl 3 (by decide) (hts (.fieldLink RX8 22 "LeadPark$Tape" "behind" "I") (List.mem_of_getElem? (i := 1) rfl)) (fun _ h9 => h9) rfl dX8_passNumber_84 ?_
  refine lv_iconst (v := 1) hx hb dX8_passNumber_87 (by decide) ?_
  refine lv_iadd hx hb dX8_passNumber_88 ?_
  refine lv_topi (fun v2 ev2 => ?_)
  have hw := hw v2 ev2
  refine va_put (D := (dC, dI)) (ci := 8) (v := .int v2) (ty := .int) (C := RX8) (T := TX8) (N := 6) hx hb hts inX8_passNumber_X8 tyX8 tyX8_ok nmX8 hown hK hP hD hS 0 rfl rfl 3 (by decide) (hts (.fieldLink RX8 22 "LeadPark$Tape" "behind" "I") (List.mem_of_getElem? (i := 1) rfl)) (fun _ h9 => h9) rfl (by decide +kernel) rfl rfl (Nat.le_of_ble_eq_true rfl) dX8_passNumber_89 (fun H locs hP hD hS => ?_)
  have hP : va_P (dC, dI) vwCl (ceX8_passNumber cyI cyB cyJ cyZ a0 a1 g0_here g0_size f1 v2 v1 g0_value) H := hP
  have hD : va_D A (ceX8_passNumber cyI cyB cyJ cyZ a0 a1 g0_here g0_size f1 v2 v1 g0_value) := hD
  refine lv_goto (tgt := 0) hx hb dX8_passNumber_92 (by decide) ?_
  exact hk0 v2 v1 g0_value hw H locs hP hD hS ls (lv_sub hl [0] rfl)
set_option maxRecDepth 100000 in
set_option maxHeartbeats 4000000 in
theorem bX8_passNumber_0 {p : Program} {l : Launch} {e : Env} {s : State} {m : MethodId} {args : Array Value} {below : List Frame} {meth : Method} {c : Code} {dC : Nat → ClassId} {dI : Nat → Nat → Nat} {cyI cyB cyJ cyZ : ClassId} {A : Nat → Prop} {a0 a1 : Nat} {g0_here : Int32} (C0 : cxM p s m meth c args wsX8_passNumber RX8 cX8_passNumber 1 none) (hK : va_K (dC, dI) vwCl (tyA cyI cyB cyJ cyZ) s) (hN : nwA s) (hA : ∀ q : Nat, s.heap.size ≤ q → A q) {post : (Int32 × Int32 × Int32) → Prop} {g0_size : Int32} {f1 : Nat → Int32} {Q : State → Prop} (hQ : Q = MQ below (va_Qv post (fun u : Int32 × Int32 × Int32 => wAt dC dI cyI cyB cyJ cyZ A (ceX8_passNumber cyI cyB cyJ cyZ a0 a1 g0_here g0_size f1 u.1 u.2.1 u.2.2)) A) args s 0 0 A) : ∀ (n : Nat) (g0_behind : Int32) (g0_digits : Int32) (g0_value : Int32), wpX8_passNumber_0 post g0_size f1 n g0_behind g0_digits g0_value → AtW p l e rmX8_passNumber s m args below meth c dC dI A Q 1 0 0 (ceX8_passNumber cyI cyB cyJ cyZ a0 a1 g0_here g0_size f1 g0_behind g0_digits g0_value) [(0, .ref a0)] 0 [] := by
  intro n
  induction n with
  | zero => intro g0_behind g0_digits g0_value hw; exact False.elim hw
  | succ n ih =>
    intro g0_behind g0_digits g0_value hw H locs hP hD hS ls hl
    have C1 := C0
    obtain ⟨hx, hb, hr, hml, hown, hts, hlocks⟩ := C1
    refine lv_aload_n hx hb dX8_passNumber_0 rfl (lv_at hl 0 rfl) ?_
    refine va_get (D := (dC, dI)) (ci := 8) (v := .int g0_behind) (C := RX8) (T := TX8) (N := 6) hx hb hts inX8_passNumber_X8 hown hK hP 0 rfl rfl 3 (by decide) (hts (.fieldLink RX8 22 "LeadPark$Tape" "behind" "I") (List.mem_of_getElem? (i := 1) rfl)) (fun _ h9 => h9) rfl dX8_passNumber_1 ?_
    refine lv_aload_n hx hb dX8_passNumber_4 rfl (lv_at hl 0 rfl) ?_
    refine va_get (D := (dC, dI)) (ci := 8) (v := .int g0_size) (C := RX8) (T := TX8) (N := 6) hx hb hts inX8_passNumber_X8 hown hK hP 0 rfl rfl 1 (by decide) (hts (.fieldLink RX8 15 "LeadPark$Tape" "size" "I") (List.mem_of_getElem? (i := 2) rfl)) (fun _ h9 => h9) rfl dX8_passNumber_5 ?_
    refine lv_icmp_ge (tgt := 95) hx hb dX8_passNumber_8 (by decide) (fun hc => ?_) (fun hc => ?_)
    · have hw := hw.1 hc
      rw [hQ]
      exact W.vret hx hb hr (fun t ht hW => ⟨⟨(g0_behind, g0_digits, g0_value), rfl, hw, by rw [ht]; exact hP, va_K.moved hW.alike hK, hD⟩, hS.F ht⟩) hS.2.2 dX8_passNumber_95
    · have hw := hw.2 hc
      refine lv_aload_n hx hb dX8_passNumber_11 rfl (lv_at hl 0 rfl) ?_
      refine va_get (D := (dC, dI)) (ci := 8) (v := .ref a1) (C := RX8) (T := TX8) (N := 6) hx hb hts inX8_passNumber_X8 hown hK hP 0 rfl rfl 0 (by decide) (hts (.fieldLink RX8 9 "LeadPark$Tape" "bytes" "[B") (List.mem_of_getElem? (i := 3) rfl)) (fun _ h9 => h9) rfl dX8_passNumber_12 ?_
      refine lv_aload_n hx hb dX8_passNumber_15 rfl (lv_at hl 0 rfl) ?_
      refine va_get (D := (dC, dI)) (ci := 8) (v := .int g0_behind) (C := RX8) (T := TX8) (N := 6) hx hb hts inX8_passNumber_X8 hown hK hP 0 rfl rfl 3 (by decide) (hts (.fieldLink RX8 22 "LeadPark$Tape" "behind" "I") (List.mem_of_getElem? (i := 1) rfl)) (fun _ h9 => h9) rfl dX8_passNumber_16 ?_
      obtain ⟨hi, hw⟩ := hw
      refine va_bald hx hb hK hP 1 1 rfl rfl hi dX8_passNumber_19 ?_
      refine lv_bipush (v := 48) hx hb dX8_passNumber_20 (by decide) ?_
      refine lv_icmp_lt (tgt := 95) hx hb dX8_passNumber_22 (by decide) (fun hc => ?_) (fun hc => ?_)
      · have hw := hw.1 hc
        rw [hQ]
        exact W.vret hx hb hr (fun t ht hW => ⟨⟨(g0_behind, g0_digits, g0_value), rfl, hw, by rw [ht]; exact hP, va_K.moved hW.alike hK, hD⟩, hS.F ht⟩) hS.2.2 dX8_passNumber_95
      · have hw := hw.2 hc
        refine lv_aload_n hx hb dX8_passNumber_25 rfl (lv_at hl 0 rfl) ?_
        refine va_get (D := (dC, dI)) (ci := 8) (v := .ref a1) (C := RX8) (T := TX8) (N := 6) hx hb hts inX8_passNumber_X8 hown hK hP 0 rfl rfl 0 (by decide) (hts (.fieldLink RX8 9 "LeadPark$Tape" "bytes" "[B") (List.mem_of_getElem? (i := 3) rfl)) (fun _ h9 => h9) rfl dX8_passNumber_26 ?_
        refine lv_aload_n hx hb dX8_passNumber_29 rfl (lv_at hl 0 rfl) ?_
        refine va_get (D := (dC, dI)) (ci := 8) (v := .int g0_behind) (C := RX8) (T := TX8) (N := 6) hx hb hts inX8_passNumber_X8 hown hK hP 0 rfl rfl 3 (by decide) (hts (.fieldLink RX8 22 "LeadPark$Tape" "behind" "I") (List.mem_of_getElem? (i := 1) rfl)) (fun _ h9 => h9) rfl dX8_passNumber_30 ?_
        obtain ⟨hi, hw⟩ := hw
        refine va_bald hx hb hK hP 1 1 rfl rfl hi dX8_passNumber_33 ?_
        refine lv_bipush (v := 57) hx hb dX8_passNumber_34 (by decide) ?_
        refine lv_icmp_gt (tgt := 95) hx hb dX8_passNumber_36 (by decide) (fun hc => ?_) (fun hc => ?_)
        · have hw := hw.1 hc
          rw [hQ]
          exact W.vret hx hb hr (fun t ht hW => ⟨⟨(g0_behind, g0_digits, g0_value), rfl, hw, by rw [ht]; exact hP, va_K.moved hW.alike hK, hD⟩, hS.F ht⟩) hS.2.2 dX8_passNumber_95
        · have hw := hw.2 hc
          refine lv_aload_n hx hb dX8_passNumber_39 rfl (lv_at hl 0 rfl) ?_
          refine va_get (D := (dC, dI)) (ci := 8) (v := .int g0_digits) (C := RX8) (T := TX8) (N := 6) hx hb hts inX8_passNumber_X8 hown hK hP 0 rfl rfl 4 (by decide) (hts (.fieldLink RX8 25 "LeadPark$Tape" "digits" "I") (List.mem_of_getElem? (i := 4) rfl)) (fun _ h9 => h9) rfl dX8_passNumber_40 ?_
          refine lv_bipush (v := 7) hx hb dX8_passNumber_43 (by decide) ?_
          refine lv_icmp_ge (tgt := 72) hx hb dX8_passNumber_45 (by decide) (fun hc => ?_) (fun hc => ?_)
          · have hw := hw.1 hc
            exact bX8_passNumber_72 C0 hK hN hA hQ ih g0_behind g0_digits g0_value hw _ _ hP hD hS ls (lv_sub hl [0] rfl)
          · have hw := hw.2 hc
            refine lv_aload_n hx hb dX8_passNumber_48 rfl (lv_at hl 0 rfl) ?_
            refine lv_aload_n hx hb dX8_passNumber_49 rfl (lv_at hl 0 rfl) ?_
            refine va_get (D := (dC, dI)) (ci := 8) (v := .int g0_value) (C := RX8) (T := TX8) (N := 6) hx hb hts inX8_passNumber_X8 hown hK hP 0 rfl rfl 5 (by decide) (hts (.fieldLink RX8 28 "LeadPark$Tape" "value" "I") (List.mem_of_getElem? (i := 5) rfl)) (fun _ h9 => h9) rfl dX8_passNumber_50 ?_
            refine lv_bipush (v := 10) hx hb dX8_passNumber_53 (by decide) ?_
            refine lv_imul hx hb dX8_passNumber_55 ?_
            refine lv_aload_n hx hb dX8_passNumber_56 rfl (lv_at hl 0 rfl) ?_
            refine va_get (D := (dC, dI)) (ci := 8) (v := .ref a1) (C := RX8) (T := TX8) (N := 6) hx hb hts inX8_passNumber_X8 hown hK hP 0 rfl rfl 0 (by decide) (hts (.fieldLink RX8 9 "LeadPark$Tape" "bytes" "[B") (List.mem_of_getElem? (i := 3) rfl)) (fun _ h9 => h9) rfl dX8_passNumber_57 ?_
            refine lv_aload_n hx hb dX8_passNumber_60 rfl (lv_at hl 0 rfl) ?_
            refine va_get (D := (dC, dI)) (ci := 8) (v := .int g0_behind) (C := RX8) (T := TX8) (N := 6) hx hb hts inX8_passNumber_X8 hown hK hP 0 rfl rfl 3 (by decide) (hts (.fieldLink RX8 22 "LeadPark$Tape" "behind" "I") (List.mem_of_getElem? (i := 1) rfl)) (fun _ h9 => h9) rfl dX8_passNumber_61 ?_
            obtain ⟨hi, hw⟩ := hw
            refine va_bald hx hb hK hP 1 1 rfl rfl hi dX8_passNumber_64 ?_
            refine lv_bipush (v := 48) hx hb dX8_passNumber_65 (by decide) ?_
            refine lv_isub hx hb dX8_passNumber_67 ?_
            refine lv_iadd hx hb dX8_passNumber_68 ?_
            refine lv_topi (fun v1 ev1 => ?_)
            have hw := hw v1 ev1
            refine va_put (D := (dC, dI)) (ci := 8) (v := .int v1) (ty := .int) (C := RX8) (T := TX8) (N := 6) hx hb hts inX8_passNumber_X8 tyX8 tyX8_ok nmX8 hown hK hP hD hS 0 rfl rfl 5 (by decide) (hts (.fieldLink RX8 28 "LeadPark$Tape" "value" "I") (List.mem_of_getElem? (i := 5) rfl)) (fun _ h9 => h9) rfl (by decide +kernel) rfl rfl (Nat.le_of_ble_eq_true rfl) dX8_passNumber_69 (fun H locs hP hD hS => ?_)
            have hP : va_P (dC, dI) vwCl (ceX8_passNumber cyI cyB cyJ cyZ a0 a1 g0_here g0_size f1 g0_behind g0_digits v1) H := hP
            have hD : va_D A (ceX8_passNumber cyI cyB cyJ cyZ a0 a1 g0_here g0_size f1 g0_behind g0_digits v1) := hD
            exact bX8_passNumber_72 C0 hK hN hA hQ ih g0_behind g0_digits v1 hw _ _ hP hD hS ls (lv_sub hl [0] rfl)
set_option maxRecDepth 100000 in
set_option maxHeartbeats 4000000 in
theorem ctX8_passNumber (l : Launch) (dC : Nat → ClassId) (dI : Nat → Nat → Nat) (cyI cyB cyJ cyZ : ClassId) (sz : Nat) (a0 a1 : Nat) (g0_here : Int32) (g0_size : Int32) (f1 : Nat → Int32) (g0_behind : Int32) (g0_digits : Int32) (g0_value : Int32) (post : (Int32 × Int32 × Int32) → Prop) (hw : wpX8_passNumber post g0_size f1 g0_behind g0_digits g0_value ) : Met l yX8_passNumber wsX8_passNumber rmX8_passNumber (va_Pc [.ref a0] (wPre dC dI cyI cyB cyJ cyZ sz (ceX8_passNumber cyI cyB cyJ cyZ a0 a1 g0_here g0_size f1 g0_behind g0_digits g0_value))) (va_Qv post (fun u : Int32 × Int32 × Int32 => wAt dC dI cyI cyB cyJ cyZ (va_A (ceX8_passNumber cyI cyB cyJ cyZ a0 a1 g0_here g0_size f1 g0_behind g0_digits g0_value) sz) (ceX8_passNumber cyI cyB cyJ cyZ a0 a1 g0_here g0_size f1 u.1 u.2.1 u.2.2)) (va_A (ceX8_passNumber cyI cyB cyJ cyZ a0 a1 g0_here g0_size f1 g0_behind g0_digits g0_value) sz)) 0 0 (va_A (ceX8_passNumber cyI cyB cyJ cyZ a0 a1 g0_here g0_size f1 g0_behind g0_digits g0_value) sz) := by
  refine Met.ofW (cc := cX8_passNumber) (maxL := 1) (ret := none) (by decide) rfl ?_
  intro p e s m args below meth c s₁ B hml hv
  obtain ⟨rfl, hsz, hP, hK, hD0, hN⟩ := hv
  have hx := B.exec
  have hb := B.bytes
  have hr := B.returns
  have hts := atoms_spec (ws := wsX8_passNumber) B.pre
  have hown : s.vm.findClass RX8 = some m.cls := findClass_of_methodNamed B.named
  have hlocks := B.notSynchronized
  subst hsz
  have hD := hD0.self (sz := s.heap.size)
  generalize hAe : va_A (ceX8_passNumber cyI cyB cyJ cyZ a0 a1 g0_here g0_size f1 g0_behind g0_digits g0_value) s.heap.size = A at hD ⊢
  have hA : ∀ q : Nat, s.heap.size ≤ q → A q := fun q h => by rw [← hAe]; exact Or.inr h
  have hS : va_S A s.heap s.heap [] := va_S.rf
  have C0 : cxM p s m meth c _ wsX8_passNumber RX8 cX8_passNumber 1 none := ⟨hx, hb, hr, hml, hown, hts, hlocks⟩
  have hl := lv_entry ([.ref a0]) (n := 1) (Nat.le_of_ble_eq_true rfl)
  rw [lg_entry_eq]
  generalize (lg_sl ([.ref a0]) ++ List.replicate (1 - (lg_sl ([.ref a0])).length) Slot.unset).toArray = ls at hl ⊢
  have hl : lv_has ls 1 [(0, .ref a0)] := hl
  show W p l e rmX8_passNumber s m _ below meth c _ _ _ _ _ _
  refine wq (fun Q hQ => ?_)
  obtain ⟨nn, hw⟩ := hw
  exact bX8_passNumber_0 C0 hK hN hA hQ nn g0_behind g0_digits g0_value hw _ _ hP hD hS ls (lv_sub hl [0] rfl)
/-! LeadPark$Tape.toNext ()V -/
abbrev ceX8_toNext (cyI cyB cyJ cyZ : ClassId) (a0 a1 : Nat) (g0_size : Int32) (f1 : Nat → Int32) (g0_here : Int32) (g0_behind : Int32) (g0_digits : Int32) (g0_value : Int32) : va_W := [(a0, .inr (8, [.ref a1, .int g0_size, .int g0_here, .int g0_behind, .int g0_digits, .int g0_value])), (a1, .inl (cyB, 400, .inl f1))]

theorem inX8_toNext_X8 : ∀ w ∈ wsX80, w ∈ wsX8_toNext := fun _ h => List.mem_cons_of_mem _ (List.mem_append_right _ h)
abbrev rmX8_toNext : Room := { frames := 1, cells := 0, slots := 0, locals := 20 }
set_option maxRecDepth 100000 in
set_option maxHeartbeats 4000000 in
theorem bX8_toNext_146 {p : Program} {l : Launch} {e : Env} {s : State} {m : MethodId} {args : Array Value} {below : List Frame} {meth : Method} {c : Code} {dC : Nat → ClassId} {dI : Nat → Nat → Nat} {cyI cyB cyJ cyZ : ClassId} {A : Nat → Prop} {a0 a1 : Nat} (C0 : cxM p s m meth c args wsX8_toNext RX8 cX8_toNext 1 none) (hK : va_K (dC, dI) vwCl (tyA cyI cyB cyJ cyZ) s) (hN : nwA s) (hA : ∀ q : Nat, s.heap.size ≤ q → A q) {post : (Int32 × Int32 × Int32 × Int32) → Prop} {g0_size : Int32} {f1 : Nat → Int32} {Q : State → Prop} (hQ : Q = MQ below (va_Qv post (fun u : Int32 × Int32 × Int32 × Int32 => wAt dC dI cyI cyB cyJ cyZ A (ceX8_toNext cyI cyB cyJ cyZ a0 a1 g0_size f1 u.1 u.2.1 u.2.2.1 u.2.2.2)) A) args s 0 0 A) : ∀ (g0_here : Int32) (g0_behind : Int32) (g0_digits : Int32) (g0_value : Int32), wpX8_toNext_146 post g0_size f1 g0_here g0_behind g0_digits g0_value → AtW p l e rmX8_toNext s m args below meth c dC dI A Q 1 0 0 (ceX8_toNext cyI cyB cyJ cyZ a0 a1 g0_size f1 g0_here g0_behind g0_digits g0_value) [(0, .ref a0)] 146 [] := by
  intro g0_here g0_behind g0_digits g0_value hw H locs hP hD hS ls hl
  have C1 := C0
  obtain ⟨hx, hb, hr, hml, hown, hts, hlocks⟩ := C1
  refine lv_aload_n hx hb dX8_toNext_146 rfl (lv_at hl 0 rfl) ?_
  refine lv_dup hx hb dX8_toNext_147 rfl ?_
  refine va_get (D := (dC, dI)) (ci := 8) (v := .int g0_behind) (C := RX8) (T := TX8) (N := 6) hx hb hts inX8_toNext_X8 hown hK hP 0 rfl rfl 3 (by decide) (hts (.fieldLink RX8 22 "LeadPark$Tape" "behind" "I") (List.mem_of_getElem? (i := 1) rfl)) (fun _ h9 => h9) rfl dX8_toNext_148 ?_
  refine lv_iconst (v := 1) hx hb dX8_toNext_151 (by decide) ?_
  refine lv_iadd hx hb dX8_toNext_152 ?_
  refine lv_topi (fun v1 ev1 => ?_)
  have hw := hw v1 ev1
  refine va_put (D := (dC, dI)) (ci := 8) (v := .int v1) (ty := .int) (C := RX8) (T := TX8) (N := 6) hx hb hts inX8_toNext_X8 tyX8 tyX8_ok nmX8 hown hK hP hD hS 0 rfl rfl 3 (by decide) (hts (.fieldLink RX8 22 "LeadPark$Tape" "behind" "I") (List.mem_of_getElem? (i := 1) rfl)) (fun _ h9 => h9) rfl (by decide +kernel) rfl rfl (Nat.le_of_ble_eq_true rfl) dX8_toNext_153 (fun H locs hP hD hS => ?_)
  have hP : va_P (dC, dI) vwCl (ceX8_toNext cyI cyB cyJ cyZ a0 a1 g0_size f1 g0_here v1 g0_digits g0_value) H := hP
  have hD : va_D A (ceX8_toNext cyI cyB cyJ cyZ a0 a1 g0_size f1 g0_here v1 g0_digits g0_value) := hD
  rw [hQ]
  exact W.vret hx hb hr (fun t ht hW => ⟨⟨(g0_here, v1, g0_digits, g0_value), rfl, hw, by rw [ht]; exact hP, va_K.moved hW.alike hK, hD⟩, hS.F ht⟩) hS.2.2 dX8_toNext_156
set_option maxRecDepth 100000 in
set_option maxHeartbeats 4000000 in
theorem bX8_toNext_111 {p : Program} {l : Launch} {e : Env} {s : State} {m : MethodId} {args : Array Value} {below : List Frame} {meth : Method} {c : Code} {dC : Nat → ClassId} {dI : Nat → Nat → Nat} {cyI cyB cyJ cyZ : ClassId} {A : Nat → Prop} {a0 a1 : Nat} (C0 : cxM p s m meth c args wsX8_toNext RX8 cX8_toNext 1 none) (hK : va_K (dC, dI) vwCl (tyA cyI cyB cyJ cyZ) s) (hN : nwA s) (hA : ∀ q : Nat, s.heap.size ≤ q → A q) {post : (Int32 × Int32 × Int32 × Int32) → Prop} {g0_size : Int32} {f1 : Nat → Int32} {Q : State → Prop} (hQ : Q = MQ below (va_Qv post (fun u : Int32 × Int32 × Int32 × Int32 => wAt dC dI cyI cyB cyJ cyZ A (ceX8_toNext cyI cyB cyJ cyZ a0 a1 g0_size f1 u.1 u.2.1 u.2.2.1 u.2.2.2)) A) args s 0 0 A) : ∀ (g0_here : Int32) (g0_behind : Int32) (g0_digits : Int32) (g0_value : Int32), wpX8_toNext_111 post g0_size f1 g0_here g0_behind g0_digits g0_value → AtW p l e rmX8_toNext s m args below meth c dC dI A Q 1 0 0 (ceX8_toNext cyI cyB cyJ cyZ a0 a1 g0_size f1 g0_here g0_behind g0_digits g0_value) [(0, .ref a0)] 111 [] := by
  intro g0_here g0_behind g0_digits g0_value hw H locs hP hD hS ls hl
  have C1 := C0
  obtain ⟨hx, hb, hr, hml, hown, hts, hlocks⟩ := C1
  refine lv_aload_n hx hb dX8_toNext_111 rfl (lv_at hl 0 rfl) ?_
  refine va_get (D := (dC, dI)) (ci := 8) (v := .ref a1) (C := RX8) (T := TX8) (N := 6) hx hb hts inX8_toNext_X8 hown hK hP 0 rfl rfl 0 (by decide) (hts (.fieldLink RX8 9 "LeadPark$Tape" "bytes" "[B") (List.mem_of_getElem? (i := 4) rfl)) (fun _ h9 => h9) rfl dX8_toNext_112 ?_
  refine lv_aload_n hx hb dX8_toNext_115 rfl (lv_at hl 0 rfl) ?_
  refine va_get (D := (dC, dI)) (ci := 8) (v := .int g0_here) (C := RX8) (T := TX8) (N := 6) hx hb hts inX8_toNext_X8 hown hK hP 0 rfl rfl 2 (by decide) (hts (.fieldLink RX8 19 "LeadPark$Tape" "here" "I") (List.mem_of_getElem? (i := 2) rfl)) (fun _ h9 => h9) rfl dX8_toNext_116 ?_
  obtain ⟨hi, hw⟩ := hw
  refine va_bald hx hb hK hP 1 1 rfl rfl hi dX8_toNext_119 ?_
  refine lv_bipush (v := 48) hx hb dX8_toNext_120 (by decide) ?_
  refine lv_icmp_lt (tgt := 146) hx hb dX8_toNext_122 (by decide) (fun hc => ?_) (fun hc => ?_)
  · have hw := hw.1 hc
    exact bX8_toNext_146 C0 hK hN hA hQ g0_here g0_behind g0_digits g0_value hw _ _ hP hD hS ls (lv_sub hl [0] rfl)
  · have hw := hw.2 hc
    refine lv_aload_n hx hb dX8_toNext_125 rfl (lv_at hl 0 rfl) ?_
    refine va_get (D := (dC, dI)) (ci := 8) (v := .ref a1) (C := RX8) (T := TX8) (N := 6) hx hb hts inX8_toNext_X8 hown hK hP 0 rfl rfl 0 (by decide) (hts (.fieldLink RX8 9 "LeadPark$Tape" "bytes" "[B") (List.mem_of_getElem? (i := 4) rfl)) (fun _ h9 => h9) rfl dX8_toNext_126 ?_
    refine lv_aload_n hx hb dX8_toNext_129 rfl (lv_at hl 0 rfl) ?_
    refine va_get (D := (dC, dI)) (ci := 8) (v := .int g0_here) (C := RX8) (T := TX8) (N := 6) hx hb hts inX8_toNext_X8 hown hK hP 0 rfl rfl 2 (by decide) (hts (.fieldLink RX8 19 "LeadPark$Tape" "here" "I") (List.mem_of_getElem? (i := 2) rfl)) (fun _ h9 => h9) rfl dX8_toNext_130 ?_
    obtain ⟨hi, hw⟩ := hw
    refine va_bald hx hb hK hP 1 1 rfl rfl hi dX8_toNext_133 ?_
    refine lv_bipush (v := 57) hx hb dX8_toNext_134 (by decide) ?_
    refine lv_icmp_gt (tgt := 146) hx hb dX8_toNext_136 (by decide) (fun hc => ?_) (fun hc => ?_)
    · have hw := hw.1 hc
      exact bX8_toNext_146 C0 hK hN hA hQ g0_here g0_behind g0_digits g0_value hw _ _ hP hD hS ls (lv_sub hl [0] rfl)
    · have hw := hw.2 hc
      refine lv_aload_n hx hb dX8_toNext_139 rfl (lv_at hl 0 rfl) ?_
      have hPc := hP.sub (ws' := (ceX8_passNumber cyI cyB cyJ cyZ a0 a1 g0_here g0_size f1 g0_behind g0_digits g0_value)) [0, 1] rfl
      have hDc := hD.sub (ws' := (ceX8_passNumber cyI cyB cyJ cyZ a0 a1 g0_here g0_size f1 g0_behind g0_digits g0_value)) [0, 1] (by decide) rfl
      have hFc := va_free (wc := (ceX8_passNumber cyI cyB cyJ cyZ a0 a1 g0_here g0_size f1 g0_behind g0_digits g0_value)) hD hS hA [0, 1] rfl
      refine va_callv (va_runV (As := []) (rest := []) ⟨hx, hb, hml, hown, hts⟩ (ctX8_passNumber l dC dI cyI cyB cyJ cyZ _ a0 a1 g0_here g0_size f1 g0_behind g0_digits g0_value _ hw) (cwV 0 hts gX8_toNext_X8_passNumber rfl rfl rfl (by decide +kernel) ⟨Nat.le_of_ble_eq_true rfl, Nat.le_of_ble_eq_true rfl⟩) ⟨wPre_blind, va_recv hK hPc (ci := 8) (q0 := 0) rfl rfl, fun U hU hW => wPre_of hPc hK hDc hN hU hW⟩ rfl rfl hl.1 rfl (lv_room (Nat.le_of_ble_eq_true rfl)) dX8_toNext_140 ⟨(Nat.zero_le _), (Nat.zero_le _)⟩) hS (fun q _ h => hFc q h) hFc (fun u1 t H1 locs ht hvm hw hB hz1 hk1 hS => ?_)
      obtain ⟨hP1, hK1, hD1⟩ := hB
      rw [ht] at hP1
      obtain ⟨hP, hD⟩ := va_join (wr := pickW (ceX8_toNext cyI cyB cyJ cyZ a0 a1 g0_size f1 g0_here g0_behind g0_digits g0_value) []) (w1 := (ceX8_passNumber cyI cyB cyJ cyZ a0 a1 g0_here g0_size f1 u1.1 u1.2.1 u1.2.2)) hP hD [0, 1] [] rfl rfl (by decide) (by decide) hk1 hFc hP1 hD1
      have hP := hP.sub (ws' := (ceX8_toNext cyI cyB cyJ cyZ a0 a1 g0_size f1 g0_here u1.1 u1.2.1 u1.2.2)) [0, 1] rfl
      have hD := hD.sub (ws' := (ceX8_toNext cyI cyB cyJ cyZ a0 a1 g0_size f1 g0_here u1.1 u1.2.1 u1.2.2)) [0, 1] (by decide) rfl
      generalize H1 = H at hP hS ⊢
      refine lv_goto (tgt := 156) hx hb dX8_toNext_143 (by decide) ?_
      rw [hQ]
      exact W.vret hx hb hr (fun t ht hW => ⟨⟨(g0_here, u1.1, u1.2.1, u1.2.2), rfl, hw, by rw [ht]; exact hP, va_K.moved hW.alike hK, hD⟩, hS.F ht⟩) hS.2.2 dX8_toNext_156
set_option maxRecDepth 100000 in
set_option maxHeartbeats 4000000 in
theorem bX8_toNext_46 {p : Program} {l : Launch} {e : Env} {s : State} {m : MethodId} {args : Array Value} {below : List Frame} {meth : Method} {c : Code} {dC : Nat → ClassId} {dI : Nat → Nat → Nat} {cyI cyB cyJ cyZ : ClassId} {A : Nat → Prop} {a0 a1 : Nat} (C0 : cxM p s m meth c args wsX8_toNext RX8 cX8_toNext 1 none) (hK : va_K (dC, dI) vwCl (tyA cyI cyB cyJ cyZ) s) (hN : nwA s) (hA : ∀ q : Nat, s.heap.size ≤ q → A q) {post : (Int32 × Int32 × Int32 × Int32) → Prop} {g0_size : Int32} {f1 : Nat → Int32} {Q : State → Prop} (hQ : Q = MQ below (va_Qv post (fun u : Int32 × Int32 × Int32 × Int32 => wAt dC dI cyI cyB cyJ cyZ A (ceX8_toNext cyI cyB cyJ cyZ a0 a1 g0_size f1 u.1 u.2.1 u.2.2.1 u.2.2.2)) A) args s 0 0 A) : ∀ (g0_here : Int32) (g0_behind : Int32) (g0_digits : Int32) (g0_value : Int32), wpX8_toNext_46 post g0_size f1 g0_here g0_behind g0_digits g0_value → AtW p l e rmX8_toNext s m args below meth c dC dI A Q 1 0 0 (ceX8_toNext cyI cyB cyJ cyZ a0 a1 g0_size f1 g0_here g0_behind g0_digits g0_value) [(0, .ref a0)] 46 [] := by
  intro g0_here g0_behind g0_digits g0_value hw H locs hP hD hS ls hl
  have C1 := C0
  obtain ⟨hx, hb, hr, hml, hown, hts, hlocks⟩ := C1
  refine lv_aload_n hx hb dX8_toNext_46 rfl (lv_at hl 0 rfl) ?_
  refine lv_aload_n hx hb dX8_toNext_47 rfl (lv_at hl 0 rfl) ?_
  refine va_get (D := (dC, dI)) (ci := 8) (v := .int g0_here) (C := RX8) (T := TX8) (N := 6) hx hb hts inX8_toNext_X8 hown hK hP 0 rfl rfl 2 (by decide) (hts (.fieldLink RX8 19 "LeadPark$Tape" "here" "I") (List.mem_of_getElem? (i := 2) rfl)) (fun _ h9 => h9) rfl dX8_toNext_48 ?_
  refine va_put (D := (dC, dI)) (ci := 8) (v := .int g0_here) (ty := .int) (C := RX8) (T := TX8) (N := 6) hx hb hts inX8_toNext_X8 tyX8 tyX8_ok nmX8 hown hK hP hD hS 0 rfl rfl 3 (by decide) (hts (.fieldLink RX8 22 "LeadPark$Tape" "behind" "I") (List.mem_of_getElem? (i := 1) rfl)) (fun _ h9 => h9) rfl (by decide +kernel) rfl rfl (Nat.le_of_ble_eq_true rfl) dX8_toNext_51 (fun H locs hP hD hS => ?_)
  have hP : va_P (dC, dI) vwCl (ceX8_toNext cyI cyB cyJ cyZ a0 a1 g0_size f1 g0_here g0_here g0_digits g0_value) H := hP
  have hD : va_D A (ceX8_toNext cyI cyB cyJ cyZ a0 a1 g0_size f1 g0_here g0_here g0_digits g0_value) := hD
  refine lv_aload_n hx hb dX8_toNext_54 rfl (lv_at hl 0 rfl) ?_
  refine lv_iconst (v := 0) hx hb dX8_toNext_55 (by decide) ?_
  refine va_put (D := (dC, dI)) (ci := 8) (v := .int 0) (ty := .int) (C := RX8) (T := TX8) (N := 6) hx hb hts inX8_toNext_X8 tyX8 tyX8_ok nmX8 hown hK hP hD hS 0 rfl rfl 4 (by decide) (hts (.fieldLink RX8 25 "LeadPark$Tape" "digits" "I") (List.mem_of_getElem? (i := 5) rfl)) (fun _ h9 => h9) rfl (by decide +kernel) rfl rfl (Nat.le_of_ble_eq_true rfl) dX8_toNext_56 (fun H locs hP hD hS => ?_)
  have hP : va_P (dC, dI) vwCl (ceX8_toNext cyI cyB cyJ cyZ a0 a1 g0_size f1 g0_here g0_here 0 g0_value) H := hP
  have hD : va_D A (ceX8_toNext cyI cyB cyJ cyZ a0 a1 g0_size f1 g0_here g0_here 0 g0_value) := hD
  refine lv_aload_n hx hb dX8_toNext_59 rfl (lv_at hl 0 rfl) ?_
  refine lv_iconst (v := 0) hx hb dX8_toNext_60 (by decide) ?_
  refine va_put (D := (dC, dI)) (ci := 8) (v := .int 0) (ty := .int) (C := RX8) (T := TX8) (N := 6) hx hb hts inX8_toNext_X8 tyX8 tyX8_ok nmX8 hown hK hP hD hS 0 rfl rfl 5 (by decide) (hts (.fieldLink RX8 28 "LeadPark$Tape" "value" "I") (List.mem_of_getElem? (i := 6) rfl)) (fun _ h9 => h9) rfl (by decide +kernel) rfl rfl (Nat.le_of_ble_eq_true rfl) dX8_toNext_61 (fun H locs hP hD hS => ?_)
  have hP : va_P (dC, dI) vwCl (ceX8_toNext cyI cyB cyJ cyZ a0 a1 g0_size f1 g0_here g0_here 0 0) H := hP
  have hD : va_D A (ceX8_toNext cyI cyB cyJ cyZ a0 a1 g0_size f1 g0_here g0_here 0 0) := hD
  refine lv_aload_n hx hb dX8_toNext_64 rfl (lv_at hl 0 rfl) ?_
  refine va_get (D := (dC, dI)) (ci := 8) (v := .int g0_here) (C := RX8) (T := TX8) (N := 6) hx hb hts inX8_toNext_X8 hown hK hP 0 rfl rfl 2 (by decide) (hts (.fieldLink RX8 19 "LeadPark$Tape" "here" "I") (List.mem_of_getElem? (i := 2) rfl)) (fun _ h9 => h9) rfl dX8_toNext_65 ?_
  refine lv_aload_n hx hb dX8_toNext_68 rfl (lv_at hl 0 rfl) ?_
  refine va_get (D := (dC, dI)) (ci := 8) (v := .int g0_size) (C := RX8) (T := TX8) (N := 6) hx hb hts inX8_toNext_X8 hown hK hP 0 rfl rfl 1 (by decide) (hts (.fieldLink RX8 15 "LeadPark$Tape" "size" "I") (List.mem_of_getElem? (i := 3) rfl)) (fun _ h9 => h9) rfl dX8_toNext_69 ?_
  refine lv_icmp_lt (tgt := 76) hx hb dX8_toNext_72 (by decide) (fun hc => ?_) (fun hc => ?_)
  · have hw := hw.1 hc
    refine lv_aload_n hx hb dX8_toNext_76 rfl (lv_at hl 0 rfl) ?_
    refine va_get (D := (dC, dI)) (ci := 8) (v := .ref a1) (C := RX8) (T := TX8) (N := 6) hx hb hts inX8_toNext_X8 hown hK hP 0 rfl rfl 0 (by decide) (hts (.fieldLink RX8 9 "LeadPark$Tape" "bytes" "[B") (List.mem_of_getElem? (i := 4) rfl)) (fun _ h9 => h9) rfl dX8_toNext_77 ?_
    refine lv_aload_n hx hb dX8_toNext_80 rfl (lv_at hl 0 rfl) ?_
    refine va_get (D := (dC, dI)) (ci := 8) (v := .int g0_here) (C := RX8) (T := TX8) (N := 6) hx hb hts inX8_toNext_X8 hown hK hP 0 rfl rfl 2 (by decide) (hts (.fieldLink RX8 19 "LeadPark$Tape" "here" "I") (List.mem_of_getElem? (i := 2) rfl)) (fun _ h9 => h9) rfl dX8_toNext_81 ?_
    obtain ⟨hi, hw⟩ := hw
    refine va_bald hx hb hK hP 1 1 rfl rfl hi dX8_toNext_84 ?_
    refine lv_bipush (v := 97) hx hb dX8_toNext_85 (by decide) ?_
    refine lv_icmp_lt (tgt := 111) hx hb dX8_toNext_87 (by decide) (fun hc => ?_) (fun hc => ?_)
    · have hw := hw.1 hc
      exact bX8_toNext_111 C0 hK hN hA hQ g0_here g0_here 0 0 hw _ _ hP hD hS ls (lv_sub hl [0] rfl)
    · have hw := hw.2 hc
      refine lv_aload_n hx hb dX8_toNext_90 rfl (lv_at hl 0 rfl) ?_
      refine va_get (D := (dC, dI)) (ci := 8) (v := .ref a1) (C := RX8) (T := TX8) (N := 6) hx hb hts inX8_toNext_X8 hown hK hP 0 rfl rfl 0 (by decide) (hts (.fieldLink RX8 9 "LeadPark$Tape" "bytes" "[B") (List.mem_of_getElem? (i := 4) rfl)) (fun _ h9 => h9) rfl dX8_toNext_91 ?_
      refine lv_aload_n hx hb dX8_toNext_94 rfl (lv_at hl 0 rfl) ?_
      refine va_get (D := (dC, dI)) (ci := 8) (v := .int g0_here) (C := RX8) (T := TX8) (N := 6) hx hb hts inX8_toNext_X8 hown hK hP 0 rfl rfl 2 (by decide) (hts (.fieldLink RX8 19 "LeadPark$Tape" "here" "I") (List.mem_of_getElem? (i := 2) rfl)) (fun _ h9 => h9) rfl dX8_toNext_95 ?_
      obtain ⟨hi, hw⟩ := hw
      refine va_bald hx hb hK hP 1 1 rfl rfl hi dX8_toNext_98 ?_
      refine lv_bipush (v := 122) hx hb dX8_toNext_99 (by decide) ?_
      refine lv_icmp_gt (tgt := 111) hx hb dX8_toNext_101 (by decide) (fun hc => ?_) (fun hc => ?_)
      · have hw := hw.1 hc
        exact bX8_toNext_111 C0 hK hN hA hQ g0_here g0_here 0 0 hw _ _ hP hD hS ls (lv_sub hl [0] rfl)
      · have hw := hw.2 hc
        refine lv_aload_n hx hb dX8_toNext_104 rfl (lv_at hl 0 rfl) ?_
        have hPc := hP.sub (ws' := (ceX8_passWord cyI cyB cyJ cyZ a0 a1 g0_here 0 0 g0_size f1 g0_here)) [0, 1] rfl
        have hDc := hD.sub (ws' := (ceX8_passWord cyI cyB cyJ cyZ a0 a1 g0_here 0 0 g0_size f1 g0_here)) [0, 1] (by decide) rfl
        have hFc := va_free (wc := (ceX8_passWord cyI cyB cyJ cyZ a0 a1 g0_here 0 0 g0_size f1 g0_here)) hD hS hA [0, 1] rfl
        refine va_callv (va_runV (As := []) (rest := []) ⟨hx, hb, hml, hown, hts⟩ (ctX8_passWord l dC dI cyI cyB cyJ cyZ _ a0 a1 g0_here 0 0 g0_size f1 g0_here _ hw) (cwV 0 hts gX8_toNext_X8_passWord rfl rfl rfl (by decide +kernel) ⟨Nat.le_of_ble_eq_true rfl, Nat.le_of_ble_eq_true rfl⟩) ⟨wPre_blind, va_recv hK hPc (ci := 8) (q0 := 0) rfl rfl, fun U hU hW => wPre_of hPc hK hDc hN hU hW⟩ rfl rfl hl.1 rfl (lv_room (Nat.le_of_ble_eq_true rfl)) dX8_toNext_105 ⟨(Nat.zero_le _), (Nat.zero_le _)⟩) hS (fun q _ h => hFc q h) hFc (fun u1 t H1 locs ht hvm hw hB hz1 hk1 hS => ?_)
        obtain ⟨hP1, hK1, hD1⟩ := hB
        rw [ht] at hP1
        obtain ⟨hP, hD⟩ := va_join (wr := pickW (ceX8_toNext cyI cyB cyJ cyZ a0 a1 g0_size f1 g0_here g0_here 0 0) []) (w1 := (ceX8_passWord cyI cyB cyJ cyZ a0 a1 g0_here 0 0 g0_size f1 u1)) hP hD [0, 1] [] rfl rfl (by decide) (by decide) hk1 hFc hP1 hD1
        have hP := hP.sub (ws' := (ceX8_toNext cyI cyB cyJ cyZ a0 a1 g0_size f1 g0_here u1 0 0)) [0, 1] rfl
        have hD := hD.sub (ws' := (ceX8_toNext cyI cyB cyJ cyZ a0 a1 g0_size f1 g0_here u1 0 0)) [0, 1] (by decide) rfl
        generalize H1 = H at hP hS ⊢
        refine lv_goto (tgt := 156) hx hb dX8_toNext_108 (by decide) ?_
        rw [hQ]
        exact W.vret hx hb hr (fun t ht hW => ⟨⟨(g0_here, u1, 0, 0), rfl, hw, by rw [ht]; exact hP, va_K.moved hW.alike hK, hD⟩, hS.F ht⟩) hS.2.2 dX8_toNext_156
  · have hw := hw.2 hc
    rw [hQ]
    exact W.vret hx hb hr (fun t ht hW => ⟨⟨(g0_here, g0_here, 0, 0), rfl, hw, by rw [ht]; exact hP, va_K.moved hW.alike hK, hD⟩, hS.F ht⟩) hS.2.2 dX8_toNext_75
set_option maxRecDepth 100000 in
set_option maxHeartbeats 4000000 in
theorem bX8_toNext_8 {p : Program} {l : Launch} {e : Env} {s : State} {m : MethodId} {args : Array Value} {below : List Frame} {meth : Method} {c : Code} {dC : Nat → ClassId} {dI : Nat → Nat → Nat} {cyI cyB cyJ cyZ : ClassId} {A : Nat → Prop} {a0 a1 : Nat} (C0 : cxM p s m meth c args wsX8_toNext RX8 cX8_toNext 1 none) (hK : va_K (dC, dI) vwCl (tyA cyI cyB cyJ cyZ) s) (hN : nwA s) (hA : ∀ q : Nat, s.heap.size ≤ q → A q) {post : (Int32 × Int32 × Int32 × Int32) → Prop} {g0_size : Int32} {f1 : Nat → Int32} {Q : State → Prop} (hQ : Q = MQ below (va_Qv post (fun u : Int32 × Int32 × Int32 × Int32 => wAt dC dI cyI cyB cyJ cyZ A (ceX8_toNext cyI cyB cyJ cyZ a0 a1 g0_size f1 u.1 u.2.1 u.2.2.1 u.2.2.2)) A) args s 0 0 A) : ∀ (n : Nat) (g0_here : Int32) (g0_behind : Int32) (g0_digits : Int32) (g0_value : Int32), wpX8_toNext_8 post g0_size f1 n g0_here g0_behind g0_digits g0_value → AtW p l e rmX8_toNext s m args below meth c dC dI A Q 1 0 0 (ceX8_toNext cyI cyB cyJ cyZ a0 a1 g0_size f1 g0_here g0_behind g0_digits g0_value) [(0, .ref a0)] 8 [] := by
  intro n
  induction n with
  | zero => intro g0_here g0_behind g0_digits g0_value hw; exact False.elim hw
  | succ n ih =>
    intro g0_here g0_behind g0_digits g0_value hw H locs hP hD hS ls hl
    have C1 := C0
    obtain ⟨hx, hb, hr, hml, hown, hts, hlocks⟩ := C1
    refine lv_aload_n hx hb dX8_toNext_8 rfl (lv_at hl 0 rfl) ?_
    refine va_get (D := (dC, dI)) (ci := 8) (v := .int g0_here) (C := RX8) (T := TX8) (N := 6) hx hb hts inX8_toNext_X8 hown hK hP 0 rfl rfl 2 (by decide) (hts (.fieldLink RX8 19 "LeadPark$Tape" "here" "I") (List.mem_of_getElem? (i := 2) rfl)) (fun _ h9 => h9) rfl dX8_toNext_9 ?_
    refine lv_aload_n hx hb dX8_toNext_12 rfl (lv_at hl 0 rfl) ?_
    refine va_get (D := (dC, dI)) (ci := 8) (v := .int g0_size) (C := RX8) (T := TX8) (N := 6) hx hb hts inX8_toNext_X8 hown hK hP 0 rfl rfl 1 (by decide) (hts (.fieldLink RX8 15 "LeadPark$Tape" "size" "I") (List.mem_of_getElem? (i := 3) rfl)) (fun _ h9 => h9) rfl dX8_toNext_13 ?_
    refine lv_icmp_ge (tgt := 46) hx hb dX8_toNext_16 (by decide) (fun hc => ?_) (fun hc => ?_)
    · have hw := hw.1 hc
      exact bX8_toNext_46 C0 hK hN hA hQ g0_here g0_behind g0_digits g0_value hw _ _ hP hD hS ls (lv_sub hl [0] rfl)
    · have hw := hw.2 hc
      refine lv_aload_n hx hb dX8_toNext_19 rfl (lv_at hl 0 rfl) ?_
      refine va_get (D := (dC, dI)) (ci := 8) (v := .ref a1) (C := RX8) (T := TX8) (N := 6) hx hb hts inX8_toNext_X8 hown hK hP 0 rfl rfl 0 (by decide) (hts (.fieldLink RX8 9 "LeadPark$Tape" "bytes" "[B") (List.mem_of_getElem? (i := 4) rfl)) (fun _ h9 => h9) rfl dX8_toNext_20 ?_
      refine lv_aload_n hx hb dX8_toNext_23 rfl (lv_at hl 0 rfl) ?_
      refine va_get (D := (dC, dI)) (ci := 8) (v := .int g0_here) (C := RX8) (T := TX8) (N := 6) hx hb hts inX8_toNext_X8 hown hK hP 0 rfl rfl 2 (by decide) (hts (.fieldLink RX8 19 "LeadPark$Tape" "here" "I") (List.mem_of_getElem? (i := 2) rfl)) (fun _ h9 => h9) rfl dX8_toNext_24 ?_
      obtain ⟨hi, hw⟩ := hw
      refine va_bald hx hb hK hP 1 1 rfl rfl hi dX8_toNext_27 ?_
      refine lv_bipush (v := 32) hx hb dX8_toNext_28 (by decide) ?_
      refine lv_icmp_ne (tgt := 46) hx hb dX8_toNext_30 (by decide) (fun hc => ?_) (fun hc => ?_)
      · have hw := hw.1 hc
        exact bX8_toNext_46 C0 hK hN hA hQ g0_here g0_behind g0_digits g0_value hw _ _ hP hD hS ls (lv_sub hl [0] rfl)
      · have hw := hw.2 hc
        refine lv_aload_n hx hb dX8_toNext_33 rfl (lv_at hl 0 rfl) ?_
        refine lv_dup hx hb dX8_toNext_34 rfl ?_
        refine va_get (D := (dC, dI)) (ci := 8) (v := .int g0_here) (C := RX8) (T := TX8) (N := 6) hx hb hts inX8_toNext_X8 hown hK hP 0 rfl rfl 2 (by decide) (hts (.fieldLink RX8 19 "LeadPark$Tape" "here" "I") (List.mem_of_getElem? (i := 2) rfl)) (fun _ h9 => h9) rfl dX8_toNext_35 ?_
        refine lv_iconst (v := 1) hx hb dX8_toNext_38 (by decide) ?_
        refine lv_iadd hx hb dX8_toNext_39 ?_
        refine lv_topi (fun v1 ev1 => ?_)
        have hw := hw v1 ev1
        refine va_put (D := (dC, dI)) (ci := 8) (v := .int v1) (ty := .int) (C := RX8) (T := TX8) (N := 6) hx hb hts inX8_toNext_X8 tyX8 tyX8_ok nmX8 hown hK hP hD hS 0 rfl rfl 2 (by decide) (hts (.fieldLink RX8 19 "LeadPark$Tape" "here" "I") (List.mem_of_getElem? (i := 2) rfl)) (fun _ h9 => h9) rfl (by decide +kernel) rfl rfl (Nat.le_of_ble_eq_true rfl) dX8_toNext_40 (fun H locs hP hD hS => ?_)
        have hP : va_P (dC, dI) vwCl (ceX8_toNext cyI cyB cyJ cyZ a0 a1 g0_size f1 v1 g0_behind g0_digits g0_value) H := hP
        have hD : va_D A (ceX8_toNext cyI cyB cyJ cyZ a0 a1 g0_size f1 v1 g0_behind g0_digits g0_value) := hD
        refine lv_goto (tgt := 8) hx hb dX8_toNext_43 (by decide) ?_
        exact ih v1 g0_behind g0_digits g0_value hw H locs hP hD hS ls (lv_sub hl [0] rfl)
set_option maxRecDepth 100000 in
set_option maxHeartbeats 4000000 in
theorem ctX8_toNext (l : Launch) (dC : Nat → ClassId) (dI : Nat → Nat → Nat) (cyI cyB cyJ cyZ : ClassId) (sz : Nat) (a0 a1 : Nat) (g0_size : Int32) (f1 : Nat → Int32) (g0_here : Int32) (g0_behind : Int32) (g0_digits : Int32) (g0_value : Int32) (post : (Int32 × Int32 × Int32 × Int32) → Prop) (hw : wpX8_toNext post g0_size f1 g0_here g0_behind g0_digits g0_value ) : Met l yX8_toNext wsX8_toNext rmX8_toNext (va_Pc [.ref a0] (wPre dC dI cyI cyB cyJ cyZ sz (ceX8_toNext cyI cyB cyJ cyZ a0 a1 g0_size f1 g0_here g0_behind g0_digits g0_value))) (va_Qv post (fun u : Int32 × Int32 × Int32 × Int32 => wAt dC dI cyI cyB cyJ cyZ (va_A (ceX8_toNext cyI cyB cyJ cyZ a0 a1 g0_size f1 g0_here g0_behind g0_digits g0_value) sz) (ceX8_toNext cyI cyB cyJ cyZ a0 a1 g0_size f1 u.1 u.2.1 u.2.2.1 u.2.2.2)) (va_A (ceX8_toNext cyI cyB cyJ cyZ a0 a1 g0_size f1 g0_here g0_behind g0_digits g0_value) sz)) 0 0 (va_A (ceX8_toNext cyI cyB cyJ cyZ a0 a1 g0_size f1 g0_here g0_behind g0_digits g0_value) sz) := by
  refine Met.ofW (cc := cX8_toNext) (maxL := 1) (ret := none) (by decide) rfl ?_
  intro p e s m args below meth c s₁ B hml hv
  obtain ⟨rfl, hsz, hP, hK, hD0, hN⟩ := hv
  have hx := B.exec
  have hb := B.bytes
  have hr := B.returns
  have hts := atoms_spec (ws := wsX8_toNext) B.pre
  have hown : s.vm.findClass RX8 = some m.cls := findClass_of_methodNamed B.named
  have hlocks := B.notSynchronized
  subst hsz
  have hD := hD0.self (sz := s.heap.size)
  generalize hAe : va_A (ceX8_toNext cyI cyB cyJ cyZ a0 a1 g0_size f1 g0_here g0_behind g0_digits g0_value) s.heap.size = A at hD ⊢
  have hA : ∀ q : Nat, s.heap.size ≤ q → A q := fun q h => by rw [← hAe]; exact Or.inr h
  have hS : va_S A s.heap s.heap [] := va_S.rf
  have C0 : cxM p s m meth c _ wsX8_toNext RX8 cX8_toNext 1 none := ⟨hx, hb, hr, hml, hown, hts, hlocks⟩
  have hl := lv_entry ([.ref a0]) (n := 1) (Nat.le_of_ble_eq_true rfl)
  rw [lg_entry_eq]
  generalize (lg_sl ([.ref a0]) ++ List.replicate (1 - (lg_sl ([.ref a0])).length) Slot.unset).toArray = ls at hl ⊢
  have hl : lv_has ls 1 [(0, .ref a0)] := hl
  show W p l e rmX8_toNext s m _ below meth c _ _ _ _ _ _
  refine wq (fun Q hQ => ?_)
  refine lv_aload_n hx hb dX8_toNext_0 rfl (lv_at hl 0 rfl) ?_
  refine lv_aload_n hx hb dX8_toNext_1 rfl (lv_at hl 0 rfl) ?_
  refine va_get (D := (dC, dI)) (ci := 8) (v := .int g0_behind) (C := RX8) (T := TX8) (N := 6) hx hb hts inX8_toNext_X8 hown hK hP 0 rfl rfl 3 (by decide) (hts (.fieldLink RX8 22 "LeadPark$Tape" "behind" "I") (List.mem_of_getElem? (i := 1) rfl)) (fun _ h9 => h9) rfl dX8_toNext_2 ?_
  refine va_put (D := (dC, dI)) (ci := 8) (v := .int g0_behind) (ty := .int) (C := RX8) (T := TX8) (N := 6) hx hb hts inX8_toNext_X8 tyX8 tyX8_ok nmX8 hown hK hP hD hS 0 rfl rfl 2 (by decide) (hts (.fieldLink RX8 19 "LeadPark$Tape" "here" "I") (List.mem_of_getElem? (i := 2) rfl)) (fun _ h9 => h9) rfl (by decide +kernel) rfl rfl (Nat.le_of_ble_eq_true rfl) dX8_toNext_5 (fun H locs hP hD hS => ?_)
  have hP : va_P (dC, dI) vwCl (ceX8_toNext cyI cyB cyJ cyZ a0 a1 g0_size f1 g0_behind g0_behind g0_digits g0_value) H := hP
  have hD : va_D A (ceX8_toNext cyI cyB cyJ cyZ a0 a1 g0_size f1 g0_behind g0_behind g0_digits g0_value) := hD
  obtain ⟨nn, hw⟩ := hw
  exact bX8_toNext_8 C0 hK hN hA hQ nn g0_behind g0_behind g0_digits g0_value hw _ _ hP hD hS ls (lv_sub hl [0] rfl)
/-! LeadPark$Tape.toFirst ()V -/
abbrev ceX8_toFirst (cyI cyB cyJ cyZ : ClassId) (a0 a1 : Nat) (g0_size : Int32) (f1 : Nat → Int32) (g0_here : Int32) (g0_behind : Int32) (g0_digits : Int32) (g0_value : Int32) : va_W := [(a0, .inr (8, [.ref a1, .int g0_size, .int g0_here, .int g0_behind, .int g0_digits, .int g0_value])), (a1, .inl (cyB, 400, .inl f1))]

theorem inX8_toFirst_X8 : ∀ w ∈ wsX80, w ∈ wsX8_toFirst := fun _ h => List.mem_cons_of_mem _ (List.mem_append_right _ h)
abbrev rmX8_toFirst : Room := { frames := 2, cells := 0, slots := 0, locals := 40 }
set_option maxRecDepth 100000 in
set_option maxHeartbeats 4000000 in
theorem ctX8_toFirst (l : Launch) (dC : Nat → ClassId) (dI : Nat → Nat → Nat) (cyI cyB cyJ cyZ : ClassId) (sz : Nat) (a0 a1 : Nat) (g0_size : Int32) (f1 : Nat → Int32) (g0_here : Int32) (g0_behind : Int32) (g0_digits : Int32) (g0_value : Int32) (post : (Int32 × Int32 × Int32 × Int32) → Prop) (hw : wpX8_toFirst post g0_size f1 g0_here g0_behind g0_digits g0_value ) : Met l yX8_toFirst wsX8_toFirst rmX8_toFirst (va_Pc [.ref a0] (wPre dC dI cyI cyB cyJ cyZ sz (ceX8_toFirst cyI cyB cyJ cyZ a0 a1 g0_size f1 g0_here g0_behind g0_digits g0_value))) (va_Qv post (fun u : Int32 × Int32 × Int32 × Int32 => wAt dC dI cyI cyB cyJ cyZ (va_A (ceX8_toFirst cyI cyB cyJ cyZ a0 a1 g0_size f1 g0_here g0_behind g0_digits g0_value) sz) (ceX8_toFirst cyI cyB cyJ cyZ a0 a1 g0_size f1 u.1 u.2.1 u.2.2.1 u.2.2.2)) (va_A (ceX8_toFirst cyI cyB cyJ cyZ a0 a1 g0_size f1 g0_here g0_behind g0_digits g0_value) sz)) 0 0 (va_A (ceX8_toFirst cyI cyB cyJ cyZ a0 a1 g0_size f1 g0_here g0_behind g0_digits g0_value) sz) := by
  refine Met.ofW (cc := cX8_toFirst) (maxL := 1) (ret := none) (by decide) rfl ?_
  intro p e s m args below meth c s₁ B hml hv
  obtain ⟨rfl, hsz, hP, hK, hD0, hN⟩ := hv
  have hx := B.exec
  have hb := B.bytes
  have hr := B.returns
  have hts := atoms_spec (ws := wsX8_toFirst) B.pre
  have hown : s.vm.findClass RX8 = some m.cls := findClass_of_methodNamed B.named
  have hlocks := B.notSynchronized
  subst hsz
  have hD := hD0.self (sz := s.heap.size)
  generalize hAe : va_A (ceX8_toFirst cyI cyB cyJ cyZ a0 a1 g0_size f1 g0_here g0_behind g0_digits g0_value) s.heap.size = A at hD ⊢
  have hA : ∀ q : Nat, s.heap.size ≤ q → A q := fun q h => by rw [← hAe]; exact Or.inr h
  have hS : va_S A s.heap s.heap [] := va_S.rf
  have C0 : cxM p s m meth c _ wsX8_toFirst RX8 cX8_toFirst 1 none := ⟨hx, hb, hr, hml, hown, hts, hlocks⟩
  have hl := lv_entry ([.ref a0]) (n := 1) (Nat.le_of_ble_eq_true rfl)
  rw [lg_entry_eq]
  generalize (lg_sl ([.ref a0]) ++ List.replicate (1 - (lg_sl ([.ref a0])).length) Slot.unset).toArray = ls at hl ⊢
  have hl : lv_has ls 1 [(0, .ref a0)] := hl
  show W p l e rmX8_toFirst s m _ below meth c _ _ _ _ _ _
  refine wq (fun Q hQ => ?_)
  refine lv_aload_n hx hb dX8_toFirst_0 rfl (lv_at hl 0 rfl) ?_
  refine lv_iconst (v := 0) hx hb dX8_toFirst_1 (by decide) ?_
  refine va_put (D := (dC, dI)) (ci := 8) (v := .int 0) (ty := .int) (C := RX8) (T := TX8) (N := 6) hx hb hts inX8_toFirst_X8 tyX8 tyX8_ok nmX8 hown hK hP hD hS 0 rfl rfl 3 (by decide) (hts (.fieldLink RX8 22 "LeadPark$Tape" "behind" "I") (List.mem_of_getElem? (i := 1) rfl)) (fun _ h9 => h9) rfl (by decide +kernel) rfl rfl (Nat.le_of_ble_eq_true rfl) dX8_toFirst_2 (fun H locs hP hD hS => ?_)
  have hP : va_P (dC, dI) vwCl (ceX8_toFirst cyI cyB cyJ cyZ a0 a1 g0_size f1 g0_here 0 g0_digits g0_value) H := hP
  have hD : va_D A (ceX8_toFirst cyI cyB cyJ cyZ a0 a1 g0_size f1 g0_here 0 g0_digits g0_value) := hD
  refine lv_aload_n hx hb dX8_toFirst_5 rfl (lv_at hl 0 rfl) ?_
  have hPc := hP.sub (ws' := (ceX8_toNext cyI cyB cyJ cyZ a0 a1 g0_size f1 g0_here 0 g0_digits g0_value)) [0, 1] rfl
  have hDc := hD.sub (ws' := (ceX8_toNext cyI cyB cyJ cyZ a0 a1 g0_size f1 g0_here 0 g0_digits g0_value)) [0, 1] (by decide) rfl
  have hFc := va_free (wc := (ceX8_toNext cyI cyB cyJ cyZ a0 a1 g0_size f1 g0_here 0 g0_digits g0_value)) hD hS hA [0, 1] rfl
  refine va_callv (va_runV (As := []) (rest := []) ⟨hx, hb, hml, hown, hts⟩ (ctX8_toNext l dC dI cyI cyB cyJ cyZ _ a0 a1 g0_size f1 g0_here 0 g0_digits g0_value _ hw) (cwV 0 hts gX8_toFirst_X8_toNext rfl rfl rfl (by decide +kernel) ⟨Nat.le_of_ble_eq_true rfl, Nat.le_of_ble_eq_true rfl⟩) ⟨wPre_blind, va_recv hK hPc (ci := 8) (q0 := 0) rfl rfl, fun U hU hW => wPre_of hPc hK hDc hN hU hW⟩ rfl rfl hl.1 rfl (lv_room (Nat.le_of_ble_eq_true rfl)) dX8_toFirst_6 ⟨(Nat.zero_le _), (Nat.zero_le _)⟩) hS (fun q _ h => hFc q h) hFc (fun u1 t H1 locs ht hvm hw hB hz1 hk1 hS => ?_)
  obtain ⟨hP1, hK1, hD1⟩ := hB
  rw [ht] at hP1
  obtain ⟨hP, hD⟩ := va_join (wr := pickW (ceX8_toFirst cyI cyB cyJ cyZ a0 a1 g0_size f1 g0_here 0 g0_digits g0_value) []) (w1 := (ceX8_toNext cyI cyB cyJ cyZ a0 a1 g0_size f1 u1.1 u1.2.1 u1.2.2.1 u1.2.2.2)) hP hD [0, 1] [] rfl rfl (by decide) (by decide) hk1 hFc hP1 hD1
  have hP := hP.sub (ws' := (ceX8_toFirst cyI cyB cyJ cyZ a0 a1 g0_size f1 u1.1 u1.2.1 u1.2.2.1 u1.2.2.2)) [0, 1] rfl
  have hD := hD.sub (ws' := (ceX8_toFirst cyI cyB cyJ cyZ a0 a1 g0_size f1 u1.1 u1.2.1 u1.2.2.1 u1.2.2.2)) [0, 1] (by decide) rfl
  generalize H1 = H at hP hS ⊢
  rw [hQ]
  exact W.vret hx hb hr (fun t ht hW => ⟨⟨(u1.1, u1.2.1, u1.2.2.1, u1.2.2.2), rfl, hw, by rw [ht]; exact hP, va_K.moved hW.alike hK, hD⟩, hS.F ht⟩) hS.2.2 dX8_toFirst_9
/-! LeadPark$Tape.isOver ()Z -/
abbrev ceX8_isOver (cyI cyB cyJ cyZ : ClassId) (a0 b0_bytes : Nat) (g0_behind : Int32) (g0_digits : Int32) (g0_value : Int32) (g0_size : Int32) (g0_here : Int32) : va_W := [(a0, .inr (8, [.ref b0_bytes, .int g0_size, .int g0_here, .int g0_behind, .int g0_digits, .int g0_value]))]

theorem inX8_isOver_X8 : ∀ w ∈ wsX80, w ∈ wsX8_isOver := fun _ h => List.mem_cons_of_mem _ (List.mem_append_right _ h)
abbrev rmX8_isOver : Room := { frames := 0, cells := 0, slots := 0, locals := 0 }
set_option maxRecDepth 100000 in
set_option maxHeartbeats 4000000 in
theorem ctX8_isOver (l : Launch) (dC : Nat → ClassId) (dI : Nat → Nat → Nat) (cyI cyB cyJ cyZ : ClassId) (sz : Nat) (a0 b0_bytes : Nat) (g0_behind : Int32) (g0_digits : Int32) (g0_value : Int32) (g0_size : Int32) (g0_here : Int32) (post : Int32 → Unit → Prop) (hw : wpX8_isOver post g0_size g0_here ) : Met l yX8_isOver wsX8_isOver rmX8_isOver (va_Pc [.ref a0] (wPre dC dI cyI cyB cyJ cyZ sz (ceX8_isOver cyI cyB cyJ cyZ a0 b0_bytes g0_behind g0_digits g0_value g0_size g0_here))) (va_Qi post (fun u : Unit => wAt dC dI cyI cyB cyJ cyZ (va_A (ceX8_isOver cyI cyB cyJ cyZ a0 b0_bytes g0_behind g0_digits g0_value g0_size g0_here) sz) (ceX8_isOver cyI cyB cyJ cyZ a0 b0_bytes g0_behind g0_digits g0_value g0_size g0_here)) (va_A (ceX8_isOver cyI cyB cyJ cyZ a0 b0_bytes g0_behind g0_digits g0_value g0_size g0_here) sz)) 0 0 (va_A (ceX8_isOver cyI cyB cyJ cyZ a0 b0_bytes g0_behind g0_digits g0_value g0_size g0_here) sz) := by
  refine Met.ofW (cc := cX8_isOver) (maxL := 1) (ret := (some .boolean)) (by decide) rfl ?_
  intro p e s m args below meth c s₁ B hml hv
  obtain ⟨rfl, hsz, hP, hK, hD0, hN⟩ := hv
  have hx := B.exec
  have hb := B.bytes
  have hr := B.returns
  have hts := atoms_spec (ws := wsX8_isOver) B.pre
  have hown : s.vm.findClass RX8 = some m.cls := findClass_of_methodNamed B.named
  have hlocks := B.notSynchronized
  subst hsz
  have hD := hD0.self (sz := s.heap.size)
  generalize hAe : va_A (ceX8_isOver cyI cyB cyJ cyZ a0 b0_bytes g0_behind g0_digits g0_value g0_size g0_here) s.heap.size = A at hD ⊢
  have hA : ∀ q : Nat, s.heap.size ≤ q → A q := fun q h => by rw [← hAe]; exact Or.inr h
  have hS : va_S A s.heap s.heap [] := va_S.rf
  have C0 : cxM p s m meth c _ wsX8_isOver RX8 cX8_isOver 1 (some .boolean) := ⟨hx, hb, hr, hml, hown, hts, hlocks⟩
  have hl := lv_entry ([.ref a0]) (n := 1) (Nat.le_of_ble_eq_true rfl)
  rw [lg_entry_eq]
  generalize (lg_sl ([.ref a0]) ++ List.replicate (1 - (lg_sl ([.ref a0])).length) Slot.unset).toArray = ls at hl ⊢
  have hl : lv_has ls 1 [(0, .ref a0)] := hl
  show W p l e rmX8_isOver s m _ below meth c _ _ _ _ _ _
  refine wq (fun Q hQ => ?_)
  refine lv_aload_n hx hb dX8_isOver_0 rfl (lv_at hl 0 rfl) ?_
  refine va_get (D := (dC, dI)) (ci := 8) (v := .int g0_here) (C := RX8) (T := TX8) (N := 6) hx hb hts inX8_isOver_X8 hown hK hP 0 rfl rfl 2 (by decide) (hts (.fieldLink RX8 19 "LeadPark$Tape" "here" "I") (List.mem_of_getElem? (i := 1) rfl)) (fun _ h9 => h9) rfl dX8_isOver_1 ?_
  refine lv_aload_n hx hb dX8_isOver_4 rfl (lv_at hl 0 rfl) ?_
  refine va_get (D := (dC, dI)) (ci := 8) (v := .int g0_size) (C := RX8) (T := TX8) (N := 6) hx hb hts inX8_isOver_X8 hown hK hP 0 rfl rfl 1 (by decide) (hts (.fieldLink RX8 15 "LeadPark$Tape" "size" "I") (List.mem_of_getElem? (i := 2) rfl)) (fun _ h9 => h9) rfl dX8_isOver_5 ?_
  refine lv_icmp_lt (tgt := 15) hx hb dX8_isOver_8 (by decide) (fun hc => ?_) (fun hc => ?_)
  · have hw := hw.1 hc
    refine lv_iconst (v := 0) hx hb dX8_isOver_15 (by decide) ?_
    rw [hQ]
    exact W.zret (v := 0) (ty := .boolean) hx hb hr rfl (fun t ht hW => ⟨⟨0, (), rfl, hw, by rw [ht]; exact hP, va_K.moved hW.alike hK, hD⟩, hS.F ht⟩) hS.2.2 dX8_isOver_16
  · have hw := hw.2 hc
    refine lv_iconst (v := 1) hx hb dX8_isOver_11 (by decide) ?_
    refine lv_goto (tgt := 16) hx hb dX8_isOver_12 (by decide) ?_
    rw [hQ]
    exact W.zret (v := 1) (ty := .boolean) hx hb hr rfl (fun t ht hW => ⟨⟨1, (), rfl, hw, by rw [ht]; exact hP, va_K.moved hW.alike hK, hD⟩, hS.F ht⟩) hS.2.2 dX8_isOver_16
/-! LeadPark$Tape.isNumber (I)Z -/
abbrev ceX8_isNumber (cyI cyB cyJ cyZ : ClassId) (a0 b0_bytes : Nat) (g0_size : Int32) (g0_here : Int32) (g0_behind : Int32) (g0_value : Int32) (g0_digits : Int32) : va_W := [(a0, .inr (8, [.ref b0_bytes, .int g0_size, .int g0_here, .int g0_behind, .int g0_digits, .int g0_value]))]

theorem inX8_isNumber_X8 : ∀ w ∈ wsX80, w ∈ wsX8_isNumber := fun _ h => List.mem_cons_of_mem _ (List.mem_append_right _ h)
abbrev rmX8_isNumber : Room := { frames := 0, cells := 0, slots := 0, locals := 0 }
set_option maxRecDepth 100000 in
set_option maxHeartbeats 4000000 in
theorem ctX8_isNumber (l : Launch) (dC : Nat → ClassId) (dI : Nat → Nat → Nat) (cyI cyB cyJ cyZ : ClassId) (sz : Nat) (a0 b0_bytes : Nat) (g0_size : Int32) (g0_here : Int32) (g0_behind : Int32) (g0_value : Int32) (g0_digits : Int32) (p0 : Int32) (post : Int32 → Unit → Prop) (hw : wpX8_isNumber post g0_digits p0) : Met l yX8_isNumber wsX8_isNumber rmX8_isNumber (va_Pc [.ref a0, .int p0] (wPre dC dI cyI cyB cyJ cyZ sz (ceX8_isNumber cyI cyB cyJ cyZ a0 b0_bytes g0_size g0_here g0_behind g0_value g0_digits))) (va_Qi post (fun u : Unit => wAt dC dI cyI cyB cyJ cyZ (va_A (ceX8_isNumber cyI cyB cyJ cyZ a0 b0_bytes g0_size g0_here g0_behind g0_value g0_digits) sz) (ceX8_isNumber cyI cyB cyJ cyZ a0 b0_bytes g0_size g0_here g0_behind g0_value g0_digits)) (va_A (ceX8_isNumber cyI cyB cyJ cyZ a0 b0_bytes g0_size g0_here g0_behind g0_value g0_digits) sz)) 0 0 (va_A (ceX8_isNumber cyI cyB cyJ cyZ a0 b0_bytes g0_size g0_here g0_behind g0_value g0_digits) sz) := by
  refine Met.ofW (cc := cX8_isNumber) (maxL := 2) (ret := (some .boolean)) (by decide) rfl ?_
  intro p e s m args below meth c s₁ B hml hv
  obtain ⟨rfl, hsz, hP, hK, hD0, hN⟩ := hv
  have hx := B.exec
  have hb := B.bytes
  have hr := B.returns
  have hts := atoms_spec (ws := wsX8_isNumber) B.pre
  have hown : s.vm.findClass RX8 = some m.cls := findClass_of_methodNamed B.named
  have hlocks := B.notSynchronized
  subst hsz
  have hD := hD0.self (sz := s.heap.size)
  generalize hAe : va_A (ceX8_isNumber cyI cyB cyJ cyZ a0 b0_bytes g0_size g0_here g0_behind g0_value g0_digits) s.heap.size = A at hD ⊢
  have hA : ∀ q : Nat, s.heap.size ≤ q → A q := fun q h => by rw [← hAe]; exact Or.inr h
  have hS : va_S A s.heap s.heap [] := va_S.rf
  have C0 : cxM p s m meth c _ wsX8_isNumber RX8 cX8_isNumber 2 (some .boolean) := ⟨hx, hb, hr, hml, hown, hts, hlocks⟩
  have hl := lv_entry ([.ref a0, .int p0]) (n := 2) (Nat.le_of_ble_eq_true rfl)
  rw [lg_entry_eq]
  generalize (lg_sl ([.ref a0, .int p0]) ++ List.replicate (2 - (lg_sl ([.ref a0, .int p0])).length) Slot.unset).toArray = ls at hl ⊢
  have hl : lv_has ls 2 [(0, .ref a0), (1, .int p0)] := hl
  show W p l e rmX8_isNumber s m _ below meth c _ _ _ _ _ _
  refine wq (fun Q hQ => ?_)
  refine lv_aload_n hx hb dX8_isNumber_0 rfl (lv_at hl 0 rfl) ?_
  refine va_get (D := (dC, dI)) (ci := 8) (v := .int g0_digits) (C := RX8) (T := TX8) (N := 6) hx hb hts inX8_isNumber_X8 hown hK hP 0 rfl rfl 4 (by decide) (hts (.fieldLink RX8 25 "LeadPark$Tape" "digits" "I") (List.mem_of_getElem? (i := 1) rfl)) (fun _ h9 => h9) rfl dX8_isNumber_1 ?_
  refine lv_iconst (v := 1) hx hb dX8_isNumber_4 (by decide) ?_
  refine lv_icmp_lt (tgt := 20) hx hb dX8_isNumber_5 (by decide) (fun hc => ?_) (fun hc => ?_)
  · have hw := hw.1 hc
    refine lv_iconst (v := 0) hx hb dX8_isNumber_20 (by decide) ?_
    rw [hQ]
    exact W.zret (v := 0) (ty := .boolean) hx hb hr rfl (fun t ht hW => ⟨⟨0, (), rfl, hw, by rw [ht]; exact hP, va_K.moved hW.alike hK, hD⟩, hS.F ht⟩) hS.2.2 dX8_isNumber_21
  · have hw := hw.2 hc
    refine lv_aload_n hx hb dX8_isNumber_8 rfl (lv_at hl 0 rfl) ?_
    refine va_get (D := (dC, dI)) (ci := 8) (v := .int g0_digits) (C := RX8) (T := TX8) (N := 6) hx hb hts inX8_isNumber_X8 hown hK hP 0 rfl rfl 4 (by decide) (hts (.fieldLink RX8 25 "LeadPark$Tape" "digits" "I") (List.mem_of_getElem? (i := 1) rfl)) (fun _ h9 => h9) rfl dX8_isNumber_9 ?_
    refine lv_iload_n hx hb dX8_isNumber_12 rfl (lv_at hl 1 rfl) ?_
    refine lv_icmp_gt (tgt := 20) hx hb dX8_isNumber_13 (by decide) (fun hc => ?_) (fun hc => ?_)
    · have hw := hw.1 hc
      refine lv_iconst (v := 0) hx hb dX8_isNumber_20 (by decide) ?_
      rw [hQ]
      exact W.zret (v := 0) (ty := .boolean) hx hb hr rfl (fun t ht hW => ⟨⟨0, (), rfl, hw, by rw [ht]; exact hP, va_K.moved hW.alike hK, hD⟩, hS.F ht⟩) hS.2.2 dX8_isNumber_21
    · have hw := hw.2 hc
      refine lv_iconst (v := 1) hx hb dX8_isNumber_16 (by decide) ?_
      refine lv_goto (tgt := 21) hx hb dX8_isNumber_17 (by decide) ?_
      rw [hQ]
      exact W.zret (v := 1) (ty := .boolean) hx hb hr rfl (fun t ht hW => ⟨⟨1, (), rfl, hw, by rw [ht]; exact hP, va_K.moved hW.alike hK, hD⟩, hS.F ht⟩) hS.2.2 dX8_isNumber_21
/-! LeadPark$Tape.isSign (C)Z -/
abbrev ceX8_isSign (cyI cyB cyJ cyZ : ClassId) (a0 a1 : Nat) (g0_behind : Int32) (g0_digits : Int32) (g0_value : Int32) (g0_size : Int32) (g0_here : Int32) (f1 : Nat → Int32) : va_W := [(a0, .inr (8, [.ref a1, .int g0_size, .int g0_here, .int g0_behind, .int g0_digits, .int g0_value])), (a1, .inl (cyB, 400, .inl f1))]

theorem inX8_isSign_X8 : ∀ w ∈ wsX80, w ∈ wsX8_isSign := fun _ h => List.mem_cons_of_mem _ (List.mem_append_right _ h)
abbrev rmX8_isSign : Room := { frames := 0, cells := 0, slots := 0, locals := 0 }
set_option maxRecDepth 100000 in
set_option maxHeartbeats 4000000 in
theorem ctX8_isSign (l : Launch) (dC : Nat → ClassId) (dI : Nat → Nat → Nat) (cyI cyB cyJ cyZ : ClassId) (sz : Nat) (a0 a1 : Nat) (g0_behind : Int32) (g0_digits : Int32) (g0_value : Int32) (g0_size : Int32) (g0_here : Int32) (f1 : Nat → Int32) (p0 : Int32) (post : Int32 → Unit → Prop) (hw : wpX8_isSign post g0_size g0_here f1 p0) : Met l yX8_isSign wsX8_isSign rmX8_isSign (va_Pc [.ref a0, .int p0] (wPre dC dI cyI cyB cyJ cyZ sz (ceX8_isSign cyI cyB cyJ cyZ a0 a1 g0_behind g0_digits g0_value g0_size g0_here f1))) (va_Qi post (fun u : Unit => wAt dC dI cyI cyB cyJ cyZ (va_A (ceX8_isSign cyI cyB cyJ cyZ a0 a1 g0_behind g0_digits g0_value g0_size g0_here f1) sz) (ceX8_isSign cyI cyB cyJ cyZ a0 a1 g0_behind g0_digits g0_value g0_size g0_here f1)) (va_A (ceX8_isSign cyI cyB cyJ cyZ a0 a1 g0_behind g0_digits g0_value g0_size g0_here f1) sz)) 0 0 (va_A (ceX8_isSign cyI cyB cyJ cyZ a0 a1 g0_behind g0_digits g0_value g0_size g0_here f1) sz) := by
  refine Met.ofW (cc := cX8_isSign) (maxL := 2) (ret := (some .boolean)) (by decide) rfl ?_
  intro p e s m args below meth c s₁ B hml hv
  obtain ⟨rfl, hsz, hP, hK, hD0, hN⟩ := hv
  have hx := B.exec
  have hb := B.bytes
  have hr := B.returns
  have hts := atoms_spec (ws := wsX8_isSign) B.pre
  have hown : s.vm.findClass RX8 = some m.cls := findClass_of_methodNamed B.named
  have hlocks := B.notSynchronized
  subst hsz
  have hD := hD0.self (sz := s.heap.size)
  generalize hAe : va_A (ceX8_isSign cyI cyB cyJ cyZ a0 a1 g0_behind g0_digits g0_value g0_size g0_here f1) s.heap.size = A at hD ⊢
  have hA : ∀ q : Nat, s.heap.size ≤ q → A q := fun q h => by rw [← hAe]; exact Or.inr h
  have hS : va_S A s.heap s.heap [] := va_S.rf
  have C0 : cxM p s m meth c _ wsX8_isSign RX8 cX8_isSign 2 (some .boolean) := ⟨hx, hb, hr, hml, hown, hts, hlocks⟩
  have hl := lv_entry ([.ref a0, .int p0]) (n := 2) (Nat.le_of_ble_eq_true rfl)
  rw [lg_entry_eq]
  generalize (lg_sl ([.ref a0, .int p0]) ++ List.replicate (2 - (lg_sl ([.ref a0, .int p0])).length) Slot.unset).toArray = ls at hl ⊢
  have hl : lv_has ls 2 [(0, .ref a0), (1, .int p0)] := hl
  show W p l e rmX8_isSign s m _ below meth c _ _ _ _ _ _
  refine wq (fun Q hQ => ?_)
  refine lv_aload_n hx hb dX8_isSign_0 rfl (lv_at hl 0 rfl) ?_
  refine va_get (D := (dC, dI)) (ci := 8) (v := .int g0_here) (C := RX8) (T := TX8) (N := 6) hx hb hts inX8_isSign_X8 hown hK hP 0 rfl rfl 2 (by decide) (hts (.fieldLink RX8 19 "LeadPark$Tape" "here" "I") (List.mem_of_getElem? (i := 1) rfl)) (fun _ h9 => h9) rfl dX8_isSign_1 ?_
  refine lv_aload_n hx hb dX8_isSign_4 rfl (lv_at hl 0 rfl) ?_
  refine va_get (D := (dC, dI)) (ci := 8) (v := .int g0_size) (C := RX8) (T := TX8) (N := 6) hx hb hts inX8_isSign_X8 hown hK hP 0 rfl rfl 1 (by decide) (hts (.fieldLink RX8 15 "LeadPark$Tape" "size" "I") (List.mem_of_getElem? (i := 2) rfl)) (fun _ h9 => h9) rfl dX8_isSign_5 ?_
  refine lv_icmp_ge (tgt := 28) hx hb dX8_isSign_8 (by decide) (fun hc => ?_) (fun hc => ?_)
  · have hw := hw.1 hc
    refine lv_iconst (v := 0) hx hb dX8_isSign_28 (by decide) ?_
    rw [hQ]
    exact W.zret (v := 0) (ty := .boolean) hx hb hr rfl (fun t ht hW => ⟨⟨0, (), rfl, hw, by rw [ht]; exact hP, va_K.moved hW.alike hK, hD⟩, hS.F ht⟩) hS.2.2 dX8_isSign_29
  · have hw := hw.2 hc
    refine lv_aload_n hx hb dX8_isSign_11 rfl (lv_at hl 0 rfl) ?_
    refine va_get (D := (dC, dI)) (ci := 8) (v := .ref a1) (C := RX8) (T := TX8) (N := 6) hx hb hts inX8_isSign_X8 hown hK hP 0 rfl rfl 0 (by decide) (hts (.fieldLink RX8 9 "LeadPark$Tape" "bytes" "[B") (List.mem_of_getElem? (i := 3) rfl)) (fun _ h9 => h9) rfl dX8_isSign_12 ?_
    refine lv_aload_n hx hb dX8_isSign_15 rfl (lv_at hl 0 rfl) ?_
    refine va_get (D := (dC, dI)) (ci := 8) (v := .int g0_here) (C := RX8) (T := TX8) (N := 6) hx hb hts inX8_isSign_X8 hown hK hP 0 rfl rfl 2 (by decide) (hts (.fieldLink RX8 19 "LeadPark$Tape" "here" "I") (List.mem_of_getElem? (i := 1) rfl)) (fun _ h9 => h9) rfl dX8_isSign_16 ?_
    obtain ⟨hi, hw⟩ := hw
    refine va_bald hx hb hK hP 1 1 rfl rfl hi dX8_isSign_19 ?_
    refine lv_iload_n hx hb dX8_isSign_20 rfl (lv_at hl 1 rfl) ?_
    refine lv_icmp_ne (tgt := 28) hx hb dX8_isSign_21 (by decide) (fun hc => ?_) (fun hc => ?_)
    · have hw := hw.1 hc
      refine lv_iconst (v := 0) hx hb dX8_isSign_28 (by decide) ?_
      rw [hQ]
      exact W.zret (v := 0) (ty := .boolean) hx hb hr rfl (fun t ht hW => ⟨⟨0, (), rfl, hw, by rw [ht]; exact hP, va_K.moved hW.alike hK, hD⟩, hS.F ht⟩) hS.2.2 dX8_isSign_29
    · have hw := hw.2 hc
      refine lv_iconst (v := 1) hx hb dX8_isSign_24 (by decide) ?_
      refine lv_goto (tgt := 29) hx hb dX8_isSign_25 (by decide) ?_
      rw [hQ]
      exact W.zret (v := 1) (ty := .boolean) hx hb hr rfl (fun t ht hW => ⟨⟨1, (), rfl, hw, by rw [ht]; exact hP, va_K.moved hW.alike hK, hD⟩, hS.F ht⟩) hS.2.2 dX8_isSign_29
/-! LeadPark$Tape.isWord (Ljava/lang/String;)Z -/
abbrev ceX8_isWord (cyI cyB cyJ cyZ : ClassId) (a0 a1 : Nat) (g0_size : Int32) (g0_digits : Int32) (g0_value : Int32) (g0_here : Int32) (g0_behind : Int32) (f1 : Nat → Int32) : va_W := [(a0, .inr (8, [.ref a1, .int g0_size, .int g0_here, .int g0_behind, .int g0_digits, .int g0_value])), (a1, .inl (cyB, 400, .inl f1))]

theorem inX8_isWord_X8 : ∀ w ∈ wsX80, w ∈ wsX8_isWord := fun _ h => List.mem_cons_of_mem _ (List.mem_append_right _ h)
abbrev rmX8_isWord : Room := { frames := 4, cells := 0, slots := 0, locals := 85 }
set_option maxRecDepth 100000 in
set_option maxHeartbeats 4000000 in
theorem bX8_isWord_20 {p : Program} {l : Launch} {e : Env} {s : State} {m : MethodId} {args : Array Value} {below : List Frame} {meth : Method} {c : Code} {dC : Nat → ClassId} {dI : Nat → Nat → Nat} {cyI cyB cyJ cyZ : ClassId} {A : Nat → Prop} {a0 a1 : Nat} {g0_size : Int32} {g0_digits : Int32} {g0_value : Int32} {t_p0 : List Int32} {a_p0 : Nat} (C0 : cxM p s m meth c args wsX8_isWord RX8 cX8_isWord 3 (some .boolean)) (hK : va_K (dC, dI) vwCl (tyA cyI cyB cyJ cyZ) s) (hN : nwA s) (hA : ∀ q : Nat, s.heap.size ≤ q → A q) (hXs : (txS t_p0 a_p0) A s s.heap) {post : Int32 → Unit → Prop} {g0_here : Int32} {g0_behind : Int32} {f1 : Nat → Int32} {Q : State → Prop} (hQ : Q = MQ below (va_Qi post (fun u : Unit => wAt dC dI cyI cyB cyJ cyZ A (ceX8_isWord cyI cyB cyJ cyZ a0 a1 g0_size g0_digits g0_value g0_here g0_behind f1)) A) args s 0 0 A) : ∀ (n : Nat) (x2 : Int32), wpX8_isWord_20 t_p0 post g0_here g0_behind f1 n x2 → AtW p l e rmX8_isWord s m args below meth c dC dI A Q 3 0 0 (ceX8_isWord cyI cyB cyJ cyZ a0 a1 g0_size g0_digits g0_value g0_here g0_behind f1) [(0, .ref a0), (1, .ref a_p0), (2, .int x2)] 20 [] := by
  intro n
  induction n with
  | zero => intro x2 hw; exact False.elim hw
  | succ n ih =>
    intro x2 hw H locs hP hD hS ls hl
    have C1 := C0
    obtain ⟨hx, hb, hr, hml, hown, hts, hlocks⟩ := C1
    refine lv_iload_n hx hb dX8_isWord_20 rfl (lv_at hl 2 rfl) ?_
    refine lv_aload_n hx hb dX8_isWord_21 rfl (lv_at hl 1 rfl) ?_
    have hPc := hP.sub (ws' := []) [] rfl
    have hDc := hD.sub (ws' := []) [] (by decide) rfl
    have hFc := va_free (wc := []) hD hS hA [] rfl
    refine va_calli (va_runV (As := []) (rest := [.int x2]) ⟨hx, hb, hml, hown, hts⟩ (ctJ0_length_8abf5 l dC dI cyI cyB cyJ cyZ _ t_p0 a_p0 (fun r _ => r = nI t_p0.length) rfl) (cwV 0 hts gX8_isWord_J0_length_8abf5 rfl rfl rfl (by decide +kernel) ⟨Nat.le_of_ble_eq_true rfl, Nat.le_of_ble_eq_true rfl⟩) ⟨wPreX_blind (xOk_txS t_p0 a_p0), (by obtain ⟨v0, hO, -⟩ := hXs.2; obtain ⟨cell, c1, c2, c3, c4⟩ := hO; exact ⟨cell, by rw [hS.2.1 _ (Array.getElem?_eq_some_iff.mp c1).1 c4]; exact c1, c2, c3⟩), fun U hU hW => wPreX_of (xOk_txS t_p0 a_p0) hPc hK hDc hN hXs hS hFc hU hW⟩ rfl rfl hl.1 rfl (lv_room (Nat.le_of_ble_eq_true rfl)) dX8_isWord_22 ⟨(Nat.zero_le _), (Nat.zero_le _)⟩) hS (fun q _ h => hFc q h) hFc (fun r1 u t H1 locs ht hvm hr9 hB hz1 hk1 hS => ?_)
    obtain ⟨hP1, hK1, hD1⟩ := hB
    rw [ht] at hP1
    obtain ⟨hP, hD⟩ := va_join (wr := (ceX8_isWord cyI cyB cyJ cyZ a0 a1 g0_size g0_digits g0_value g0_here g0_behind f1)) (w1 := []) hP hD [] [0, 1] rfl rfl (by decide) (by decide) hk1 hFc hP1 hD1
    have hP := hP.sub (ws' := (ceX8_isWord cyI cyB cyJ cyZ a0 a1 g0_size g0_digits g0_value g0_here g0_behind f1)) [0, 1] rfl
    have hD := hD.sub (ws' := (ceX8_isWord cyI cyB cyJ cyZ a0 a1 g0_size g0_digits g0_value g0_here g0_behind f1)) [0, 1] (by decide) rfl
    generalize H1 = H at hP hS ⊢
    subst hr9
    refine lv_icmp_ge (tgt := 55) hx hb dX8_isWord_25 (by decide) (fun hc => ?_) (fun hc => ?_)
    · have hw := hw.1 hc
      refine lv_iconst (v := 1) hx hb dX8_isWord_55 (by decide) ?_
      rw [hQ]
      exact W.zret (v := 1) (ty := .boolean) hx hb hr rfl (fun t ht hW => ⟨⟨1, (), rfl, hw, by rw [ht]; exact hP, va_K.moved hW.alike hK, hD⟩, hS.F ht⟩) hS.2.2 dX8_isWord_56
    · have hw := hw.2 hc
      refine lv_aload_n hx hb dX8_isWord_28 rfl (lv_at hl 0 rfl) ?_
      refine va_get (D := (dC, dI)) (ci := 8) (v := .ref a1) (C := RX8) (T := TX8) (N := 6) hx hb hts inX8_isWord_X8 hown hK hP 0 rfl rfl 0 (by decide) (hts (.fieldLink RX8 9 "LeadPark$Tape" "bytes" "[B") (List.mem_of_getElem? (i := 3) rfl)) (fun _ h9 => h9) rfl dX8_isWord_29 ?_
      refine lv_aload_n hx hb dX8_isWord_32 rfl (lv_at hl 0 rfl) ?_
      refine va_get (D := (dC, dI)) (ci := 8) (v := .int g0_here) (C := RX8) (T := TX8) (N := 6) hx hb hts inX8_isWord_X8 hown hK hP 0 rfl rfl 2 (by decide) (hts (.fieldLink RX8 19 "LeadPark$Tape" "here" "I") (List.mem_of_getElem? (i := 2) rfl)) (fun _ h9 => h9) rfl dX8_isWord_33 ?_
      refine lv_iload_n hx hb dX8_isWord_36 rfl (lv_at hl 2 rfl) ?_
      refine lv_iadd hx hb dX8_isWord_37 ?_
      obtain ⟨hi, hw⟩ := hw
      refine va_bald hx hb hK hP 1 1 rfl rfl hi dX8_isWord_38 ?_
      refine lv_aload_n hx hb dX8_isWord_39 rfl (lv_at hl 1 rfl) ?_
      refine lv_iload_n hx hb dX8_isWord_40 rfl (lv_at hl 2 rfl) ?_
      obtain ⟨hb31, hi, hw⟩ := hw
      have hPc := hP.sub (ws' := []) [] rfl
      have hDc := hD.sub (ws' := []) [] (by decide) rfl
      have hFc := va_free (wc := []) hD hS hA [] rfl
      refine va_calli (va_runV (As := [.int x2]) (rest := [.int (f1 (g0_here + x2).toNatClampNeg)]) ⟨hx, hb, hml, hown, hts⟩ (ctJ0_charAt_5068e l dC dI cyI cyB cyJ cyZ _ t_p0 a_p0 x2 hb31 hi (fun r _ => r = txC (t_p0.getD x2.toNatClampNeg 0)) rfl) (cwV 1 hts gX8_isWord_J0_charAt_5068e rfl rfl rfl (by decide +kernel) ⟨Nat.le_of_ble_eq_true rfl, Nat.le_of_ble_eq_true rfl⟩) ⟨wPreX_blind (xOk_txS t_p0 a_p0), (by obtain ⟨v0, hO, -⟩ := hXs.2; obtain ⟨cell, c1, c2, c3, c4⟩ := hO; exact ⟨cell, by rw [hS.2.1 _ (Array.getElem?_eq_some_iff.mp c1).1 c4]; exact c1, c2, c3⟩), fun U hU hW => wPreX_of (xOk_txS t_p0 a_p0) hPc hK hDc hN hXs hS hFc hU hW⟩ rfl rfl hl.1 rfl (lv_room (Nat.le_of_ble_eq_true rfl)) dX8_isWord_41 ⟨(Nat.zero_le _), (Nat.zero_le _)⟩) hS (fun q _ h => hFc q h) hFc (fun r2 u t H1 locs ht hvm hr9 hB hz1 hk1 hS => ?_)
      obtain ⟨hP1, hK1, hD1⟩ := hB
      rw [ht] at hP1
      obtain ⟨hP, hD⟩ := va_join (wr := (ceX8_isWord cyI cyB cyJ cyZ a0 a1 g0_size g0_digits g0_value g0_here g0_behind f1)) (w1 := []) hP hD [] [0, 1] rfl rfl (by decide) (by decide) hk1 hFc hP1 hD1
      have hP := hP.sub (ws' := (ceX8_isWord cyI cyB cyJ cyZ a0 a1 g0_size g0_digits g0_value g0_here g0_behind f1)) [0, 1] rfl
      have hD := hD.sub (ws' := (ceX8_isWord cyI cyB cyJ cyZ a0 a1 g0_size g0_digits g0_value g0_here g0_behind f1)) [0, 1] (by decide) rfl
      generalize H1 = H at hP hS ⊢
      subst hr9
      refine lv_icmp_eq (tgt := 49) hx hb dX8_isWord_44 (by decide) (fun hc => ?_) (fun hc => ?_)
      · have hw := hw.1 hc
        obtain ⟨v3, ev3⟩ : ∃ y : Int32, y = x2 + 1 := ⟨_, rfl⟩
        have hw := hw v3 ev3
        refine lv_iinc (v := v3) (lv' := [(2, .int v3), (0, .ref a0), (1, .ref a_p0)]) hx hb dX8_isWord_49 hl (k := 2) rfl (by rw [ev3]; rfl) (by decide) rfl (fun ls hl => ?_)
        refine lv_goto (tgt := 20) hx hb dX8_isWord_52 (by decide) ?_
        exact ih v3 hw H locs hP hD hS ls (lv_sub hl [1, 2, 0] rfl)
      · have hw := hw.2 hc
        refine lv_iconst (v := 0) hx hb dX8_isWord_47 (by decide) ?_
        rw [hQ]
        exact W.zret (v := 0) (ty := .boolean) hx hb hr rfl (fun t ht hW => ⟨⟨0, (), rfl, hw, by rw [ht]; exact hP, va_K.moved hW.alike hK, hD⟩, hS.F ht⟩) hS.2.2 dX8_isWord_48
set_option maxRecDepth 100000 in
set_option maxHeartbeats 4000000 in
theorem ctX8_isWord (l : Launch) (dC : Nat → ClassId) (dI : Nat → Nat → Nat) (cyI cyB cyJ cyZ : ClassId) (sz : Nat) (a0 a1 : Nat) (g0_size : Int32) (g0_digits : Int32) (g0_value : Int32) (g0_here : Int32) (g0_behind : Int32) (f1 : Nat → Int32) (post : Int32 → Unit → Prop) (t_p0 : List Int32) (a_p0 : Nat) (hw : wpX8_isWord t_p0 post g0_here g0_behind f1 ) : Met l yX8_isWord wsX8_isWord rmX8_isWord (va_Pc [.ref a0, .ref a_p0] (wPreX dC dI cyI cyB cyJ cyZ sz (ceX8_isWord cyI cyB cyJ cyZ a0 a1 g0_size g0_digits g0_value g0_here g0_behind f1) (txS t_p0 a_p0))) (va_Qi post (fun u : Unit => wAt dC dI cyI cyB cyJ cyZ (va_A (ceX8_isWord cyI cyB cyJ cyZ a0 a1 g0_size g0_digits g0_value g0_here g0_behind f1) sz) (ceX8_isWord cyI cyB cyJ cyZ a0 a1 g0_size g0_digits g0_value g0_here g0_behind f1)) (va_A (ceX8_isWord cyI cyB cyJ cyZ a0 a1 g0_size g0_digits g0_value g0_here g0_behind f1) sz)) 0 0 (va_A (ceX8_isWord cyI cyB cyJ cyZ a0 a1 g0_size g0_digits g0_value g0_here g0_behind f1) sz) := by
  refine Met.ofW (cc := cX8_isWord) (maxL := 3) (ret := (some .boolean)) (by decide) rfl ?_
  intro p e s m args below meth c s₁ B hml hv
  obtain ⟨rfl, ⟨hsz, hP, hK, hD0, hN⟩, hXs⟩ := hv
  have hx := B.exec
  have hb := B.bytes
  have hr := B.returns
  have hts := atoms_spec (ws := wsX8_isWord) B.pre
  have hown : s.vm.findClass RX8 = some m.cls := findClass_of_methodNamed B.named
  have hlocks := B.notSynchronized
  subst hsz
  have hD := hD0.self (sz := s.heap.size)
  generalize hAe : va_A (ceX8_isWord cyI cyB cyJ cyZ a0 a1 g0_size g0_digits g0_value g0_here g0_behind f1) s.heap.size = A at hD hXs ⊢
  have hA : ∀ q : Nat, s.heap.size ≤ q → A q := fun q h => by rw [← hAe]; exact Or.inr h
  have hS : va_S A s.heap s.heap [] := va_S.rf
  have C0 : cxM p s m meth c _ wsX8_isWord RX8 cX8_isWord 3 (some .boolean) := ⟨hx, hb, hr, hml, hown, hts, hlocks⟩
  have hl := lv_entry ([.ref a0, .ref a_p0]) (n := 3) (Nat.le_of_ble_eq_true rfl)
  rw [lg_entry_eq]
  generalize (lg_sl ([.ref a0, .ref a_p0]) ++ List.replicate (3 - (lg_sl ([.ref a0, .ref a_p0])).length) Slot.unset).toArray = ls at hl ⊢
  have hl : lv_has ls 3 [(0, .ref a0), (1, .ref a_p0)] := hl
  show W p l e rmX8_isWord s m _ below meth c _ _ _ _ _ _
  refine wq (fun Q hQ => ?_)
  refine lv_aload_n hx hb dX8_isWord_0 rfl (lv_at hl 0 rfl) ?_
  refine va_get (D := (dC, dI)) (ci := 8) (v := .int g0_behind) (C := RX8) (T := TX8) (N := 6) hx hb hts inX8_isWord_X8 hown hK hP 0 rfl rfl 3 (by decide) (hts (.fieldLink RX8 22 "LeadPark$Tape" "behind" "I") (List.mem_of_getElem? (i := 1) rfl)) (fun _ h9 => h9) rfl dX8_isWord_1 ?_
  refine lv_aload_n hx hb dX8_isWord_4 rfl (lv_at hl 0 rfl) ?_
  refine va_get (D := (dC, dI)) (ci := 8) (v := .int g0_here) (C := RX8) (T := TX8) (N := 6) hx hb hts inX8_isWord_X8 hown hK hP 0 rfl rfl 2 (by decide) (hts (.fieldLink RX8 19 "LeadPark$Tape" "here" "I") (List.mem_of_getElem? (i := 2) rfl)) (fun _ h9 => h9) rfl dX8_isWord_5 ?_
  refine lv_isub hx hb dX8_isWord_8 ?_
  refine lv_aload_n hx hb dX8_isWord_9 rfl (lv_at hl 1 rfl) ?_
  have hPc := hP.sub (ws' := []) [] rfl
  have hDc := hD.sub (ws' := []) [] (by decide) rfl
  have hFc := va_free (wc := []) hD hS hA [] rfl
  refine va_calli (va_runV (As := []) (rest := [.int (g0_behind - g0_here)]) ⟨hx, hb, hml, hown, hts⟩ (ctJ0_length_8abf5 l dC dI cyI cyB cyJ cyZ _ t_p0 a_p0 (fun r _ => r = nI t_p0.length) rfl) (cwV 0 hts gX8_isWord_J0_length_8abf5 rfl rfl rfl (by decide +kernel) ⟨Nat.le_of_ble_eq_true rfl, Nat.le_of_ble_eq_true rfl⟩) ⟨wPreX_blind (xOk_txS t_p0 a_p0), (by obtain ⟨v0, hO, -⟩ := hXs.2; obtain ⟨cell, c1, c2, c3, c4⟩ := hO; exact ⟨cell, by rw [hS.2.1 _ (Array.getElem?_eq_some_iff.mp c1).1 c4]; exact c1, c2, c3⟩), fun U hU hW => wPreX_of (xOk_txS t_p0 a_p0) hPc hK hDc hN hXs hS hFc hU hW⟩ rfl rfl hl.1 rfl (lv_room (Nat.le_of_ble_eq_true rfl)) dX8_isWord_10 ⟨(Nat.zero_le _), (Nat.zero_le _)⟩) hS (fun q _ h => hFc q h) hFc (fun r1 u t H1 locs ht hvm hr9 hB hz1 hk1 hS => ?_)
  obtain ⟨hP1, hK1, hD1⟩ := hB
  rw [ht] at hP1
  obtain ⟨hP, hD⟩ := va_join (wr := (ceX8_isWord cyI cyB cyJ cyZ a0 a1 g0_size g0_digits g0_value g0_here g0_behind f1)) (w1 := []) hP hD [] [0, 1] rfl rfl (by decide) (by decide) hk1 hFc hP1 hD1
  have hP := hP.sub (ws' := (ceX8_isWord cyI cyB cyJ cyZ a0 a1 g0_size g0_digits g0_value g0_here g0_behind f1)) [0, 1] rfl
  have hD := hD.sub (ws' := (ceX8_isWord cyI cyB cyJ cyZ a0 a1 g0_size g0_digits g0_value g0_here g0_behind f1)) [0, 1] (by decide) rfl
  generalize H1 = H at hP hS ⊢
  subst hr9
  refine lv_icmp_eq (tgt := 18) hx hb dX8_isWord_13 (by decide) (fun hc => ?_) (fun hc => ?_)
  · have hw := hw.1 hc
    refine lv_iconst (v := 0) hx hb dX8_isWord_18 (by decide) ?_
    refine lv_istore_n (lv' := [(2, .int 0), (0, .ref a0), (1, .ref a_p0)]) hx hb dX8_isWord_19 rfl hl (by decide) rfl (fun ls hl => ?_)
    obtain ⟨nn, hw⟩ := hw
    exact bX8_isWord_20 C0 hK hN hA hXs hQ nn 0 hw _ _ hP hD hS ls (lv_sub hl [1, 2, 0] rfl)
  · have hw := hw.2 hc
    refine lv_iconst (v := 0) hx hb dX8_isWord_16 (by decide) ?_
    rw [hQ]
    exact W.zret (v := 0) (ty := .boolean) hx hb hr rfl (fun t ht hW => ⟨⟨0, (), rfl, hw, by rw [ht]; exact hP, va_K.moved hW.alike hK, hD⟩, hS.F ht⟩) hS.2.2 dX8_isWord_17
