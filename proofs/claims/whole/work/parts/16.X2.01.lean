/-! LeadPark$Law.give (I)V -/
abbrev ceX2_give (cyI cyB cyJ cyZ : ClassId) (a0 a1 b0_seen : Nat) (g0_lines : Int32) (g0_size : Int32) (f1 : Nat → Int32) : va_W := [(a0, .inr (2, [.ref a1, .ref b0_seen, .int g0_size, .int g0_lines])), (a1, .inl (cyI, 400, .inl f1))]

theorem inX2_give_X2 : ∀ w ∈ wsX20, w ∈ wsX2_give := fun _ h => List.mem_cons_of_mem _ (List.mem_append_right _ h)
abbrev rmX2_give : Room := { frames := 0, cells := 0, slots := 0, locals := 0 }
set_option maxRecDepth 100000 in
set_option maxHeartbeats 4000000 in
theorem ctX2_give (l : Launch) (dC : Nat → ClassId) (dI : Nat → Nat → Nat) (cyI cyB cyJ cyZ : ClassId) (sz : Nat) (a0 a1 b0_seen : Nat) (g0_lines : Int32) (g0_size : Int32) (f1 : Nat → Int32) (p0 : Int32) (post : (Int32 × (Nat → Int32)) → Prop) (hw : wpX2_give post g0_size f1 p0) : Met l yX2_give wsX2_give rmX2_give (va_Pc [.ref a0, .int p0] (wPre dC dI cyI cyB cyJ cyZ sz (ceX2_give cyI cyB cyJ cyZ a0 a1 b0_seen g0_lines g0_size f1))) (va_Qv post (fun u : Int32 × (Nat → Int32) => wAt dC dI cyI cyB cyJ cyZ (va_A (ceX2_give cyI cyB cyJ cyZ a0 a1 b0_seen g0_lines g0_size f1) sz) (ceX2_give cyI cyB cyJ cyZ a0 a1 b0_seen g0_lines u.1 u.2)) (va_A (ceX2_give cyI cyB cyJ cyZ a0 a1 b0_seen g0_lines g0_size f1) sz)) 0 0 (va_A (ceX2_give cyI cyB cyJ cyZ a0 a1 b0_seen g0_lines g0_size f1) sz) := by
  refine Met.ofW (cc := cX2_give) (maxL := 2) (ret := none) (by decide) rfl ?_
  intro p e s m args below meth c s₁ B hml hv
  obtain ⟨rfl, hsz, hP, hK, hD0, hN⟩ := hv
  have hx := B.exec
  have hb := B.bytes
  have hr := B.returns
  have hts := atoms_spec (ws := wsX2_give) B.pre
  have hown : s.vm.findClass RX2 = some m.cls := findClass_of_methodNamed B.named
  have hlocks := B.notSynchronized
  subst hsz
  have hD := hD0.self (sz := s.heap.size)
  generalize hAe : va_A (ceX2_give cyI cyB cyJ cyZ a0 a1 b0_seen g0_lines g0_size f1) s.heap.size = A at hD ⊢
  have hA : ∀ q : Nat, s.heap.size ≤ q → A q := fun q h => by rw [← hAe]; exact Or.inr h
  have hS : va_S A s.heap s.heap [] := va_S.rf
  have C0 : cxM p s m meth c _ wsX2_give RX2 cX2_give 2 none := ⟨hx, hb, hr, hml, hown, hts, hlocks⟩
  have hl := lv_entry ([.ref a0, .int p0]) (n := 2) (Nat.le_of_ble_eq_true rfl)
  rw [lg_entry_eq]
  generalize (lg_sl ([.ref a0, .int p0]) ++ List.replicate (2 - (lg_sl ([.ref a0, .int p0])).length) Slot.unset).toArray = ls at hl ⊢
  have hl : lv_has ls 2 [(0, .ref a0), (1, .int p0)] := hl
  show W p l e rmX2_give s m _ below meth c _ _ _ _ _ _
  refine wq (fun Q hQ => ?_)
  refine lv_aload_n hx hb dX2_give_0 rfl (lv_at hl 0 rfl) ?_
  refine va_get (D := (dC, dI)) (ci := 2) (v := .int g0_size) (C := RX2) (T := TX2) (N := 4) hx hb hts inX2_give_X2 hown hK hP 0 rfl rfl 2 (by decide) (hts (.fieldLink RX2 18 "LeadPark$Law" "size" "I") (List.mem_of_getElem? (i := 1) rfl)) (fun _ h9 => h9) rfl dX2_give_1 ?_
  refine lv_sipush (v := 400) hx hb dX2_give_4 (by decide) ?_
  refine lv_icmp_ge (tgt := 30) hx hb dX2_give_7 (by decide) (fun hc => ?_) (fun hc => ?_)
  · have hw := hw.1 hc
    rw [hQ]
    exact W.vret hx hb hr (fun t ht hW => ⟨⟨(g0_size, f1), rfl, hw, by rw [ht]; exact hP, va_K.moved hW.alike hK, hD⟩, hS.F ht⟩) hS.2.2 dX2_give_30
  · have hw := hw.2 hc
    refine lv_aload_n hx hb dX2_give_10 rfl (lv_at hl 0 rfl) ?_
    refine va_get (D := (dC, dI)) (ci := 2) (v := .ref a1) (C := RX2) (T := TX2) (N := 4) hx hb hts inX2_give_X2 hown hK hP 0 rfl rfl 0 (by decide) (hts (.fieldLink RX2 11 "LeadPark$Law" "orders" "[I") (List.mem_of_getElem? (i := 2) rfl)) (fun _ h9 => h9) rfl dX2_give_11 ?_
    refine lv_aload_n hx hb dX2_give_14 rfl (lv_at hl 0 rfl) ?_
    refine va_get (D := (dC, dI)) (ci := 2) (v := .int g0_size) (C := RX2) (T := TX2) (N := 4) hx hb hts inX2_give_X2 hown hK hP 0 rfl rfl 2 (by decide) (hts (.fieldLink RX2 18 "LeadPark$Law" "size" "I") (List.mem_of_getElem? (i := 1) rfl)) (fun _ h9 => h9) rfl dX2_give_15 ?_
    refine lv_iload_n hx hb dX2_give_18 rfl (lv_at hl 1 rfl) ?_
    obtain ⟨hi, hw⟩ := hw
    refine va_iast hx hb hK hP hD hS 1 0 rfl rfl hi dX2_give_19 (fun H locs hP hD hS => ?_)
    have hP : va_P (dC, dI) vwCl (ceX2_give cyI cyB cyJ cyZ a0 a1 b0_seen g0_lines g0_size (upd f1 g0_size.toNatClampNeg p0)) H := hP
    have hD : va_D A (ceX2_give cyI cyB cyJ cyZ a0 a1 b0_seen g0_lines g0_size (upd f1 g0_size.toNatClampNeg p0)) := hD
    refine lv_aload_n hx hb dX2_give_20 rfl (lv_at hl 0 rfl) ?_
    refine lv_dup hx hb dX2_give_21 rfl ?_
    refine va_get (D := (dC, dI)) (ci := 2) (v := .int g0_size) (C := RX2) (T := TX2) (N := 4) hx hb hts inX2_give_X2 hown hK hP 0 rfl rfl 2 (by decide) (hts (.fieldLink RX2 18 "LeadPark$Law" "size" "I") (List.mem_of_getElem? (i := 1) rfl)) (fun _ h9 => h9) rfl dX2_give_22 ?_
    refine lv_iconst (v := 1) hx hb dX2_give_25 (by decide) ?_
    refine lv_iadd hx hb dX2_give_26 ?_
    refine lv_topi (fun v1 ev1 => ?_)
    have hw := hw v1 ev1
    refine va_put (D := (dC, dI)) (ci := 2) (v := .int v1) (ty := .int) (C := RX2) (T := TX2) (N := 4) hx hb hts inX2_give_X2 tyX2 tyX2_ok nmX2 hown hK hP hD hS 0 rfl rfl 2 (by decide) (hts (.fieldLink RX2 18 "LeadPark$Law" "size" "I") (List.mem_of_getElem? (i := 1) rfl)) (fun _ h9 => h9) rfl (by decide +kernel) rfl rfl (Nat.le_of_ble_eq_true rfl) dX2_give_27 (fun H locs hP hD hS => ?_)
    have hP : va_P (dC, dI) vwCl (ceX2_give cyI cyB cyJ cyZ a0 a1 b0_seen g0_lines v1 (upd f1 g0_size.toNatClampNeg p0)) H := hP
    have hD : va_D A (ceX2_give cyI cyB cyJ cyZ a0 a1 b0_seen g0_lines v1 (upd f1 g0_size.toNatClampNeg p0)) := hD
    rw [hQ]
    exact W.vret hx hb hr (fun t ht hW => ⟨⟨(v1, (upd f1 g0_size.toNatClampNeg p0)), rfl, hw, by rw [ht]; exact hP, va_K.moved hW.alike hK, hD⟩, hS.F ht⟩) hS.2.2 dX2_give_30
/-! LeadPark$Law.partByWord (LLeadPark$Tape;)I -/
abbrev ceX2_partByWord (cyI cyB cyJ cyZ : ClassId) (a0 a1 : Nat) (g0_size : Int32) (g0_digits : Int32) (g0_value : Int32) (g0_here : Int32) (g0_behind : Int32) (f1 : Nat → Int32) : va_W := [(a0, .inr (8, [.ref a1, .int g0_size, .int g0_here, .int g0_behind, .int g0_digits, .int g0_value])), (a1, .inl (cyB, 400, .inl f1))]

abbrev rmX2_partByWord : Room := { frames := 5, cells := 0, slots := 0, locals := 107 }
set_option maxRecDepth 100000 in
set_option maxHeartbeats 4000000 in
theorem ctX2_partByWord (l : Launch) (dC : Nat → ClassId) (dI : Nat → Nat → Nat) (cyI cyB cyJ cyZ : ClassId) (sz : Nat) (a0 a1 : Nat) (g0_size : Int32) (g0_digits : Int32) (g0_value : Int32) (g0_here : Int32) (g0_behind : Int32) (f1 : Nat → Int32) (post : Int32 → Unit → Prop) (adS : Nat → Nat) (hw : wpX2_partByWord post g0_here g0_behind f1 ) : Met l yX2_partByWord wsX2_partByWord rmX2_partByWord (va_Pc [.ref a0] (wPreX dC dI cyI cyB cyJ cyZ sz (ceX2_partByWord cyI cyB cyJ cyZ a0 a1 g0_size g0_digits g0_value g0_here g0_behind f1) (txA adS))) (va_Qi post (fun u : Unit => wAt dC dI cyI cyB cyJ cyZ (va_A (ceX2_partByWord cyI cyB cyJ cyZ a0 a1 g0_size g0_digits g0_value g0_here g0_behind f1) sz) (ceX2_partByWord cyI cyB cyJ cyZ a0 a1 g0_size g0_digits g0_value g0_here g0_behind f1)) (va_A (ceX2_partByWord cyI cyB cyJ cyZ a0 a1 g0_size g0_digits g0_value g0_here g0_behind f1) sz)) 0 0 (va_A (ceX2_partByWord cyI cyB cyJ cyZ a0 a1 g0_size g0_digits g0_value g0_here g0_behind f1) sz) := by
  refine Met.ofW (cc := cX2_partByWord) (maxL := 1) (ret := (some .int)) (by decide) rfl ?_
  intro p e s m args below meth c s₁ B hml hv
  obtain ⟨rfl, ⟨hsz, hP, hK, hD0, hN⟩, hXs⟩ := hv
  have hx := B.exec
  have hb := B.bytes
  have hr := B.returns
  have hts := atoms_spec (ws := wsX2_partByWord) B.pre
  have hown : s.vm.findClass RX2 = some m.cls := findClass_of_methodNamed B.named
  have hlocks := B.notSynchronized
  subst hsz
  have hD := hD0.self (sz := s.heap.size)
  generalize hAe : va_A (ceX2_partByWord cyI cyB cyJ cyZ a0 a1 g0_size g0_digits g0_value g0_here g0_behind f1) s.heap.size = A at hD hXs ⊢
  have hA : ∀ q : Nat, s.heap.size ≤ q → A q := fun q h => by rw [← hAe]; exact Or.inr h
  have hS : va_S A s.heap s.heap [] := va_S.rf
  have C0 : cxM p s m meth c _ wsX2_partByWord RX2 cX2_partByWord 1 (some .int) := ⟨hx, hb, hr, hml, hown, hts, hlocks⟩
  have hl := lv_entry ([.ref a0]) (n := 1) (Nat.le_of_ble_eq_true rfl)
  rw [lg_entry_eq]
  generalize (lg_sl ([.ref a0]) ++ List.replicate (1 - (lg_sl ([.ref a0])).length) Slot.unset).toArray = ls at hl ⊢
  have hl : lv_has ls 1 [(0, .ref a0)] := hl
  show W p l e rmX2_partByWord s m _ below meth c _ _ _ _ _ _
  refine wq (fun Q hQ => ?_)
  refine lv_aload_n hx hb dX2_partByWord_0 rfl (lv_at hl 0 rfl) ?_
  refine va_ldcS hx hb hown (hXs.2 8 _ rfl).1 dX2_partByWord_1 ?_
  have hPc := hP.sub (ws' := (ceX8_isWord cyI cyB cyJ cyZ a0 a1 g0_size g0_digits g0_value g0_here g0_behind f1)) [0, 1] rfl
  have hDc := hD.sub (ws' := (ceX8_isWord cyI cyB cyJ cyZ a0 a1 g0_size g0_digits g0_value g0_here g0_behind f1)) [0, 1] (by decide) rfl
  have hFc := va_free (wc := (ceX8_isWord cyI cyB cyJ cyZ a0 a1 g0_size g0_digits g0_value g0_here g0_behind f1)) hD hS hA [0, 1] rfl
  refine va_calli (va_runV (As := [.ref (adS 8)]) (rest := []) ⟨hx, hb, hml, hown, hts⟩ (ctX8_isWord l dC dI cyI cyB cyJ cyZ _ a0 a1 g0_size g0_digits g0_value g0_here g0_behind f1 _ [109, 97, 110] (adS 8) hw) (cwV 1 hts gX2_partByWord_X8_isWord rfl rfl rfl (by decide +kernel) ⟨Nat.le_of_ble_eq_true rfl, Nat.le_of_ble_eq_true rfl⟩) ⟨wPreX_blind (xOk_txS [109, 97, 110] (adS 8)), va_recv hK hPc (ci := 8) (q0 := 0) rfl rfl, fun U hU hW => wPreX_of (xOk_txS [109, 97, 110] (adS 8)) hPc hK hDc hN ⟨hXs.1, (hXs.2 8 _ rfl).2⟩ hS hFc hU hW⟩ rfl rfl hl.1 rfl (lv_room (Nat.le_of_ble_eq_true rfl)) dX2_partByWord_3 ⟨(Nat.zero_le _), (Nat.zero_le _)⟩) hS (fun q _ h => hFc q h) hFc (fun r2 u1 t H1 locs ht hvm hw hB hz1 hk1 hS => ?_)
  obtain ⟨hP1, hK1, hD1⟩ := hB
  rw [ht] at hP1
  obtain ⟨hP, hD⟩ := va_join (wr := pickW (ceX2_partByWord cyI cyB cyJ cyZ a0 a1 g0_size g0_digits g0_value g0_here g0_behind f1) []) (w1 := (ceX8_isWord cyI cyB cyJ cyZ a0 a1 g0_size g0_digits g0_value g0_here g0_behind f1)) hP hD [0, 1] [] rfl rfl (by decide) (by decide) hk1 hFc hP1 hD1
  have hP := hP.sub (ws' := (ceX2_partByWord cyI cyB cyJ cyZ a0 a1 g0_size g0_digits g0_value g0_here g0_behind f1)) [0, 1] rfl
  have hD := hD.sub (ws' := (ceX2_partByWord cyI cyB cyJ cyZ a0 a1 g0_size g0_digits g0_value g0_here g0_behind f1)) [0, 1] (by decide) rfl
  generalize H1 = H at hP hS ⊢
  refine lv_if_eq (tgt := 11) hx hb dX2_partByWord_6 (by decide) (fun hc => ?_) (fun hc => ?_)
  · have hw := hw.1 hc
    refine lv_aload_n hx hb dX2_partByWord_11 rfl (lv_at hl 0 rfl) ?_
    refine va_ldcS hx hb hown (hXs.2 9 _ rfl).1 dX2_partByWord_12 ?_
    have hPc := hP.sub (ws' := (ceX8_isWord cyI cyB cyJ cyZ a0 a1 g0_size g0_digits g0_value g0_here g0_behind f1)) [0, 1] rfl
    have hDc := hD.sub (ws' := (ceX8_isWord cyI cyB cyJ cyZ a0 a1 g0_size g0_digits g0_value g0_here g0_behind f1)) [0, 1] (by decide) rfl
    have hFc := va_free (wc := (ceX8_isWord cyI cyB cyJ cyZ a0 a1 g0_size g0_digits g0_value g0_here g0_behind f1)) hD hS hA [0, 1] rfl
    refine va_calli (va_runV (As := [.ref (adS 9)]) (rest := []) ⟨hx, hb, hml, hown, hts⟩ (ctX8_isWord l dC dI cyI cyB cyJ cyZ _ a0 a1 g0_size g0_digits g0_value g0_here g0_behind f1 _ [100, 111, 103] (adS 9) hw) (cwV 1 hts gX2_partByWord_X8_isWord rfl rfl rfl (by decide +kernel) ⟨Nat.le_of_ble_eq_true rfl, Nat.le_of_ble_eq_true rfl⟩) ⟨wPreX_blind (xOk_txS [100, 111, 103] (adS 9)), va_recv hK hPc (ci := 8) (q0 := 0) rfl rfl, fun U hU hW => wPreX_of (xOk_txS [100, 111, 103] (adS 9)) hPc hK hDc hN ⟨hXs.1, (hXs.2 9 _ rfl).2⟩ hS hFc hU hW⟩ rfl rfl hl.1 rfl (lv_room (Nat.le_of_ble_eq_true rfl)) dX2_partByWord_14 ⟨(Nat.zero_le _), (Nat.zero_le _)⟩) hS (fun q _ h => hFc q h) hFc (fun r4 u3 t H1 locs ht hvm hw hB hz1 hk1 hS => ?_)
    obtain ⟨hP1, hK1, hD1⟩ := hB
    rw [ht] at hP1
    obtain ⟨hP, hD⟩ := va_join (wr := pickW (ceX2_partByWord cyI cyB cyJ cyZ a0 a1 g0_size g0_digits g0_value g0_here g0_behind f1) []) (w1 := (ceX8_isWord cyI cyB cyJ cyZ a0 a1 g0_size g0_digits g0_value g0_here g0_behind f1)) hP hD [0, 1] [] rfl rfl (by decide) (by decide) hk1 hFc hP1 hD1
    have hP := hP.sub (ws' := (ceX2_partByWord cyI cyB cyJ cyZ a0 a1 g0_size g0_digits g0_value g0_here g0_behind f1)) [0, 1] rfl
    have hD := hD.sub (ws' := (ceX2_partByWord cyI cyB cyJ cyZ a0 a1 g0_size g0_digits g0_value g0_here g0_behind f1)) [0, 1] (by decide) rfl
    generalize H1 = H at hP hS ⊢
    refine lv_if_eq (tgt := 23) hx hb dX2_partByWord_17 (by decide) (fun hc => ?_) (fun hc => ?_)
    · have hw := hw.1 hc
      refine lv_aload_n hx hb dX2_partByWord_23 rfl (lv_at hl 0 rfl) ?_
      refine va_ldcS hx hb hown (hXs.2 10 _ rfl).1 dX2_partByWord_24 ?_
      have hPc := hP.sub (ws' := (ceX8_isWord cyI cyB cyJ cyZ a0 a1 g0_size g0_digits g0_value g0_here g0_behind f1)) [0, 1] rfl
      have hDc := hD.sub (ws' := (ceX8_isWord cyI cyB cyJ cyZ a0 a1 g0_size g0_digits g0_value g0_here g0_behind f1)) [0, 1] (by decide) rfl
      have hFc := va_free (wc := (ceX8_isWord cyI cyB cyJ cyZ a0 a1 g0_size g0_digits g0_value g0_here g0_behind f1)) hD hS hA [0, 1] rfl
      refine va_calli (va_runV (As := [.ref (adS 10)]) (rest := []) ⟨hx, hb, hml, hown, hts⟩ (ctX8_isWord l dC dI cyI cyB cyJ cyZ _ a0 a1 g0_size g0_digits g0_value g0_here g0_behind f1 _ [102, 97, 114] (adS 10) hw) (cwV 1 hts gX2_partByWord_X8_isWord rfl rfl rfl (by decide +kernel) ⟨Nat.le_of_ble_eq_true rfl, Nat.le_of_ble_eq_true rfl⟩) ⟨wPreX_blind (xOk_txS [102, 97, 114] (adS 10)), va_recv hK hPc (ci := 8) (q0 := 0) rfl rfl, fun U hU hW => wPreX_of (xOk_txS [102, 97, 114] (adS 10)) hPc hK hDc hN ⟨hXs.1, (hXs.2 10 _ rfl).2⟩ hS hFc hU hW⟩ rfl rfl hl.1 rfl (lv_room (Nat.le_of_ble_eq_true rfl)) dX2_partByWord_26 ⟨(Nat.zero_le _), (Nat.zero_le _)⟩) hS (fun q _ h => hFc q h) hFc (fun r6 u5 t H1 locs ht hvm hw hB hz1 hk1 hS => ?_)
      obtain ⟨hP1, hK1, hD1⟩ := hB
      rw [ht] at hP1
      obtain ⟨hP, hD⟩ := va_join (wr := pickW (ceX2_partByWord cyI cyB cyJ cyZ a0 a1 g0_size g0_digits g0_value g0_here g0_behind f1) []) (w1 := (ceX8_isWord cyI cyB cyJ cyZ a0 a1 g0_size g0_digits g0_value g0_here g0_behind f1)) hP hD [0, 1] [] rfl rfl (by decide) (by decide) hk1 hFc hP1 hD1
      have hP := hP.sub (ws' := (ceX2_partByWord cyI cyB cyJ cyZ a0 a1 g0_size g0_digits g0_value g0_here g0_behind f1)) [0, 1] rfl
      have hD := hD.sub (ws' := (ceX2_partByWord cyI cyB cyJ cyZ a0 a1 g0_size g0_digits g0_value g0_here g0_behind f1)) [0, 1] (by decide) rfl
      generalize H1 = H at hP hS ⊢
      refine lv_if_eq (tgt := 35) hx hb dX2_partByWord_29 (by decide) (fun hc => ?_) (fun hc => ?_)
      · have hw := hw.1 hc
        refine lv_aload_n hx hb dX2_partByWord_35 rfl (lv_at hl 0 rfl) ?_
        refine va_ldcS hx hb hown (hXs.2 11 _ rfl).1 dX2_partByWord_36 ?_
        have hPc := hP.sub (ws' := (ceX8_isWord cyI cyB cyJ cyZ a0 a1 g0_size g0_digits g0_value g0_here g0_behind f1)) [0, 1] rfl
        have hDc := hD.sub (ws' := (ceX8_isWord cyI cyB cyJ cyZ a0 a1 g0_size g0_digits g0_value g0_here g0_behind f1)) [0, 1] (by decide) rfl
        have hFc := va_free (wc := (ceX8_isWord cyI cyB cyJ cyZ a0 a1 g0_size g0_digits g0_value g0_here g0_behind f1)) hD hS hA [0, 1] rfl
        refine va_calli (va_runV (As := [.ref (adS 11)]) (rest := []) ⟨hx, hb, hml, hown, hts⟩ (ctX8_isWord l dC dI cyI cyB cyJ cyZ _ a0 a1 g0_size g0_digits g0_value g0_here g0_behind f1 _ [109, 120] (adS 11) hw) (cwV 1 hts gX2_partByWord_X8_isWord rfl rfl rfl (by decide +kernel) ⟨Nat.le_of_ble_eq_true rfl, Nat.le_of_ble_eq_true rfl⟩) ⟨wPreX_blind (xOk_txS [109, 120] (adS 11)), va_recv hK hPc (ci := 8) (q0 := 0) rfl rfl, fun U hU hW => wPreX_of (xOk_txS [109, 120] (adS 11)) hPc hK hDc hN ⟨hXs.1, (hXs.2 11 _ rfl).2⟩ hS hFc hU hW⟩ rfl rfl hl.1 rfl (lv_room (Nat.le_of_ble_eq_true rfl)) dX2_partByWord_38 ⟨(Nat.zero_le _), (Nat.zero_le _)⟩) hS (fun q _ h => hFc q h) hFc (fun r8 u7 t H1 locs ht hvm hw hB hz1 hk1 hS => ?_)
        obtain ⟨hP1, hK1, hD1⟩ := hB
        rw [ht] at hP1
        obtain ⟨hP, hD⟩ := va_join (wr := pickW (ceX2_partByWord cyI cyB cyJ cyZ a0 a1 g0_size g0_digits g0_value g0_here g0_behind f1) []) (w1 := (ceX8_isWord cyI cyB cyJ cyZ a0 a1 g0_size g0_digits g0_value g0_here g0_behind f1)) hP hD [0, 1] [] rfl rfl (by decide) (by decide) hk1 hFc hP1 hD1
        have hP := hP.sub (ws' := (ceX2_partByWord cyI cyB cyJ cyZ a0 a1 g0_size g0_digits g0_value g0_here g0_behind f1)) [0, 1] rfl
        have hD := hD.sub (ws' := (ceX2_partByWord cyI cyB cyJ cyZ a0 a1 g0_size g0_digits g0_value g0_here g0_behind f1)) [0, 1] (by decide) rfl
        generalize H1 = H at hP hS ⊢
        refine lv_if_eq (tgt := 47) hx hb dX2_partByWord_41 (by decide) (fun hc => ?_) (fun hc => ?_)
        · have hw := hw.1 hc
          refine lv_aload_n hx hb dX2_partByWord_47 rfl (lv_at hl 0 rfl) ?_
          refine va_ldcS hx hb hown (hXs.2 12 _ rfl).1 dX2_partByWord_48 ?_
          have hPc := hP.sub (ws' := (ceX8_isWord cyI cyB cyJ cyZ a0 a1 g0_size g0_digits g0_value g0_here g0_behind f1)) [0, 1] rfl
          have hDc := hD.sub (ws' := (ceX8_isWord cyI cyB cyJ cyZ a0 a1 g0_size g0_digits g0_value g0_here g0_behind f1)) [0, 1] (by decide) rfl
          have hFc := va_free (wc := (ceX8_isWord cyI cyB cyJ cyZ a0 a1 g0_size g0_digits g0_value g0_here g0_behind f1)) hD hS hA [0, 1] rfl
          refine va_calli (va_runV (As := [.ref (adS 12)]) (rest := []) ⟨hx, hb, hml, hown, hts⟩ (ctX8_isWord l dC dI cyI cyB cyJ cyZ _ a0 a1 g0_size g0_digits g0_value g0_here g0_behind f1 _ [109, 121] (adS 12) hw) (cwV 1 hts gX2_partByWord_X8_isWord rfl rfl rfl (by decide +kernel) ⟨Nat.le_of_ble_eq_true rfl, Nat.le_of_ble_eq_true rfl⟩) ⟨wPreX_blind (xOk_txS [109, 121] (adS 12)), va_recv hK hPc (ci := 8) (q0 := 0) rfl rfl, fun U hU hW => wPreX_of (xOk_txS [109, 121] (adS 12)) hPc hK hDc hN ⟨hXs.1, (hXs.2 12 _ rfl).2⟩ hS hFc hU hW⟩ rfl rfl hl.1 rfl (lv_room (Nat.le_of_ble_eq_true rfl)) dX2_partByWord_50 ⟨(Nat.zero_le _), (Nat.zero_le _)⟩) hS (fun q _ h => hFc q h) hFc (fun r10 u9 t H1 locs ht hvm hw hB hz1 hk1 hS => ?_)
          obtain ⟨hP1, hK1, hD1⟩ := hB
          rw [ht] at hP1
          obtain ⟨hP, hD⟩ := va_join (wr := pickW (ceX2_partByWord cyI cyB cyJ cyZ a0 a1 g0_size g0_digits g0_value g0_here g0_behind f1) []) (w1 := (ceX8_isWord cyI cyB cyJ cyZ a0 a1 g0_size g0_digits g0_value g0_here g0_behind f1)) hP hD [0, 1] [] rfl rfl (by decide) (by decide) hk1 hFc hP1 hD1
          have hP := hP.sub (ws' := (ceX2_partByWord cyI cyB cyJ cyZ a0 a1 g0_size g0_digits g0_value g0_here g0_behind f1)) [0, 1] rfl
          have hD := hD.sub (ws' := (ceX2_partByWord cyI cyB cyJ cyZ a0 a1 g0_size g0_digits g0_value g0_here g0_behind f1)) [0, 1] (by decide) rfl
          generalize H1 = H at hP hS ⊢
          refine lv_if_eq (tgt := 59) hx hb dX2_partByWord_53 (by decide) (fun hc => ?_) (fun hc => ?_)
          · have hw := hw.1 hc
            refine lv_aload_n hx hb dX2_partByWord_59 rfl (lv_at hl 0 rfl) ?_
            refine va_ldcS hx hb hown (hXs.2 13 _ rfl).1 dX2_partByWord_60 ?_
            have hPc := hP.sub (ws' := (ceX8_isWord cyI cyB cyJ cyZ a0 a1 g0_size g0_digits g0_value g0_here g0_behind f1)) [0, 1] rfl
            have hDc := hD.sub (ws' := (ceX8_isWord cyI cyB cyJ cyZ a0 a1 g0_size g0_digits g0_value g0_here g0_behind f1)) [0, 1] (by decide) rfl
            have hFc := va_free (wc := (ceX8_isWord cyI cyB cyJ cyZ a0 a1 g0_size g0_digits g0_value g0_here g0_behind f1)) hD hS hA [0, 1] rfl
            refine va_calli (va_runV (As := [.ref (adS 13)]) (rest := []) ⟨hx, hb, hml, hown, hts⟩ (ctX8_isWord l dC dI cyI cyB cyJ cyZ _ a0 a1 g0_size g0_digits g0_value g0_here g0_behind f1 _ [100, 120] (adS 13) hw) (cwV 1 hts gX2_partByWord_X8_isWord rfl rfl rfl (by decide +kernel) ⟨Nat.le_of_ble_eq_true rfl, Nat.le_of_ble_eq_true rfl⟩) ⟨wPreX_blind (xOk_txS [100, 120] (adS 13)), va_recv hK hPc (ci := 8) (q0 := 0) rfl rfl, fun U hU hW => wPreX_of (xOk_txS [100, 120] (adS 13)) hPc hK hDc hN ⟨hXs.1, (hXs.2 13 _ rfl).2⟩ hS hFc hU hW⟩ rfl rfl hl.1 rfl (lv_room (Nat.le_of_ble_eq_true rfl)) dX2_partByWord_62 ⟨(Nat.zero_le _), (Nat.zero_le _)⟩) hS (fun q _ h => hFc q h) hFc (fun r12 u11 t H1 locs ht hvm hw hB hz1 hk1 hS => ?_)
            obtain ⟨hP1, hK1, hD1⟩ := hB
            rw [ht] at hP1
            obtain ⟨hP, hD⟩ := va_join (wr := pickW (ceX2_partByWord cyI cyB cyJ cyZ a0 a1 g0_size g0_digits g0_value g0_here g0_behind f1) []) (w1 := (ceX8_isWord cyI cyB cyJ cyZ a0 a1 g0_size g0_digits g0_value g0_here g0_behind f1)) hP hD [0, 1] [] rfl rfl (by decide) (by decide) hk1 hFc hP1 hD1
            have hP := hP.sub (ws' := (ceX2_partByWord cyI cyB cyJ cyZ a0 a1 g0_size g0_digits g0_value g0_here g0_behind f1)) [0, 1] rfl
            have hD := hD.sub (ws' := (ceX2_partByWord cyI cyB cyJ cyZ a0 a1 g0_size g0_digits g0_value g0_here g0_behind f1)) [0, 1] (by decide) rfl
            generalize H1 = H at hP hS ⊢
            refine lv_if_eq (tgt := 71) hx hb dX2_partByWord_65 (by decide) (fun hc => ?_) (fun hc => ?_)
            · have hw := hw.1 hc
              refine lv_aload_n hx hb dX2_partByWord_71 rfl (lv_at hl 0 rfl) ?_
              refine va_ldcS hx hb hown (hXs.2 14 _ rfl).1 dX2_partByWord_72 ?_
              have hPc := hP.sub (ws' := (ceX8_isWord cyI cyB cyJ cyZ a0 a1 g0_size g0_digits g0_value g0_here g0_behind f1)) [0, 1] rfl
              have hDc := hD.sub (ws' := (ceX8_isWord cyI cyB cyJ cyZ a0 a1 g0_size g0_digits g0_value g0_here g0_behind f1)) [0, 1] (by decide) rfl
              have hFc := va_free (wc := (ceX8_isWord cyI cyB cyJ cyZ a0 a1 g0_size g0_digits g0_value g0_here g0_behind f1)) hD hS hA [0, 1] rfl
              refine va_calli (va_runV (As := [.ref (adS 14)]) (rest := []) ⟨hx, hb, hml, hown, hts⟩ (ctX8_isWord l dC dI cyI cyB cyJ cyZ _ a0 a1 g0_size g0_digits g0_value g0_here g0_behind f1 _ [100, 121] (adS 14) hw) (cwV 1 hts gX2_partByWord_X8_isWord rfl rfl rfl (by decide +kernel) ⟨Nat.le_of_ble_eq_true rfl, Nat.le_of_ble_eq_true rfl⟩) ⟨wPreX_blind (xOk_txS [100, 121] (adS 14)), va_recv hK hPc (ci := 8) (q0 := 0) rfl rfl, fun U hU hW => wPreX_of (xOk_txS [100, 121] (adS 14)) hPc hK hDc hN ⟨hXs.1, (hXs.2 14 _ rfl).2⟩ hS hFc hU hW⟩ rfl rfl hl.1 rfl (lv_room (Nat.le_of_ble_eq_true rfl)) dX2_partByWord_74 ⟨(Nat.zero_le _), (Nat.zero_le _)⟩) hS (fun q _ h => hFc q h) hFc (fun r14 u13 t H1 locs ht hvm hw hB hz1 hk1 hS => ?_)
              obtain ⟨hP1, hK1, hD1⟩ := hB
              rw [ht] at hP1
              obtain ⟨hP, hD⟩ := va_join (wr := pickW (ceX2_partByWord cyI cyB cyJ cyZ a0 a1 g0_size g0_digits g0_value g0_here g0_behind f1) []) (w1 := (ceX8_isWord cyI cyB cyJ cyZ a0 a1 g0_size g0_digits g0_value g0_here g0_behind f1)) hP hD [0, 1] [] rfl rfl (by decide) (by decide) hk1 hFc hP1 hD1
              have hP := hP.sub (ws' := (ceX2_partByWord cyI cyB cyJ cyZ a0 a1 g0_size g0_digits g0_value g0_here g0_behind f1)) [0, 1] rfl
              have hD := hD.sub (ws' := (ceX2_partByWord cyI cyB cyJ cyZ a0 a1 g0_size g0_digits g0_value g0_here g0_behind f1)) [0, 1] (by decide) rfl
              generalize H1 = H at hP hS ⊢
              refine lv_if_eq (tgt := 85) hx hb dX2_partByWord_77 (by decide) (fun hc => ?_) (fun hc => ?_)
              · have hw := hw.1 hc
                refine lv_bipush (v := (-8)) hx hb dX2_partByWord_85 (by decide) ?_
                rw [hQ]
                exact W.iret (v := (-8)) hx hb hr (fun t ht hW => ⟨⟨(-8), (), rfl, hw, by rw [ht]; exact hP, va_K.moved hW.alike hK, hD⟩, hS.F ht⟩) hS.2.2 dX2_partByWord_87
              · have hw := hw.2 hc
                refine lv_bipush (v := (-7)) hx hb dX2_partByWord_80 (by decide) ?_
                refine lv_goto (tgt := 87) hx hb dX2_partByWord_82 (by decide) ?_
                rw [hQ]
                exact W.iret (v := (-7)) hx hb hr (fun t ht hW => ⟨⟨(-7), (), rfl, hw, by rw [ht]; exact hP, va_K.moved hW.alike hK, hD⟩, hS.F ht⟩) hS.2.2 dX2_partByWord_87
            · have hw := hw.2 hc
              refine lv_bipush (v := (-6)) hx hb dX2_partByWord_68 (by decide) ?_
              rw [hQ]
              exact W.iret (v := (-6)) hx hb hr (fun t ht hW => ⟨⟨(-6), (), rfl, hw, by rw [ht]; exact hP, va_K.moved hW.alike hK, hD⟩, hS.F ht⟩) hS.2.2 dX2_partByWord_70
          · have hw := hw.2 hc
            refine lv_bipush (v := (-5)) hx hb dX2_partByWord_56 (by decide) ?_
            rw [hQ]
            exact W.iret (v := (-5)) hx hb hr (fun t ht hW => ⟨⟨(-5), (), rfl, hw, by rw [ht]; exact hP, va_K.moved hW.alike hK, hD⟩, hS.F ht⟩) hS.2.2 dX2_partByWord_58
        · have hw := hw.2 hc
          refine lv_bipush (v := (-4)) hx hb dX2_partByWord_44 (by decide) ?_
          rw [hQ]
          exact W.iret (v := (-4)) hx hb hr (fun t ht hW => ⟨⟨(-4), (), rfl, hw, by rw [ht]; exact hP, va_K.moved hW.alike hK, hD⟩, hS.F ht⟩) hS.2.2 dX2_partByWord_46
      · have hw := hw.2 hc
        refine lv_bipush (v := (-3)) hx hb dX2_partByWord_32 (by decide) ?_
        rw [hQ]
        exact W.iret (v := (-3)) hx hb hr (fun t ht hW => ⟨⟨(-3), (), rfl, hw, by rw [ht]; exact hP, va_K.moved hW.alike hK, hD⟩, hS.F ht⟩) hS.2.2 dX2_partByWord_34
    · have hw := hw.2 hc
      refine lv_bipush (v := (-2)) hx hb dX2_partByWord_20 (by decide) ?_
      rw [hQ]
      exact W.iret (v := (-2)) hx hb hr (fun t ht hW => ⟨⟨(-2), (), rfl, hw, by rw [ht]; exact hP, va_K.moved hW.alike hK, hD⟩, hS.F ht⟩) hS.2.2 dX2_partByWord_22
  · have hw := hw.2 hc
    refine lv_iconst (v := (-1)) hx hb dX2_partByWord_9 (by decide) ?_
    rw [hQ]
    exact W.iret (v := (-1)) hx hb hr (fun t ht hW => ⟨⟨(-1), (), rfl, hw, by rw [ht]; exact hP, va_K.moved hW.alike hK, hD⟩, hS.F ht⟩) hS.2.2 dX2_partByWord_10
/-! LeadPark$Law.readSum (LLeadPark$Tape;)Z -/
abbrev ceX2_readSum (cyI cyB cyJ cyZ : ClassId) (a0 a1 a2 a3 b0_seen : Nat) (g0_lines : Int32) (g2_size : Int32) (f3 : Nat → Int32) (g0_size : Int32) (f1 : Nat → Int32) (g2_here : Int32) (g2_behind : Int32) (g2_digits : Int32) (g2_value : Int32) : va_W := [(a0, .inr (2, [.ref a1, .ref b0_seen, .int g0_size, .int g0_lines])), (a1, .inl (cyI, 400, .inl f1)), (a2, .inr (8, [.ref a3, .int g2_size, .int g2_here, .int g2_behind, .int g2_digits, .int g2_value])), (a3, .inl (cyB, 400, .inl f3))]

theorem inX2_readSum_X8 : ∀ w ∈ wsX80, w ∈ wsX2_readSum := fun _ h => List.mem_cons_of_mem _ (List.mem_append_left _ (List.mem_append_right _ h))
abbrev rmX2_readSum : Room := { frames := 6, cells := 0, slots := 0, locals := 127 }
set_option maxRecDepth 100000 in
set_option maxHeartbeats 4000000 in
theorem bX2_readSum_29 {p : Program} {l : Launch} {e : Env} {s : State} {m : MethodId} {args : Array Value} {below : List Frame} {meth : Method} {c : Code} {dC : Nat → ClassId} {dI : Nat → Nat → Nat} {cyI cyB cyJ cyZ : ClassId} {A : Nat → Prop} {a0 a1 a2 a3 b0_seen : Nat} {g0_lines : Int32} {adS : Nat → Nat} (C0 : cxM p s m meth c args wsX2_readSum RX2 cX2_readSum 4 (some .boolean)) (hK : va_K (dC, dI) vwCl (tyA cyI cyB cyJ cyZ) s) (hN : nwA s) (hA : ∀ q : Nat, s.heap.size ≤ q → A q) (hXs : (txA adS) A s s.heap) {post : Int32 → (Int32 × (Nat → Int32) × Int32 × Int32 × Int32 × Int32) → Prop} {g2_size : Int32} {f3 : Nat → Int32} {k2 : Int32 → (Nat → Int32) → Int32 → Int32 → Int32 → Int32 → Int32 → Prop} {Q : State → Prop} (hQ : Q = MQ below (va_Qi post (fun u : Int32 × (Nat → Int32) × Int32 × Int32 × Int32 × Int32 => wAt dC dI cyI cyB cyJ cyZ A (ceX2_readSum cyI cyB cyJ cyZ a0 a1 a2 a3 b0_seen g0_lines g2_size f3 u.1 u.2.1 u.2.2.1 u.2.2.2.1 u.2.2.2.2.1 u.2.2.2.2.2)) A) args s 0 0 A) (hk2 : ∀ (g0_size : Int32) (f1 : Nat → Int32) (g2_here : Int32) (g2_behind : Int32) (g2_digits : Int32) (g2_value : Int32) (x2 : Int32), k2 g0_size f1 g2_here g2_behind g2_digits g2_value x2 → AtW p l e rmX2_readSum s m args below meth c dC dI A Q 4 0 0 (ceX2_readSum cyI cyB cyJ cyZ a0 a1 a2 a3 b0_seen g0_lines g2_size f3 g0_size f1 g2_here g2_behind g2_digits g2_value) [(0, .ref a0), (1, .ref a2), (2, .int x2)] 2 []) : ∀ (g0_size : Int32) (f1 : Nat → Int32) (g2_here : Int32) (g2_behind : Int32) (g2_digits : Int32) (g2_value : Int32) (x2 : Int32) (s0 : Int32), wpX2_readSum_29 k2 post g2_size f3 g0_size f1 g2_here g2_behind g2_digits g2_value x2 s0 → AtW p l e rmX2_readSum s m args below meth c dC dI A Q 4 0 0 (ceX2_readSum cyI cyB cyJ cyZ a0 a1 a2 a3 b0_seen g0_lines g2_size f3 g0_size f1 g2_here g2_behind g2_digits g2_value) [(0, .ref a0), (1, .ref a2), (2, .int x2)] 29 [.int s0] := by
  intro g0_size f1 g2_here g2_behind g2_digits g2_value x2 s0 hw H locs hP hD hS ls hl
  have C1 := C0
  obtain ⟨hx, hb, hr, hml, hown, hts, hlocks⟩ := C1
  refine lv_istore_n (lv' := [(3, .int s0), (0, .ref a0), (1, .ref a2), (2, .int x2)]) hx hb dX2_readSum_29 rfl hl (by decide) rfl (fun ls hl => ?_)
  refine lv_iload_n hx hb dX2_readSum_30 rfl (lv_at hl 0 rfl) ?_
  refine lv_bipush (v := (-7)) hx hb dX2_readSum_31 (by decide) ?_
  refine lv_icmp_ge (tgt := 38) hx hb dX2_readSum_33 (by decide) (fun hc => ?_) (fun hc => ?_)
  · have hw := hw.1 hc
    refine lv_aload_n hx hb dX2_readSum_38 rfl (lv_at hl 1 rfl) ?_
    refine lv_iload_n hx hb dX2_readSum_39 rfl (lv_at hl 0 rfl) ?_
    have hPc := hP.sub (ws' := (ceX2_give cyI cyB cyJ cyZ a0 a1 b0_seen g0_lines g0_size f1)) [0, 1] rfl
    have hDc := hD.sub (ws' := (ceX2_give cyI cyB cyJ cyZ a0 a1 b0_seen g0_lines g0_size f1)) [0, 1] (by decide) rfl
    have hFc := va_free (wc := (ceX2_give cyI cyB cyJ cyZ a0 a1 b0_seen g0_lines g0_size f1)) hD hS hA [0, 1] rfl
    refine va_callv (va_runV (As := [.int s0]) (rest := []) ⟨hx, hb, hml, hown, hts⟩ (ctX2_give l dC dI cyI cyB cyJ cyZ _ a0 a1 b0_seen g0_lines g0_size f1 s0 _ hw) (cwV 1 hts gX2_readSum_X2_give rfl rfl rfl (by decide +kernel) ⟨Nat.le_of_ble_eq_true rfl, Nat.le_of_ble_eq_true rfl⟩) ⟨wPre_blind, va_recv hK hPc (ci := 2) (q0 := 0) rfl rfl, fun U hU hW => wPre_of hPc hK hDc hN hU hW⟩ rfl rfl hl.1 rfl (lv_room (Nat.le_of_ble_eq_true rfl)) dX2_readSum_40 ⟨(Nat.zero_le _), (Nat.zero_le _)⟩) hS (fun q _ h => hFc q h) hFc (fun u1 t H1 locs ht hvm hw hB hz1 hk1 hS => ?_)
    obtain ⟨hP1, hK1, hD1⟩ := hB
    rw [ht] at hP1
    obtain ⟨hP, hD⟩ := va_join (wr := pickW (ceX2_readSum cyI cyB cyJ cyZ a0 a1 a2 a3 b0_seen g0_lines g2_size f3 g0_size f1 g2_here g2_behind g2_digits g2_value) [2, 3]) (w1 := (ceX2_give cyI cyB cyJ cyZ a0 a1 b0_seen g0_lines u1.1 u1.2)) hP hD [0, 1] [2, 3] rfl rfl (by decide) (by decide) hk1 hFc hP1 hD1
    have hP := hP.sub (ws' := (ceX2_readSum cyI cyB cyJ cyZ a0 a1 a2 a3 b0_seen g0_lines g2_size f3 u1.1 u1.2 g2_here g2_behind g2_digits g2_value)) [2, 3, 0, 1] rfl
    have hD := hD.sub (ws' := (ceX2_readSum cyI cyB cyJ cyZ a0 a1 a2 a3 b0_seen g0_lines g2_size f3 u1.1 u1.2 g2_here g2_behind g2_digits g2_value)) [2, 3, 0, 1] (by decide) rfl
    generalize H1 = H at hP hS ⊢
    refine lv_aload_n hx hb dX2_readSum_43 rfl (lv_at hl 2 rfl) ?_
    have hPc := hP.sub (ws' := (ceX8_toNext cyI cyB cyJ cyZ a2 a3 g2_size f3 g2_here g2_behind g2_digits g2_value)) [2, 3] rfl
    have hDc := hD.sub (ws' := (ceX8_toNext cyI cyB cyJ cyZ a2 a3 g2_size f3 g2_here g2_behind g2_digits g2_value)) [2, 3] (by decide) rfl
    have hFc := va_free (wc := (ceX8_toNext cyI cyB cyJ cyZ a2 a3 g2_size f3 g2_here g2_behind g2_digits g2_value)) hD hS hA [2, 3] rfl
    refine va_callv (va_runV (As := []) (rest := []) ⟨hx, hb, hml, hown, hts⟩ (ctX8_toNext l dC dI cyI cyB cyJ cyZ _ a2 a3 g2_size f3 g2_here g2_behind g2_digits g2_value _ hw) (cwV 0 hts gX2_readSum_X8_toNext rfl rfl rfl (by decide +kernel) ⟨Nat.le_of_ble_eq_true rfl, Nat.le_of_ble_eq_true rfl⟩) ⟨wPre_blind, va_recv hK hPc (ci := 8) (q0 := 0) rfl rfl, fun U hU hW => wPre_of hPc hK hDc hN hU hW⟩ rfl rfl hl.1 rfl (lv_room (Nat.le_of_ble_eq_true rfl)) dX2_readSum_44 ⟨(Nat.zero_le _), (Nat.zero_le _)⟩) hS (fun q _ h => hFc q h) hFc (fun u2 t H1 locs ht hvm hw hB hz1 hk1 hS => ?_)
    obtain ⟨hP1, hK1, hD1⟩ := hB
    rw [ht] at hP1
    obtain ⟨hP, hD⟩ := va_join (wr := pickW (ceX2_readSum cyI cyB cyJ cyZ a0 a1 a2 a3 b0_seen g0_lines g2_size f3 u1.1 u1.2 g2_here g2_behind g2_digits g2_value) [0, 1]) (w1 := (ceX8_toNext cyI cyB cyJ cyZ a2 a3 g2_size f3 u2.1 u2.2.1 u2.2.2.1 u2.2.2.2)) hP hD [2, 3] [0, 1] rfl rfl (by decide) (by decide) hk1 hFc hP1 hD1
    have hP := hP.sub (ws' := (ceX2_readSum cyI cyB cyJ cyZ a0 a1 a2 a3 b0_seen g0_lines g2_size f3 u1.1 u1.2 u2.1 u2.2.1 u2.2.2.1 u2.2.2.2)) [0, 1, 2, 3] rfl
    have hD := hD.sub (ws' := (ceX2_readSum cyI cyB cyJ cyZ a0 a1 a2 a3 b0_seen g0_lines g2_size f3 u1.1 u1.2 u2.1 u2.2.1 u2.2.2.1 u2.2.2.2)) [0, 1, 2, 3] (by decide) rfl
    generalize H1 = H at hP hS ⊢
    refine lv_aload_n hx hb dX2_readSum_47 rfl (lv_at hl 2 rfl) ?_
    refine lv_bipush (v := 43) hx hb dX2_readSum_48 (by decide) ?_
    have hPc := hP.sub (ws' := (ceX8_isSign cyI cyB cyJ cyZ a2 a3 u2.2.1 u2.2.2.1 u2.2.2.2 g2_size u2.1 f3)) [2, 3] rfl
    have hDc := hD.sub (ws' := (ceX8_isSign cyI cyB cyJ cyZ a2 a3 u2.2.1 u2.2.2.1 u2.2.2.2 g2_size u2.1 f3)) [2, 3] (by decide) rfl
    have hFc := va_free (wc := (ceX8_isSign cyI cyB cyJ cyZ a2 a3 u2.2.1 u2.2.2.1 u2.2.2.2 g2_size u2.1 f3)) hD hS hA [2, 3] rfl
    refine va_calli (va_runV (As := [.int 43]) (rest := []) ⟨hx, hb, hml, hown, hts⟩ (ctX8_isSign l dC dI cyI cyB cyJ cyZ _ a2 a3 u2.2.1 u2.2.2.1 u2.2.2.2 g2_size u2.1 f3 43 _ hw) (cwV 1 hts gX2_readSum_X8_isSign rfl rfl rfl (by decide +kernel) ⟨Nat.le_of_ble_eq_true rfl, Nat.le_of_ble_eq_true rfl⟩) ⟨wPre_blind, va_recv hK hPc (ci := 8) (q0 := 0) rfl rfl, fun U hU hW => wPre_of hPc hK hDc hN hU hW⟩ rfl rfl hl.1 rfl (lv_room (Nat.le_of_ble_eq_true rfl)) dX2_readSum_50 ⟨(Nat.zero_le _), (Nat.zero_le _)⟩) hS (fun q _ h => hFc q h) hFc (fun r4 u3 t H1 locs ht hvm hw hB hz1 hk1 hS => ?_)
    obtain ⟨hP1, hK1, hD1⟩ := hB
    rw [ht] at hP1
    obtain ⟨hP, hD⟩ := va_join (wr := pickW (ceX2_readSum cyI cyB cyJ cyZ a0 a1 a2 a3 b0_seen g0_lines g2_size f3 u1.1 u1.2 u2.1 u2.2.1 u2.2.2.1 u2.2.2.2) [0, 1]) (w1 := (ceX8_isSign cyI cyB cyJ cyZ a2 a3 u2.2.1 u2.2.2.1 u2.2.2.2 g2_size u2.1 f3)) hP hD [2, 3] [0, 1] rfl rfl (by decide) (by decide) hk1 hFc hP1 hD1
    have hP := hP.sub (ws' := (ceX2_readSum cyI cyB cyJ cyZ a0 a1 a2 a3 b0_seen g0_lines g2_size f3 u1.1 u1.2 u2.1 u2.2.1 u2.2.2.1 u2.2.2.2)) [0, 1, 2, 3] rfl
    have hD := hD.sub (ws' := (ceX2_readSum cyI cyB cyJ cyZ a0 a1 a2 a3 b0_seen g0_lines g2_size f3 u1.1 u1.2 u2.1 u2.2.1 u2.2.2.1 u2.2.2.2)) [0, 1, 2, 3] (by decide) rfl
    generalize H1 = H at hP hS ⊢
    refine lv_if_ne (tgt := 58) hx hb dX2_readSum_53 (by decide) (fun hc => ?_) (fun hc => ?_)
    · have hw := hw.1 hc
      refine lv_aload_n hx hb dX2_readSum_58 rfl (lv_at hl 2 rfl) ?_
      have hPc := hP.sub (ws' := (ceX8_toNext cyI cyB cyJ cyZ a2 a3 g2_size f3 u2.1 u2.2.1 u2.2.2.1 u2.2.2.2)) [2, 3] rfl
      have hDc := hD.sub (ws' := (ceX8_toNext cyI cyB cyJ cyZ a2 a3 g2_size f3 u2.1 u2.2.1 u2.2.2.1 u2.2.2.2)) [2, 3] (by decide) rfl
      have hFc := va_free (wc := (ceX8_toNext cyI cyB cyJ cyZ a2 a3 g2_size f3 u2.1 u2.2.1 u2.2.2.1 u2.2.2.2)) hD hS hA [2, 3] rfl
      refine va_callv (va_runV (As := []) (rest := []) ⟨hx, hb, hml, hown, hts⟩ (ctX8_toNext l dC dI cyI cyB cyJ cyZ _ a2 a3 g2_size f3 u2.1 u2.2.1 u2.2.2.1 u2.2.2.2 _ hw) (cwV 0 hts gX2_readSum_X8_toNext rfl rfl rfl (by decide +kernel) ⟨Nat.le_of_ble_eq_true rfl, Nat.le_of_ble_eq_true rfl⟩) ⟨wPre_blind, va_recv hK hPc (ci := 8) (q0 := 0) rfl rfl, fun U hU hW => wPre_of hPc hK hDc hN hU hW⟩ rfl rfl hl.1 rfl (lv_room (Nat.le_of_ble_eq_true rfl)) dX2_readSum_59 ⟨(Nat.zero_le _), (Nat.zero_le _)⟩) hS (fun q _ h => hFc q h) hFc (fun u5 t H1 locs ht hvm hw hB hz1 hk1 hS => ?_)
      obtain ⟨hP1, hK1, hD1⟩ := hB
      rw [ht] at hP1
      obtain ⟨hP, hD⟩ := va_join (wr := pickW (ceX2_readSum cyI cyB cyJ cyZ a0 a1 a2 a3 b0_seen g0_lines g2_size f3 u1.1 u1.2 u2.1 u2.2.1 u2.2.2.1 u2.2.2.2) [0, 1]) (w1 := (ceX8_toNext cyI cyB cyJ cyZ a2 a3 g2_size f3 u5.1 u5.2.1 u5.2.2.1 u5.2.2.2)) hP hD [2, 3] [0, 1] rfl rfl (by decide) (by decide) hk1 hFc hP1 hD1
      have hP := hP.sub (ws' := (ceX2_readSum cyI cyB cyJ cyZ a0 a1 a2 a3 b0_seen g0_lines g2_size f3 u1.1 u1.2 u5.1 u5.2.1 u5.2.2.1 u5.2.2.2)) [0, 1, 2, 3] rfl
      have hD := hD.sub (ws' := (ceX2_readSum cyI cyB cyJ cyZ a0 a1 a2 a3 b0_seen g0_lines g2_size f3 u1.1 u1.2 u5.1 u5.2.1 u5.2.2.1 u5.2.2.2)) [0, 1, 2, 3] (by decide) rfl
      generalize H1 = H at hP hS ⊢
      obtain ⟨v6, ev6⟩ : ∃ y : Int32, y = x2 + 1 := ⟨_, rfl⟩
      have hw := hw v6 ev6
      refine lv_iinc (v := v6) (lv' := [(2, .int v6), (3, .int s0), (0, .ref a0), (1, .ref a2)]) hx hb dX2_readSum_62 hl (k := 3) rfl (by rw [ev6]; rfl) (by decide) rfl (fun ls hl => ?_)
      refine lv_goto (tgt := 2) hx hb dX2_readSum_65 (by decide) ?_
      exact hk2 u1.1 u1.2 u5.1 u5.2.1 u5.2.2.1 u5.2.2.2 v6 hw H locs hP hD hS ls (lv_sub hl [2, 3, 0] rfl)
    · have hw := hw.2 hc
      refine lv_iconst (v := 1) hx hb dX2_readSum_56 (by decide) ?_
      rw [hQ]
      exact W.zret (v := 1) (ty := .boolean) hx hb hr rfl (fun t ht hW => ⟨⟨1, (u1.1, u1.2, u2.1, u2.2.1, u2.2.2.1, u2.2.2.2), rfl, hw, by rw [ht]; exact hP, va_K.moved hW.alike hK, hD⟩, hS.F ht⟩) hS.2.2 dX2_readSum_57
  · have hw := hw.2 hc
    refine lv_iconst (v := 0) hx hb dX2_readSum_36 (by decide) ?_
    rw [hQ]
    exact W.zret (v := 0) (ty := .boolean) hx hb hr rfl (fun t ht hW => ⟨⟨0, (g0_size, f1, g2_here, g2_behind, g2_digits, g2_value), rfl, hw, by rw [ht]; exact hP, va_K.moved hW.alike hK, hD⟩, hS.F ht⟩) hS.2.2 dX2_readSum_37
set_option maxRecDepth 100000 in
set_option maxHeartbeats 4000000 in
theorem bX2_readSum_2 {p : Program} {l : Launch} {e : Env} {s : State} {m : MethodId} {args : Array Value} {below : List Frame} {meth : Method} {c : Code} {dC : Nat → ClassId} {dI : Nat → Nat → Nat} {cyI cyB cyJ cyZ : ClassId} {A : Nat → Prop} {a0 a1 a2 a3 b0_seen : Nat} {g0_lines : Int32} {adS : Nat → Nat} (C0 : cxM p s m meth c args wsX2_readSum RX2 cX2_readSum 4 (some .boolean)) (hK : va_K (dC, dI) vwCl (tyA cyI cyB cyJ cyZ) s) (hN : nwA s) (hA : ∀ q : Nat, s.heap.size ≤ q → A q) (hXs : (txA adS) A s s.heap) {post : Int32 → (Int32 × (Nat → Int32) × Int32 × Int32 × Int32 × Int32) → Prop} {g2_size : Int32} {f3 : Nat → Int32} {Q : State → Prop} (hQ : Q = MQ below (va_Qi post (fun u : Int32 × (Nat → Int32) × Int32 × Int32 × Int32 × Int32 => wAt dC dI cyI cyB cyJ cyZ A (ceX2_readSum cyI cyB cyJ cyZ a0 a1 a2 a3 b0_seen g0_lines g2_size f3 u.1 u.2.1 u.2.2.1 u.2.2.2.1 u.2.2.2.2.1 u.2.2.2.2.2)) A) args s 0 0 A) : ∀ (n : Nat) (g0_size : Int32) (f1 : Nat → Int32) (g2_here : Int32) (g2_behind : Int32) (g2_digits : Int32) (g2_value : Int32) (x2 : Int32), wpX2_readSum_2 post g2_size f3 n g0_size f1 g2_here g2_behind g2_digits g2_value x2 → AtW p l e rmX2_readSum s m args below meth c dC dI A Q 4 0 0 (ceX2_readSum cyI cyB cyJ cyZ a0 a1 a2 a3 b0_seen g0_lines g2_size f3 g0_size f1 g2_here g2_behind g2_digits g2_value) [(0, .ref a0), (1, .ref a2), (2, .int x2)] 2 [] := by
  intro n
  induction n with
  | zero => intro g0_size f1 g2_here g2_behind g2_digits g2_value x2 hw; exact False.elim hw
  | succ n ih =>
    intro g0_size f1 g2_here g2_behind g2_digits g2_value x2 hw H locs hP hD hS ls hl
    have C1 := C0
    obtain ⟨hx, hb, hr, hml, hown, hts, hlocks⟩ := C1
    refine lv_iload_n hx hb dX2_readSum_2 rfl (lv_at hl 2 rfl) ?_
    refine lv_sipush (v := 400) hx hb dX2_readSum_3 (by decide) ?_
    refine lv_icmp_ge (tgt := 68) hx hb dX2_readSum_6 (by decide) (fun hc => ?_) (fun hc => ?_)
    · have hw := hw.1 hc
      refine lv_iconst (v := 0) hx hb dX2_readSum_68 (by decide) ?_
      rw [hQ]
      exact W.zret (v := 0) (ty := .boolean) hx hb hr rfl (fun t ht hW => ⟨⟨0, (g0_size, f1, g2_here, g2_behind, g2_digits, g2_value), rfl, hw, by rw [ht]; exact hP, va_K.moved hW.alike hK, hD⟩, hS.F ht⟩) hS.2.2 dX2_readSum_69
    · have hw := hw.2 hc
      refine lv_aload_n hx hb dX2_readSum_9 rfl (lv_at hl 1 rfl) ?_
      refine lv_bipush (v := 7) hx hb dX2_readSum_10 (by decide) ?_
      have hPc := hP.sub (ws' := (ceX8_isNumber cyI cyB cyJ cyZ a2 a3 g2_size g2_here g2_behind g2_value g2_digits)) [2] rfl
      have hDc := hD.sub (ws' := (ceX8_isNumber cyI cyB cyJ cyZ a2 a3 g2_size g2_here g2_behind g2_value g2_digits)) [2] (by decide) rfl
      have hFc := va_free (wc := (ceX8_isNumber cyI cyB cyJ cyZ a2 a3 g2_size g2_here g2_behind g2_value g2_digits)) hD hS hA [2] rfl
      refine va_calli (va_runV (As := [.int 7]) (rest := []) ⟨hx, hb, hml, hown, hts⟩ (ctX8_isNumber l dC dI cyI cyB cyJ cyZ _ a2 a3 g2_size g2_here g2_behind g2_value g2_digits 7 _ hw) (cwV 1 hts gX2_readSum_X8_isNumber rfl rfl rfl (by decide +kernel) ⟨Nat.le_of_ble_eq_true rfl, Nat.le_of_ble_eq_true rfl⟩) ⟨wPre_blind, va_recv hK hPc (ci := 8) (q0 := 0) rfl rfl, fun U hU hW => wPre_of hPc hK hDc hN hU hW⟩ rfl rfl hl.1 rfl (lv_room (Nat.le_of_ble_eq_true rfl)) dX2_readSum_12 ⟨(Nat.zero_le _), (Nat.zero_le _)⟩) hS (fun q _ h => hFc q h) hFc (fun r2 u1 t H1 locs ht hvm hw hB hz1 hk1 hS => ?_)
      obtain ⟨hP1, hK1, hD1⟩ := hB
      rw [ht] at hP1
      obtain ⟨hP, hD⟩ := va_join (wr := pickW (ceX2_readSum cyI cyB cyJ cyZ a0 a1 a2 a3 b0_seen g0_lines g2_size f3 g0_size f1 g2_here g2_behind g2_digits g2_value) [0, 1, 3]) (w1 := (ceX8_isNumber cyI cyB cyJ cyZ a2 a3 g2_size g2_here g2_behind g2_value g2_digits)) hP hD [2] [0, 1, 3] rfl rfl (by decide) (by decide) hk1 hFc hP1 hD1
      have hP := hP.sub (ws' := (ceX2_readSum cyI cyB cyJ cyZ a0 a1 a2 a3 b0_seen g0_lines g2_size f3 g0_size f1 g2_here g2_behind g2_digits g2_value)) [0, 1, 3, 2] rfl
      have hD := hD.sub (ws' := (ceX2_readSum cyI cyB cyJ cyZ a0 a1 a2 a3 b0_seen g0_lines g2_size f3 g0_size f1 g2_here g2_behind g2_digits g2_value)) [0, 1, 3, 2] (by decide) rfl
      generalize H1 = H at hP hS ⊢
      refine lv_if_eq (tgt := 25) hx hb dX2_readSum_15 (by decide) (fun hc => ?_) (fun hc => ?_)
      · have hw := hw.1 hc
        refine lv_aload_n hx hb dX2_readSum_25 rfl (lv_at hl 1 rfl) ?_
        have hPc := hP.sub (ws' := (ceX2_partByWord cyI cyB cyJ cyZ a2 a3 g2_size g2_digits g2_value g2_here g2_behind f3)) [2, 3] rfl
        have hDc := hD.sub (ws' := (ceX2_partByWord cyI cyB cyJ cyZ a2 a3 g2_size g2_digits g2_value g2_here g2_behind f3)) [2, 3] (by decide) rfl
        have hFc := va_free (wc := (ceX2_partByWord cyI cyB cyJ cyZ a2 a3 g2_size g2_digits g2_value g2_here g2_behind f3)) hD hS hA [2, 3] rfl
        refine va_calli (va_runS (As := [.ref a2]) (rest := []) ⟨hx, hb, hml, hown, hts⟩ (ctX2_partByWord l dC dI cyI cyB cyJ cyZ _ a2 a3 g2_size g2_digits g2_value g2_here g2_behind f3 _ adS hw) (va_cwS 1 hts gX2_readSum_X2_partByWord rfl rfl rfl (by decide +kernel) ⟨Nat.le_of_ble_eq_true rfl, Nat.le_of_ble_eq_true rfl⟩) ⟨wPreX_blind (xOk_txA adS), fun U hU hW => wPreX_of (xOk_txA adS) hPc hK hDc hN hXs hS hFc hU hW⟩ rfl rfl hl.1 rfl (lv_room (Nat.le_of_ble_eq_true rfl)) dX2_readSum_26 ⟨(Nat.zero_le _), (Nat.zero_le _)⟩) hS (fun q _ h => hFc q h) hFc (fun r4 u3 t H1 locs ht hvm hw hB hz1 hk1 hS => ?_)
        obtain ⟨hP1, hK1, hD1⟩ := hB
        rw [ht] at hP1
        obtain ⟨hP, hD⟩ := va_join (wr := pickW (ceX2_readSum cyI cyB cyJ cyZ a0 a1 a2 a3 b0_seen g0_lines g2_size f3 g0_size f1 g2_here g2_behind g2_digits g2_value) [0, 1]) (w1 := (ceX2_partByWord cyI cyB cyJ cyZ a2 a3 g2_size g2_digits g2_value g2_here g2_behind f3)) hP hD [2, 3] [0, 1] rfl rfl (by decide) (by decide) hk1 hFc hP1 hD1
        have hP := hP.sub (ws' := (ceX2_readSum cyI cyB cyJ cyZ a0 a1 a2 a3 b0_seen g0_lines g2_size f3 g0_size f1 g2_here g2_behind g2_digits g2_value)) [0, 1, 2, 3] rfl
        have hD := hD.sub (ws' := (ceX2_readSum cyI cyB cyJ cyZ a0 a1 a2 a3 b0_seen g0_lines g2_size f3 g0_size f1 g2_here g2_behind g2_digits g2_value)) [0, 1, 2, 3] (by decide) rfl
        generalize H1 = H at hP hS ⊢
        exact bX2_readSum_29 C0 hK hN hA hXs hQ ih g0_size f1 g2_here g2_behind g2_digits g2_value x2 r4 hw _ _ hP hD hS ls (lv_sub hl [0, 1, 2] rfl)
      · have hw := hw.2 hc
        refine lv_aload_n hx hb dX2_readSum_18 rfl (lv_at hl 1 rfl) ?_
        refine va_getN (D := (dC, dI)) (ci := 8) (v := .int g2_value) (C := RX8) (T := TX8) (N := 6) hx hb hts inX2_readSum_X8 hown hK hP 2 rfl rfl 5 (by decide) (va_Nw.use rfl (hN _ (List.mem_of_getElem? (i := 2) rfl))) (fun _ h9 => h9) rfl dX2_readSum_19 ?_
        refine lv_goto (tgt := 29) hx hb dX2_readSum_22 (by decide) ?_
        exact bX2_readSum_29 C0 hK hN hA hXs hQ ih g0_size f1 g2_here g2_behind g2_digits g2_value x2 g2_value hw _ _ hP hD hS ls (lv_sub hl [0, 1, 2] rfl)
set_option maxRecDepth 100000 in
set_option maxHeartbeats 4000000 in
theorem ctX2_readSum (l : Launch) (dC : Nat → ClassId) (dI : Nat → Nat → Nat) (cyI cyB cyJ cyZ : ClassId) (sz : Nat) (a0 a1 a2 a3 b0_seen : Nat) (g0_lines : Int32) (g2_size : Int32) (f3 : Nat → Int32) (g0_size : Int32) (f1 : Nat → Int32) (g2_here : Int32) (g2_behind : Int32) (g2_digits : Int32) (g2_value : Int32) (post : Int32 → (Int32 × (Nat → Int32) × Int32 × Int32 × Int32 × Int32) → Prop) (adS : Nat → Nat) (hw : wpX2_readSum post g2_size f3 g0_size f1 g2_here g2_behind g2_digits g2_value ) : Met l yX2_readSum wsX2_readSum rmX2_readSum (va_Pc [.ref a0, .ref a2] (wPreX dC dI cyI cyB cyJ cyZ sz (ceX2_readSum cyI cyB cyJ cyZ a0 a1 a2 a3 b0_seen g0_lines g2_size f3 g0_size f1 g2_here g2_behind g2_digits g2_value) (txA adS))) (va_Qi post (fun u : Int32 × (Nat → Int32) × Int32 × Int32 × Int32 × Int32 => wAt dC dI cyI cyB cyJ cyZ (va_A (ceX2_readSum cyI cyB cyJ cyZ a0 a1 a2 a3 b0_seen g0_lines g2_size f3 g0_size f1 g2_here g2_behind g2_digits g2_value) sz) (ceX2_readSum cyI cyB cyJ cyZ a0 a1 a2 a3 b0_seen g0_lines g2_size f3 u.1 u.2.1 u.2.2.1 u.2.2.2.1 u.2.2.2.2.1 u.2.2.2.2.2)) (va_A (ceX2_readSum cyI cyB cyJ cyZ a0 a1 a2 a3 b0_seen g0_lines g2_size f3 g0_size f1 g2_here g2_behind g2_digits g2_value) sz)) 0 0 (va_A (ceX2_readSum cyI cyB cyJ cyZ a0 a1 a2 a3 b0_seen g0_lines g2_size f3 g0_size f1 g2_here g2_behind g2_digits g2_value) sz) := by
  refine Met.ofW (cc := cX2_readSum) (maxL := 4) (ret := (some .boolean)) (by decide) rfl ?_
  intro p e s m args below meth c s₁ B hml hv
  obtain ⟨rfl, ⟨hsz, hP, hK, hD0, hN⟩, hXs⟩ := hv
  have hx := B.exec
  have hb := B.bytes
  have hr := B.returns
  have hts := atoms_spec (ws := wsX2_readSum) B.pre
  have hown : s.vm.findClass RX2 = some m.cls := findClass_of_methodNamed B.named
  have hlocks := B.notSynchronized
  subst hsz
  have hD := hD0.self (sz := s.heap.size)
  generalize hAe : va_A (ceX2_readSum cyI cyB cyJ cyZ a0 a1 a2 a3 b0_seen g0_lines g2_size f3 g0_size f1 g2_here g2_behind g2_digits g2_value) s.heap.size = A at hD hXs ⊢
  have hA : ∀ q : Nat, s.heap.size ≤ q → A q := fun q h => by rw [← hAe]; exact Or.inr h
  have hS : va_S A s.heap s.heap [] := va_S.rf
  have C0 : cxM p s m meth c _ wsX2_readSum RX2 cX2_readSum 4 (some .boolean) := ⟨hx, hb, hr, hml, hown, hts, hlocks⟩
  have hl := lv_entry ([.ref a0, .ref a2]) (n := 4) (Nat.le_of_ble_eq_true rfl)
  rw [lg_entry_eq]
  generalize (lg_sl ([.ref a0, .ref a2]) ++ List.replicate (4 - (lg_sl ([.ref a0, .ref a2])).length) Slot.unset).toArray = ls at hl ⊢
  have hl : lv_has ls 4 [(0, .ref a0), (1, .ref a2)] := hl
  show W p l e rmX2_readSum s m _ below meth c _ _ _ _ _ _
  refine wq (fun Q hQ => ?_)
  refine lv_iconst (v := 0) hx hb dX2_readSum_0 (by decide) ?_
  refine lv_istore_n (lv' := [(2, .int 0), (0, .ref a0), (1, .ref a2)]) hx hb dX2_readSum_1 rfl hl (by decide) rfl (fun ls hl => ?_)
  obtain ⟨nn, hw⟩ := hw
  exact bX2_readSum_2 C0 hK hN hA hXs hQ nn g0_size f1 g2_here g2_behind g2_digits g2_value 0 hw _ _ hP hD hS ls (lv_sub hl [1, 2, 0] rfl)
/-! LeadPark$Law.readComparison (LLeadPark$Tape;)Z -/
abbrev ceX2_readComparison (cyI cyB cyJ cyZ : ClassId) (a0 a1 a2 a3 b0_seen : Nat) (g0_lines : Int32) (g2_size : Int32) (f3 : Nat → Int32) (g0_size : Int32) (f1 : Nat → Int32) (g2_here : Int32) (g2_behind : Int32) (g2_digits : Int32) (g2_value : Int32) : va_W := [(a0, .inr (2, [.ref a1, .ref b0_seen, .int g0_size, .int g0_lines])), (a1, .inl (cyI, 400, .inl f1)), (a2, .inr (8, [.ref a3, .int g2_size, .int g2_here, .int g2_behind, .int g2_digits, .int g2_value])), (a3, .inl (cyB, 400, .inl f3))]

abbrev rmX2_readComparison : Room := { frames := 7, cells := 0, slots := 0, locals := 150 }
set_option maxRecDepth 100000 in
set_option maxHeartbeats 4000000 in
theorem bX2_readComparison_64 {p : Program} {l : Launch} {e : Env} {s : State} {m : MethodId} {args : Array Value} {below : List Frame} {meth : Method} {c : Code} {dC : Nat → ClassId} {dI : Nat → Nat → Nat} {cyI cyB cyJ cyZ : ClassId} {A : Nat → Prop} {a0 a1 a2 a3 b0_seen : Nat} {g0_lines : Int32} {adS : Nat → Nat} (C0 : cxM p s m meth c args wsX2_readComparison RX2 cX2_readComparison 3 (some .boolean)) (hK : va_K (dC, dI) vwCl (tyA cyI cyB cyJ cyZ) s) (hN : nwA s) (hA : ∀ q : Nat, s.heap.size ≤ q → A q) (hXs : (txA adS) A s s.heap) {post : Int32 → (Int32 × (Nat → Int32) × Int32 × Int32 × Int32 × Int32) → Prop} {g2_size : Int32} {f3 : Nat → Int32} {Q : State → Prop} (hQ : Q = MQ below (va_Qi post (fun u : Int32 × (Nat → Int32) × Int32 × Int32 × Int32 × Int32 => wAt dC dI cyI cyB cyJ cyZ A (ceX2_readComparison cyI cyB cyJ cyZ a0 a1 a2 a3 b0_seen g0_lines g2_size f3 u.1 u.2.1 u.2.2.1 u.2.2.2.1 u.2.2.2.2.1 u.2.2.2.2.2)) A) args s 0 0 A) : ∀ (g0_size : Int32) (f1 : Nat → Int32) (g2_here : Int32) (g2_behind : Int32) (g2_digits : Int32) (g2_value : Int32) (s1 : Int32), wpX2_readComparison_64 post g2_size f3 g0_size f1 g2_here g2_behind g2_digits g2_value s1 → AtW p l e rmX2_readComparison s m args below meth c dC dI A Q 3 0 0 (ceX2_readComparison cyI cyB cyJ cyZ a0 a1 a2 a3 b0_seen g0_lines g2_size f3 g0_size f1 g2_here g2_behind g2_digits g2_value) [] 64 [.int s1, .ref a0] := by
  intro g0_size f1 g2_here g2_behind g2_digits g2_value s1 hw H locs hP hD hS ls hl
  have C1 := C0
  obtain ⟨hx, hb, hr, hml, hown, hts, hlocks⟩ := C1
  have hPc := hP.sub (ws' := (ceX2_give cyI cyB cyJ cyZ a0 a1 b0_seen g0_lines g0_size f1)) [0, 1] rfl
  have hDc := hD.sub (ws' := (ceX2_give cyI cyB cyJ cyZ a0 a1 b0_seen g0_lines g0_size f1)) [0, 1] (by decide) rfl
  have hFc := va_free (wc := (ceX2_give cyI cyB cyJ cyZ a0 a1 b0_seen g0_lines g0_size f1)) hD hS hA [0, 1] rfl
  refine va_callv (va_runV (As := [.int s1]) (rest := []) ⟨hx, hb, hml, hown, hts⟩ (ctX2_give l dC dI cyI cyB cyJ cyZ _ a0 a1 b0_seen g0_lines g0_size f1 s1 _ hw) (cwV 1 hts gX2_readComparison_X2_give rfl rfl rfl (by decide +kernel) ⟨Nat.le_of_ble_eq_true rfl, Nat.le_of_ble_eq_true rfl⟩) ⟨wPre_blind, va_recv hK hPc (ci := 2) (q0 := 0) rfl rfl, fun U hU hW => wPre_of hPc hK hDc hN hU hW⟩ rfl rfl hl.1 rfl (lv_room (Nat.le_of_ble_eq_true rfl)) dX2_readComparison_64 ⟨(Nat.zero_le _), (Nat.zero_le _)⟩) hS (fun q _ h => hFc q h) hFc (fun u1 t H1 locs ht hvm hw hB hz1 hk1 hS => ?_)
  obtain ⟨hP1, hK1, hD1⟩ := hB
  rw [ht] at hP1
  obtain ⟨hP, hD⟩ := va_join (wr := pickW (ceX2_readComparison cyI cyB cyJ cyZ a0 a1 a2 a3 b0_seen g0_lines g2_size f3 g0_size f1 g2_here g2_behind g2_digits g2_value) [2, 3]) (w1 := (ceX2_give cyI cyB cyJ cyZ a0 a1 b0_seen g0_lines u1.1 u1.2)) hP hD [0, 1] [2, 3] rfl rfl (by decide) (by decide) hk1 hFc hP1 hD1
  have hP := hP.sub (ws' := (ceX2_readComparison cyI cyB cyJ cyZ a0 a1 a2 a3 b0_seen g0_lines g2_size f3 u1.1 u1.2 g2_here g2_behind g2_digits g2_value)) [2, 3, 0, 1] rfl
  have hD := hD.sub (ws' := (ceX2_readComparison cyI cyB cyJ cyZ a0 a1 a2 a3 b0_seen g0_lines g2_size f3 u1.1 u1.2 g2_here g2_behind g2_digits g2_value)) [2, 3, 0, 1] (by decide) rfl
  generalize H1 = H at hP hS ⊢
  refine lv_iconst (v := 1) hx hb dX2_readComparison_67 (by decide) ?_
  rw [hQ]
  exact W.zret (v := 1) (ty := .boolean) hx hb hr rfl (fun t ht hW => ⟨⟨1, (u1.1, u1.2, g2_here, g2_behind, g2_digits, g2_value), rfl, hw, by rw [ht]; exact hP, va_K.moved hW.alike hK, hD⟩, hS.F ht⟩) hS.2.2 dX2_readComparison_68
set_option maxRecDepth 100000 in
set_option maxHeartbeats 4000000 in
theorem bX2_readComparison_32 {p : Program} {l : Launch} {e : Env} {s : State} {m : MethodId} {args : Array Value} {below : List Frame} {meth : Method} {c : Code} {dC : Nat → ClassId} {dI : Nat → Nat → Nat} {cyI cyB cyJ cyZ : ClassId} {A : Nat → Prop} {a0 a1 a2 a3 b0_seen : Nat} {g0_lines : Int32} {adS : Nat → Nat} (C0 : cxM p s m meth c args wsX2_readComparison RX2 cX2_readComparison 3 (some .boolean)) (hK : va_K (dC, dI) vwCl (tyA cyI cyB cyJ cyZ) s) (hN : nwA s) (hA : ∀ q : Nat, s.heap.size ≤ q → A q) (hXs : (txA adS) A s s.heap) {post : Int32 → (Int32 × (Nat → Int32) × Int32 × Int32 × Int32 × Int32) → Prop} {g2_size : Int32} {f3 : Nat → Int32} {Q : State → Prop} (hQ : Q = MQ below (va_Qi post (fun u : Int32 × (Nat → Int32) × Int32 × Int32 × Int32 × Int32 => wAt dC dI cyI cyB cyJ cyZ A (ceX2_readComparison cyI cyB cyJ cyZ a0 a1 a2 a3 b0_seen g0_lines g2_size f3 u.1 u.2.1 u.2.2.1 u.2.2.2.1 u.2.2.2.2.1 u.2.2.2.2.2)) A) args s 0 0 A) : ∀ (g0_size : Int32) (f1 : Nat → Int32) (g2_here : Int32) (g2_behind : Int32) (g2_digits : Int32) (g2_value : Int32) (x2 : Int32), wpX2_readComparison_32 post g2_size f3 g0_size f1 g2_here g2_behind g2_digits g2_value x2 → AtW p l e rmX2_readComparison s m args below meth c dC dI A Q 3 0 0 (ceX2_readComparison cyI cyB cyJ cyZ a0 a1 a2 a3 b0_seen g0_lines g2_size f3 g0_size f1 g2_here g2_behind g2_digits g2_value) [(0, .ref a0), (1, .ref a2), (2, .int x2)] 32 [] := by
  intro g0_size f1 g2_here g2_behind g2_digits g2_value x2 hw H locs hP hD hS ls hl
  have C1 := C0
  obtain ⟨hx, hb, hr, hml, hown, hts, hlocks⟩ := C1
  refine lv_aload_n hx hb dX2_readComparison_32 rfl (lv_at hl 0 rfl) ?_
  refine lv_bipush (v := (-8)) hx hb dX2_readComparison_33 (by decide) ?_
  have hPc := hP.sub (ws' := (ceX2_give cyI cyB cyJ cyZ a0 a1 b0_seen g0_lines g0_size f1)) [0, 1] rfl
  have hDc := hD.sub (ws' := (ceX2_give cyI cyB cyJ cyZ a0 a1 b0_seen g0_lines g0_size f1)) [0, 1] (by decide) rfl
  have hFc := va_free (wc := (ceX2_give cyI cyB cyJ cyZ a0 a1 b0_seen g0_lines g0_size f1)) hD hS hA [0, 1] rfl
  refine va_callv (va_runV (As := [.int (-8)]) (rest := []) ⟨hx, hb, hml, hown, hts⟩ (ctX2_give l dC dI cyI cyB cyJ cyZ _ a0 a1 b0_seen g0_lines g0_size f1 (-8) _ hw) (cwV 1 hts gX2_readComparison_X2_give rfl rfl rfl (by decide +kernel) ⟨Nat.le_of_ble_eq_true rfl, Nat.le_of_ble_eq_true rfl⟩) ⟨wPre_blind, va_recv hK hPc (ci := 2) (q0 := 0) rfl rfl, fun U hU hW => wPre_of hPc hK hDc hN hU hW⟩ rfl rfl hl.1 rfl (lv_room (Nat.le_of_ble_eq_true rfl)) dX2_readComparison_35 ⟨(Nat.zero_le _), (Nat.zero_le _)⟩) hS (fun q _ h => hFc q h) hFc (fun u1 t H1 locs ht hvm hw hB hz1 hk1 hS => ?_)
  obtain ⟨hP1, hK1, hD1⟩ := hB
  rw [ht] at hP1
  obtain ⟨hP, hD⟩ := va_join (wr := pickW (ceX2_readComparison cyI cyB cyJ cyZ a0 a1 a2 a3 b0_seen g0_lines g2_size f3 g0_size f1 g2_here g2_behind g2_digits g2_value) [2, 3]) (w1 := (ceX2_give cyI cyB cyJ cyZ a0 a1 b0_seen g0_lines u1.1 u1.2)) hP hD [0, 1] [2, 3] rfl rfl (by decide) (by decide) hk1 hFc hP1 hD1
  have hP := hP.sub (ws' := (ceX2_readComparison cyI cyB cyJ cyZ a0 a1 a2 a3 b0_seen g0_lines g2_size f3 u1.1 u1.2 g2_here g2_behind g2_digits g2_value)) [2, 3, 0, 1] rfl
  have hD := hD.sub (ws' := (ceX2_readComparison cyI cyB cyJ cyZ a0 a1 a2 a3 b0_seen g0_lines g2_size f3 u1.1 u1.2 g2_here g2_behind g2_digits g2_value)) [2, 3, 0, 1] (by decide) rfl
  generalize H1 = H at hP hS ⊢
  refine lv_aload_n hx hb dX2_readComparison_38 rfl (lv_at hl 1 rfl) ?_
  have hPc := hP.sub (ws' := (ceX8_toNext cyI cyB cyJ cyZ a2 a3 g2_size f3 g2_here g2_behind g2_digits g2_value)) [2, 3] rfl
  have hDc := hD.sub (ws' := (ceX8_toNext cyI cyB cyJ cyZ a2 a3 g2_size f3 g2_here g2_behind g2_digits g2_value)) [2, 3] (by decide) rfl
  have hFc := va_free (wc := (ceX8_toNext cyI cyB cyJ cyZ a2 a3 g2_size f3 g2_here g2_behind g2_digits g2_value)) hD hS hA [2, 3] rfl
  refine va_callv (va_runV (As := []) (rest := []) ⟨hx, hb, hml, hown, hts⟩ (ctX8_toNext l dC dI cyI cyB cyJ cyZ _ a2 a3 g2_size f3 g2_here g2_behind g2_digits g2_value _ hw) (cwV 0 hts gX2_readComparison_X8_toNext rfl rfl rfl (by decide +kernel) ⟨Nat.le_of_ble_eq_true rfl, Nat.le_of_ble_eq_true rfl⟩) ⟨wPre_blind, va_recv hK hPc (ci := 8) (q0 := 0) rfl rfl, fun U hU hW => wPre_of hPc hK hDc hN hU hW⟩ rfl rfl hl.1 rfl (lv_room (Nat.le_of_ble_eq_true rfl)) dX2_readComparison_39 ⟨(Nat.zero_le _), (Nat.zero_le _)⟩) hS (fun q _ h => hFc q h) hFc (fun u2 t H1 locs ht hvm hw hB hz1 hk1 hS => ?_)
  obtain ⟨hP1, hK1, hD1⟩ := hB
  rw [ht] at hP1
  obtain ⟨hP, hD⟩ := va_join (wr := pickW (ceX2_readComparison cyI cyB cyJ cyZ a0 a1 a2 a3 b0_seen g0_lines g2_size f3 u1.1 u1.2 g2_here g2_behind g2_digits g2_value) [0, 1]) (w1 := (ceX8_toNext cyI cyB cyJ cyZ a2 a3 g2_size f3 u2.1 u2.2.1 u2.2.2.1 u2.2.2.2)) hP hD [2, 3] [0, 1] rfl rfl (by decide) (by decide) hk1 hFc hP1 hD1
  have hP := hP.sub (ws' := (ceX2_readComparison cyI cyB cyJ cyZ a0 a1 a2 a3 b0_seen g0_lines g2_size f3 u1.1 u1.2 u2.1 u2.2.1 u2.2.2.1 u2.2.2.2)) [0, 1, 2, 3] rfl
  have hD := hD.sub (ws' := (ceX2_readComparison cyI cyB cyJ cyZ a0 a1 a2 a3 b0_seen g0_lines g2_size f3 u1.1 u1.2 u2.1 u2.2.1 u2.2.2.1 u2.2.2.2)) [0, 1, 2, 3] (by decide) rfl
  generalize H1 = H at hP hS ⊢
  refine lv_aload_n hx hb dX2_readComparison_42 rfl (lv_at hl 0 rfl) ?_
  refine lv_aload_n hx hb dX2_readComparison_43 rfl (lv_at hl 1 rfl) ?_
  have hPc := hP.sub (ws' := (ceX2_readSum cyI cyB cyJ cyZ a0 a1 a2 a3 b0_seen g0_lines g2_size f3 u1.1 u1.2 u2.1 u2.2.1 u2.2.2.1 u2.2.2.2)) [0, 1, 2, 3] rfl
  have hDc := hD.sub (ws' := (ceX2_readSum cyI cyB cyJ cyZ a0 a1 a2 a3 b0_seen g0_lines g2_size f3 u1.1 u1.2 u2.1 u2.2.1 u2.2.2.1 u2.2.2.2)) [0, 1, 2, 3] (by decide) rfl
  have hFc := va_free (wc := (ceX2_readSum cyI cyB cyJ cyZ a0 a1 a2 a3 b0_seen g0_lines g2_size f3 u1.1 u1.2 u2.1 u2.2.1 u2.2.2.1 u2.2.2.2)) hD hS hA [0, 1, 2, 3] rfl
  refine va_calli (va_runV (As := [.ref a2]) (rest := []) ⟨hx, hb, hml, hown, hts⟩ (ctX2_readSum l dC dI cyI cyB cyJ cyZ _ a0 a1 a2 a3 b0_seen g0_lines g2_size f3 u1.1 u1.2 u2.1 u2.2.1 u2.2.2.1 u2.2.2.2 _ adS hw) (cwV 1 hts gX2_readComparison_X2_readSum rfl rfl rfl (by decide +kernel) ⟨Nat.le_of_ble_eq_true rfl, Nat.le_of_ble_eq_true rfl⟩) ⟨wPreX_blind (xOk_txA adS), va_recv hK hPc (ci := 2) (q0 := 0) rfl rfl, fun U hU hW => wPreX_of (xOk_txA adS) hPc hK hDc hN hXs hS hFc hU hW⟩ rfl rfl hl.1 rfl (lv_room (Nat.le_of_ble_eq_true rfl)) dX2_readComparison_44 ⟨(Nat.zero_le _), (Nat.zero_le _)⟩) hS (fun q _ h => hFc q h) hFc (fun r4 u3 t H1 locs ht hvm hw hB hz1 hk1 hS => ?_)
  obtain ⟨hP1, hK1, hD1⟩ := hB
  rw [ht] at hP1
  obtain ⟨hP, hD⟩ := va_join (wr := pickW (ceX2_readComparison cyI cyB cyJ cyZ a0 a1 a2 a3 b0_seen g0_lines g2_size f3 u1.1 u1.2 u2.1 u2.2.1 u2.2.2.1 u2.2.2.2) []) (w1 := (ceX2_readSum cyI cyB cyJ cyZ a0 a1 a2 a3 b0_seen g0_lines g2_size f3 u3.1 u3.2.1 u3.2.2.1 u3.2.2.2.1 u3.2.2.2.2.1 u3.2.2.2.2.2)) hP hD [0, 1, 2, 3] [] rfl rfl (by decide) (by decide) hk1 hFc hP1 hD1
  have hP := hP.sub (ws' := (ceX2_readComparison cyI cyB cyJ cyZ a0 a1 a2 a3 b0_seen g0_lines g2_size f3 u3.1 u3.2.1 u3.2.2.1 u3.2.2.2.1 u3.2.2.2.2.1 u3.2.2.2.2.2)) [0, 1, 2, 3] rfl
  have hD := hD.sub (ws' := (ceX2_readComparison cyI cyB cyJ cyZ a0 a1 a2 a3 b0_seen g0_lines g2_size f3 u3.1 u3.2.1 u3.2.2.1 u3.2.2.2.1 u3.2.2.2.2.1 u3.2.2.2.2.2)) [0, 1, 2, 3] (by decide) rfl
  generalize H1 = H at hP hS ⊢
  refine lv_if_ne (tgt := 52) hx hb dX2_readComparison_47 (by decide) (fun hc => ?_) (fun hc => ?_)
  · have hw := hw.1 hc
    refine lv_aload_n hx hb dX2_readComparison_52 rfl (lv_at hl 0 rfl) ?_
    refine lv_iload_n hx hb dX2_readComparison_53 rfl (lv_at hl 2 rfl) ?_
    refine lv_if_eq (tgt := 62) hx hb dX2_readComparison_54 (by decide) (fun hc => ?_) (fun hc => ?_)
    · have hw := hw.1 hc
      refine lv_bipush (v := (-10)) hx hb dX2_readComparison_62 (by decide) ?_
      exact bX2_readComparison_64 C0 hK hN hA hXs hQ u3.1 u3.2.1 u3.2.2.1 u3.2.2.2.1 u3.2.2.2.2.1 u3.2.2.2.2.2 (-10) hw _ _ hP hD hS ls (lv_sub hl [] rfl)
    · have hw := hw.2 hc
      refine lv_bipush (v := (-9)) hx hb dX2_readComparison_57 (by decide) ?_
      refine lv_goto (tgt := 64) hx hb dX2_readComparison_59 (by decide) ?_
      exact bX2_readComparison_64 C0 hK hN hA hXs hQ u3.1 u3.2.1 u3.2.2.1 u3.2.2.2.1 u3.2.2.2.2.1 u3.2.2.2.2.2 (-9) hw _ _ hP hD hS ls (lv_sub hl [] rfl)
  · have hw := hw.2 hc
    refine lv_iconst (v := 0) hx hb dX2_readComparison_50 (by decide) ?_
    rw [hQ]
    exact W.zret (v := 0) (ty := .boolean) hx hb hr rfl (fun t ht hW => ⟨⟨0, (u3.1, u3.2.1, u3.2.2.1, u3.2.2.2.1, u3.2.2.2.2.1, u3.2.2.2.2.2), rfl, hw, by rw [ht]; exact hP, va_K.moved hW.alike hK, hD⟩, hS.F ht⟩) hS.2.2 dX2_readComparison_51
set_option maxRecDepth 100000 in
set_option maxHeartbeats 4000000 in
theorem ctX2_readComparison (l : Launch) (dC : Nat → ClassId) (dI : Nat → Nat → Nat) (cyI cyB cyJ cyZ : ClassId) (sz : Nat) (a0 a1 a2 a3 b0_seen : Nat) (g0_lines : Int32) (g2_size : Int32) (f3 : Nat → Int32) (g0_size : Int32) (f1 : Nat → Int32) (g2_here : Int32) (g2_behind : Int32) (g2_digits : Int32) (g2_value : Int32) (post : Int32 → (Int32 × (Nat → Int32) × Int32 × Int32 × Int32 × Int32) → Prop) (adS : Nat → Nat) (hw : wpX2_readComparison post g2_size f3 g0_size f1 g2_here g2_behind g2_digits g2_value ) : Met l yX2_readComparison wsX2_readComparison rmX2_readComparison (va_Pc [.ref a0, .ref a2] (wPreX dC dI cyI cyB cyJ cyZ sz (ceX2_readComparison cyI cyB cyJ cyZ a0 a1 a2 a3 b0_seen g0_lines g2_size f3 g0_size f1 g2_here g2_behind g2_digits g2_value) (txA adS))) (va_Qi post (fun u : Int32 × (Nat → Int32) × Int32 × Int32 × Int32 × Int32 => wAt dC dI cyI cyB cyJ cyZ (va_A (ceX2_readComparison cyI cyB cyJ cyZ a0 a1 a2 a3 b0_seen g0_lines g2_size f3 g0_size f1 g2_here g2_behind g2_digits g2_value) sz) (ceX2_readComparison cyI cyB cyJ cyZ a0 a1 a2 a3 b0_seen g0_lines g2_size f3 u.1 u.2.1 u.2.2.1 u.2.2.2.1 u.2.2.2.2.1 u.2.2.2.2.2)) (va_A (ceX2_readComparison cyI cyB cyJ cyZ a0 a1 a2 a3 b0_seen g0_lines g2_size f3 g0_size f1 g2_here g2_behind g2_digits g2_value) sz)) 0 0 (va_A (ceX2_readComparison cyI cyB cyJ cyZ a0 a1 a2 a3 b0_seen g0_lines g2_size f3 g0_size f1 g2_here g2_behind g2_digits g2_value) sz) := by
  refine Met.ofW (cc := cX2_readComparison) (maxL := 3) (ret := (some .boolean)) (by decide) rfl ?_
  intro p e s m args below meth c s₁ B hml hv
  obtain ⟨rfl, ⟨hsz, hP, hK, hD0, hN⟩, hXs⟩ := hv
  have hx := B.exec
  have hb := B.bytes
  have hr := B.returns
  have hts := atoms_spec (ws := wsX2_readComparison) B.pre
  have hown : s.vm.findClass RX2 = some m.cls := findClass_of_methodNamed B.named
  have hlocks := B.notSynchronized
  subst hsz
  have hD := hD0.self (sz := s.heap.size)
  generalize hAe : va_A (ceX2_readComparison cyI cyB cyJ cyZ a0 a1 a2 a3 b0_seen g0_lines g2_size f3 g0_size f1 g2_here g2_behind g2_digits g2_value) s.heap.size = A at hD hXs ⊢
  have hA : ∀ q : Nat, s.heap.size ≤ q → A q := fun q h => by rw [← hAe]; exact Or.inr h
  have hS : va_S A s.heap s.heap [] := va_S.rf
  have C0 : cxM p s m meth c _ wsX2_readComparison RX2 cX2_readComparison 3 (some .boolean) := ⟨hx, hb, hr, hml, hown, hts, hlocks⟩
  have hl := lv_entry ([.ref a0, .ref a2]) (n := 3) (Nat.le_of_ble_eq_true rfl)
  rw [lg_entry_eq]
  generalize (lg_sl ([.ref a0, .ref a2]) ++ List.replicate (3 - (lg_sl ([.ref a0, .ref a2])).length) Slot.unset).toArray = ls at hl ⊢
  have hl : lv_has ls 3 [(0, .ref a0), (1, .ref a2)] := hl
  show W p l e rmX2_readComparison s m _ below meth c _ _ _ _ _ _
  refine wq (fun Q hQ => ?_)
  refine lv_aload_n hx hb dX2_readComparison_0 rfl (lv_at hl 0 rfl) ?_
  refine lv_aload_n hx hb dX2_readComparison_1 rfl (lv_at hl 1 rfl) ?_
  have hPc := hP.sub (ws' := (ceX2_readSum cyI cyB cyJ cyZ a0 a1 a2 a3 b0_seen g0_lines g2_size f3 g0_size f1 g2_here g2_behind g2_digits g2_value)) [0, 1, 2, 3] rfl
  have hDc := hD.sub (ws' := (ceX2_readSum cyI cyB cyJ cyZ a0 a1 a2 a3 b0_seen g0_lines g2_size f3 g0_size f1 g2_here g2_behind g2_digits g2_value)) [0, 1, 2, 3] (by decide) rfl
  have hFc := va_free (wc := (ceX2_readSum cyI cyB cyJ cyZ a0 a1 a2 a3 b0_seen g0_lines g2_size f3 g0_size f1 g2_here g2_behind g2_digits g2_value)) hD hS hA [0, 1, 2, 3] rfl
  refine va_calli (va_runV (As := [.ref a2]) (rest := []) ⟨hx, hb, hml, hown, hts⟩ (ctX2_readSum l dC dI cyI cyB cyJ cyZ _ a0 a1 a2 a3 b0_seen g0_lines g2_size f3 g0_size f1 g2_here g2_behind g2_digits g2_value _ adS hw) (cwV 1 hts gX2_readComparison_X2_readSum rfl rfl rfl (by decide +kernel) ⟨Nat.le_of_ble_eq_true rfl, Nat.le_of_ble_eq_true rfl⟩) ⟨wPreX_blind (xOk_txA adS), va_recv hK hPc (ci := 2) (q0 := 0) rfl rfl, fun U hU hW => wPreX_of (xOk_txA adS) hPc hK hDc hN hXs hS hFc hU hW⟩ rfl rfl hl.1 rfl (lv_room (Nat.le_of_ble_eq_true rfl)) dX2_readComparison_2 ⟨(Nat.zero_le _), (Nat.zero_le _)⟩) hS (fun q _ h => hFc q h) hFc (fun r2 u1 t H1 locs ht hvm hw hB hz1 hk1 hS => ?_)
  obtain ⟨hP1, hK1, hD1⟩ := hB
  rw [ht] at hP1
  obtain ⟨hP, hD⟩ := va_join (wr := pickW (ceX2_readComparison cyI cyB cyJ cyZ a0 a1 a2 a3 b0_seen g0_lines g2_size f3 g0_size f1 g2_here g2_behind g2_digits g2_value) []) (w1 := (ceX2_readSum cyI cyB cyJ cyZ a0 a1 a2 a3 b0_seen g0_lines g2_size f3 u1.1 u1.2.1 u1.2.2.1 u1.2.2.2.1 u1.2.2.2.2.1 u1.2.2.2.2.2)) hP hD [0, 1, 2, 3] [] rfl rfl (by decide) (by decide) hk1 hFc hP1 hD1
  have hP := hP.sub (ws' := (ceX2_readComparison cyI cyB cyJ cyZ a0 a1 a2 a3 b0_seen g0_lines g2_size f3 u1.1 u1.2.1 u1.2.2.1 u1.2.2.2.1 u1.2.2.2.2.1 u1.2.2.2.2.2)) [0, 1, 2, 3] rfl
  have hD := hD.sub (ws' := (ceX2_readComparison cyI cyB cyJ cyZ a0 a1 a2 a3 b0_seen g0_lines g2_size f3 u1.1 u1.2.1 u1.2.2.1 u1.2.2.2.1 u1.2.2.2.2.1 u1.2.2.2.2.2)) [0, 1, 2, 3] (by decide) rfl
  generalize H1 = H at hP hS ⊢
  refine lv_if_ne (tgt := 10) hx hb dX2_readComparison_5 (by decide) (fun hc => ?_) (fun hc => ?_)
  · have hw := hw.1 hc
    refine lv_aload_n hx hb dX2_readComparison_10 rfl (lv_at hl 1 rfl) ?_
    refine lv_bipush (v := 60) hx hb dX2_readComparison_11 (by decide) ?_
    have hPc := hP.sub (ws' := (ceX8_isSign cyI cyB cyJ cyZ a2 a3 u1.2.2.2.1 u1.2.2.2.2.1 u1.2.2.2.2.2 g2_size u1.2.2.1 f3)) [2, 3] rfl
    have hDc := hD.sub (ws' := (ceX8_isSign cyI cyB cyJ cyZ a2 a3 u1.2.2.2.1 u1.2.2.2.2.1 u1.2.2.2.2.2 g2_size u1.2.2.1 f3)) [2, 3] (by decide) rfl
    have hFc := va_free (wc := (ceX8_isSign cyI cyB cyJ cyZ a2 a3 u1.2.2.2.1 u1.2.2.2.2.1 u1.2.2.2.2.2 g2_size u1.2.2.1 f3)) hD hS hA [2, 3] rfl
    refine va_calli (va_runV (As := [.int 60]) (rest := []) ⟨hx, hb, hml, hown, hts⟩ (ctX8_isSign l dC dI cyI cyB cyJ cyZ _ a2 a3 u1.2.2.2.1 u1.2.2.2.2.1 u1.2.2.2.2.2 g2_size u1.2.2.1 f3 60 _ hw) (cwV 1 hts gX2_readComparison_X8_isSign rfl rfl rfl (by decide +kernel) ⟨Nat.le_of_ble_eq_true rfl, Nat.le_of_ble_eq_true rfl⟩) ⟨wPre_blind, va_recv hK hPc (ci := 8) (q0 := 0) rfl rfl, fun U hU hW => wPre_of hPc hK hDc hN hU hW⟩ rfl rfl hl.1 rfl (lv_room (Nat.le_of_ble_eq_true rfl)) dX2_readComparison_13 ⟨(Nat.zero_le _), (Nat.zero_le _)⟩) hS (fun q _ h => hFc q h) hFc (fun r4 u3 t H1 locs ht hvm hw hB hz1 hk1 hS => ?_)
    obtain ⟨hP1, hK1, hD1⟩ := hB
    rw [ht] at hP1
    obtain ⟨hP, hD⟩ := va_join (wr := pickW (ceX2_readComparison cyI cyB cyJ cyZ a0 a1 a2 a3 b0_seen g0_lines g2_size f3 u1.1 u1.2.1 u1.2.2.1 u1.2.2.2.1 u1.2.2.2.2.1 u1.2.2.2.2.2) [0, 1]) (w1 := (ceX8_isSign cyI cyB cyJ cyZ a2 a3 u1.2.2.2.1 u1.2.2.2.2.1 u1.2.2.2.2.2 g2_size u1.2.2.1 f3)) hP hD [2, 3] [0, 1] rfl rfl (by decide) (by decide) hk1 hFc hP1 hD1
    have hP := hP.sub (ws' := (ceX2_readComparison cyI cyB cyJ cyZ a0 a1 a2 a3 b0_seen g0_lines g2_size f3 u1.1 u1.2.1 u1.2.2.1 u1.2.2.2.1 u1.2.2.2.2.1 u1.2.2.2.2.2)) [0, 1, 2, 3] rfl
    have hD := hD.sub (ws' := (ceX2_readComparison cyI cyB cyJ cyZ a0 a1 a2 a3 b0_seen g0_lines g2_size f3 u1.1 u1.2.1 u1.2.2.1 u1.2.2.2.1 u1.2.2.2.2.1 u1.2.2.2.2.2)) [0, 1, 2, 3] (by decide) rfl
    generalize H1 = H at hP hS ⊢
    refine lv_istore_n (lv' := [(2, .int r4), (0, .ref a0), (1, .ref a2)]) hx hb dX2_readComparison_16 rfl hl (by decide) rfl (fun ls hl => ?_)
    refine lv_iload_n hx hb dX2_readComparison_17 rfl (lv_at hl 0 rfl) ?_
    refine lv_if_ne (tgt := 32) hx hb dX2_readComparison_18 (by decide) (fun hc => ?_) (fun hc => ?_)
    · have hw := hw.1 hc
      exact bX2_readComparison_32 C0 hK hN hA hXs hQ u1.1 u1.2.1 u1.2.2.1 u1.2.2.2.1 u1.2.2.2.2.1 u1.2.2.2.2.2 r4 hw _ _ hP hD hS ls (lv_sub hl [1, 2, 0] rfl)
    · have hw := hw.2 hc
      refine lv_aload_n hx hb dX2_readComparison_21 rfl (lv_at hl 2 rfl) ?_
      refine lv_bipush (v := 62) hx hb dX2_readComparison_22 (by decide) ?_
      have hPc := hP.sub (ws' := (ceX8_isSign cyI cyB cyJ cyZ a2 a3 u1.2.2.2.1 u1.2.2.2.2.1 u1.2.2.2.2.2 g2_size u1.2.2.1 f3)) [2, 3] rfl
      have hDc := hD.sub (ws' := (ceX8_isSign cyI cyB cyJ cyZ a2 a3 u1.2.2.2.1 u1.2.2.2.2.1 u1.2.2.2.2.2 g2_size u1.2.2.1 f3)) [2, 3] (by decide) rfl
      have hFc := va_free (wc := (ceX8_isSign cyI cyB cyJ cyZ a2 a3 u1.2.2.2.1 u1.2.2.2.2.1 u1.2.2.2.2.2 g2_size u1.2.2.1 f3)) hD hS hA [2, 3] rfl
      refine va_calli (va_runV (As := [.int 62]) (rest := []) ⟨hx, hb, hml, hown, hts⟩ (ctX8_isSign l dC dI cyI cyB cyJ cyZ _ a2 a3 u1.2.2.2.1 u1.2.2.2.2.1 u1.2.2.2.2.2 g2_size u1.2.2.1 f3 62 _ hw) (cwV 1 hts gX2_readComparison_X8_isSign rfl rfl rfl (by decide +kernel) ⟨Nat.le_of_ble_eq_true rfl, Nat.le_of_ble_eq_true rfl⟩) ⟨wPre_blind, va_recv hK hPc (ci := 8) (q0 := 0) rfl rfl, fun U hU hW => wPre_of hPc hK hDc hN hU hW⟩ rfl rfl hl.1 rfl (lv_room (Nat.le_of_ble_eq_true rfl)) dX2_readComparison_24 ⟨(Nat.zero_le _), (Nat.zero_le _)⟩) hS (fun q _ h => hFc q h) hFc (fun r6 u5 t H1 locs ht hvm hw hB hz1 hk1 hS => ?_)
      obtain ⟨hP1, hK1, hD1⟩ := hB
      rw [ht] at hP1
      obtain ⟨hP, hD⟩ := va_join (wr := pickW (ceX2_readComparison cyI cyB cyJ cyZ a0 a1 a2 a3 b0_seen g0_lines g2_size f3 u1.1 u1.2.1 u1.2.2.1 u1.2.2.2.1 u1.2.2.2.2.1 u1.2.2.2.2.2) [0, 1]) (w1 := (ceX8_isSign cyI cyB cyJ cyZ a2 a3 u1.2.2.2.1 u1.2.2.2.2.1 u1.2.2.2.2.2 g2_size u1.2.2.1 f3)) hP hD [2, 3] [0, 1] rfl rfl (by decide) (by decide) hk1 hFc hP1 hD1
      have hP := hP.sub (ws' := (ceX2_readComparison cyI cyB cyJ cyZ a0 a1 a2 a3 b0_seen g0_lines g2_size f3 u1.1 u1.2.1 u1.2.2.1 u1.2.2.2.1 u1.2.2.2.2.1 u1.2.2.2.2.2)) [0, 1, 2, 3] rfl
      have hD := hD.sub (ws' := (ceX2_readComparison cyI cyB cyJ cyZ a0 a1 a2 a3 b0_seen g0_lines g2_size f3 u1.1 u1.2.1 u1.2.2.1 u1.2.2.2.1 u1.2.2.2.2.1 u1.2.2.2.2.2)) [0, 1, 2, 3] (by decide) rfl
      generalize H1 = H at hP hS ⊢
      refine lv_if_ne (tgt := 32) hx hb dX2_readComparison_27 (by decide) (fun hc => ?_) (fun hc => ?_)
      · have hw := hw.1 hc
        exact bX2_readComparison_32 C0 hK hN hA hXs hQ u1.1 u1.2.1 u1.2.2.1 u1.2.2.2.1 u1.2.2.2.2.1 u1.2.2.2.2.2 r4 hw _ _ hP hD hS ls (lv_sub hl [1, 2, 0] rfl)
      · have hw := hw.2 hc
        refine lv_iconst (v := 0) hx hb dX2_readComparison_30 (by decide) ?_
        rw [hQ]
        exact W.zret (v := 0) (ty := .boolean) hx hb hr rfl (fun t ht hW => ⟨⟨0, (u1.1, u1.2.1, u1.2.2.1, u1.2.2.2.1, u1.2.2.2.2.1, u1.2.2.2.2.2), rfl, hw, by rw [ht]; exact hP, va_K.moved hW.alike hK, hD⟩, hS.F ht⟩) hS.2.2 dX2_readComparison_31
  · have hw := hw.2 hc
    refine lv_iconst (v := 0) hx hb dX2_readComparison_8 (by decide) ?_
    rw [hQ]
    exact W.zret (v := 0) (ty := .boolean) hx hb hr rfl (fun t ht hW => ⟨⟨0, (u1.1, u1.2.1, u1.2.2.1, u1.2.2.2.1, u1.2.2.2.2.1, u1.2.2.2.2.2), rfl, hw, by rw [ht]; exact hP, va_K.moved hW.alike hK, hD⟩, hS.F ht⟩) hS.2.2 dX2_readComparison_9
abbrev rmX2R (n : Nat) : Room := { frames := 8 + n, cells := 0, slots := 0, locals := 172 + 25 * n }
abbrev ceX2_readCondition (cyI cyB cyJ cyZ : ClassId) (a0 a1 a2 a3 b0_seen : Nat) (g0_lines : Int32) (g2_size : Int32) (f3 : Nat → Int32) (g0_size : Int32) (f1 : Nat → Int32) (g2_here : Int32) (g2_behind : Int32) (g2_digits : Int32) (g2_value : Int32) : va_W := [(a0, .inr (2, [.ref a1, .ref b0_seen, .int g0_size, .int g0_lines])), (a1, .inl (cyI, 400, .inl f1)), (a2, .inr (8, [.ref a3, .int g2_size, .int g2_here, .int g2_behind, .int g2_digits, .int g2_value])), (a3, .inl (cyB, 400, .inl f3))]
def hyX2R (l : Launch) (dC : Nat → ClassId) (dI : Nat → Nat → Nat) (cyI cyB cyJ cyZ : ClassId) (kr : (Int32 → (Int32 × (Nat → Int32) × Int32 × Int32 × Int32 × Int32) → Prop) → Int32 → (Nat → Int32) → Int32 → (Nat → Int32) → Int32 → Int32 → Int32 → Int32 → Int32 → Prop) (y : MethodName) (ws : List Cond) (rm : Room) : Prop :=
  ∀ (sz : Nat) (a0 a1 a2 a3 b0_seen : Nat) (g0_lines : Int32) (g2_size : Int32) (f3 : Nat → Int32) (g0_size : Int32) (f1 : Nat → Int32) (g2_here : Int32) (g2_behind : Int32) (g2_digits : Int32) (g2_value : Int32) (p1 : Int32) (post : Int32 → (Int32 × (Nat → Int32) × Int32 × Int32 × Int32 × Int32) → Prop) (adS : Nat → Nat), kr post g2_size f3 g0_size f1 g2_here g2_behind g2_digits g2_value p1 → Met l y ws rm (va_Pc [.ref a0, .ref a2, .int p1] (wPreX dC dI cyI cyB cyJ cyZ sz (ceX2_readCondition cyI cyB cyJ cyZ a0 a1 a2 a3 b0_seen g0_lines g2_size f3 g0_size f1 g2_here g2_behind g2_digits g2_value) (txA adS))) (va_Qi post (fun u : Int32 × (Nat → Int32) × Int32 × Int32 × Int32 × Int32 => wAt dC dI cyI cyB cyJ cyZ (va_A (ceX2_readCondition cyI cyB cyJ cyZ a0 a1 a2 a3 b0_seen g0_lines g2_size f3 g0_size f1 g2_here g2_behind g2_digits g2_value) sz) (ceX2_readCondition cyI cyB cyJ cyZ a0 a1 a2 a3 b0_seen g0_lines g2_size f3 u.1 u.2.1 u.2.2.1 u.2.2.2.1 u.2.2.2.2.1 u.2.2.2.2.2)) (va_A (ceX2_readCondition cyI cyB cyJ cyZ a0 a1 a2 a3 b0_seen g0_lines g2_size f3 g0_size f1 g2_here g2_behind g2_digits g2_value) sz)) 0 0 (va_A (ceX2_readCondition cyI cyB cyJ cyZ a0 a1 a2 a3 b0_seen g0_lines g2_size f3 g0_size f1 g2_here g2_behind g2_digits g2_value) sz)
/-! LeadPark$Law.readCondition (LLeadPark$Tape;I)Z -/
set_option maxRecDepth 100000 in
set_option maxHeartbeats 4000000 in
theorem bX2_readCondition_74 {p : Program} {l : Launch} {e : Env} {s : State} {m : MethodId} {args : Array Value} {below : List Frame} {meth : Method} {c : Code} {dC : Nat → ClassId} {dI : Nat → Nat → Nat} {cyI cyB cyJ cyZ : ClassId} {A : Nat → Prop} {a0 a1 a2 a3 b0_seen : Nat} {g0_lines : Int32} {adS : Nat → Nat} (C0 : cxM p s m meth c args wsX2_readCondition RX2 cX2_readCondition 6 (some .boolean)) (hK : va_K (dC, dI) vwCl (tyA cyI cyB cyJ cyZ) s) (hN : nwA s) (hA : ∀ q : Nat, s.heap.size ≤ q → A q) (hXs : (txA adS) A s s.heap) {nR : Nat} {kR0 : (Int32 → (Int32 × (Nat → Int32) × Int32 × Int32 × Int32 × Int32) → Prop) → Int32 → (Nat → Int32) → Int32 → (Nat → Int32) → Int32 → Int32 → Int32 → Int32 → Int32 → Prop} {kR1 : (Int32 → (Int32 × (Nat → Int32) × Int32 × Int32 × Int32 × Int32) → Prop) → Int32 → (Nat → Int32) → Int32 → (Nat → Int32) → Int32 → Int32 → Int32 → Int32 → Int32 → Prop} (hR0 : hyX2R l dC dI cyI cyB cyJ cyZ kR0 yX2_readCondition wsX2_readCondition (rmX2R nR)) (hR1 : hyX2R l dC dI cyI cyB cyJ cyZ kR1 yX2_readAtom wsX2_readAtom (rmX2R nR)) {post : Int32 → (Int32 × (Nat → Int32) × Int32 × Int32 × Int32 × Int32) → Prop} {g2_size : Int32} {f3 : Nat → Int32} {k8 : Int32 → (Nat → Int32) → Int32 → Int32 → Int32 → Int32 → Int32 → Int32 → Int32 → Int32 → Prop} {Q : State → Prop} (hQ : Q = MQ below (va_Qi post (fun u : Int32 × (Nat → Int32) × Int32 × Int32 × Int32 × Int32 => wAt dC dI cyI cyB cyJ cyZ A (ceX2_readCondition cyI cyB cyJ cyZ a0 a1 a2 a3 b0_seen g0_lines g2_size f3 u.1 u.2.1 u.2.2.1 u.2.2.2.1 u.2.2.2.2.1 u.2.2.2.2.2)) A) args s 0 0 A) (hk8 : ∀ (g0_size : Int32) (f1 : Nat → Int32) (g2_here : Int32) (g2_behind : Int32) (g2_digits : Int32) (g2_value : Int32) (x2 : Int32) (x3 : Int32) (x4 : Int32) (x5 : Int32), k8 g0_size f1 g2_here g2_behind g2_digits g2_value x2 x3 x4 x5 → AtW p l e (rmX2R (nR + 1)) s m args below meth c dC dI A Q 6 0 0 (ceX2_readCondition cyI cyB cyJ cyZ a0 a1 a2 a3 b0_seen g0_lines g2_size f3 g0_size f1 g2_here g2_behind g2_digits g2_value) [(0, .ref a0), (1, .ref a2), (2, .int x2), (3, .int x3), (4, .int x4), (5, .int x5)] 8 []) : ∀ (g0_size : Int32) (f1 : Nat → Int32) (g2_here : Int32) (g2_behind : Int32) (g2_digits : Int32) (g2_value : Int32) (x2 : Int32) (x3 : Int32) (x4 : Int32) (x5 : Int32), wpX2_readCondition_74 kR0 kR1 k8 post g2_size f3 g0_size f1 g2_here g2_behind g2_digits g2_value x2 x3 x4 x5 → AtW p l e (rmX2R (nR + 1)) s m args below meth c dC dI A Q 6 0 0 (ceX2_readCondition cyI cyB cyJ cyZ a0 a1 a2 a3 b0_seen g0_lines g2_size f3 g0_size f1 g2_here g2_behind g2_digits g2_value) [(0, .ref a0), (1, .ref a2), (2, .int x2), (3, .int x3), (4, .int x4), (5, .int x5)] 74 [] := by
  intro g0_size f1 g2_here g2_behind g2_digits g2_value x2 x3 x4 x5 hw H locs hP hD hS ls hl
  have C1 := C0
  obtain ⟨hx, hb, hr, hml, hown, hts, hlocks⟩ := C1
  refine lv_aload_n hx hb dX2_readCondition_74 rfl (lv_at hl 1 rfl) ?_
  have hPc := hP.sub (ws' := (ceX8_toNext cyI cyB cyJ cyZ a2 a3 g2_size f3 g2_here g2_behind g2_digits g2_value)) [2, 3] rfl
  have hDc := hD.sub (ws' := (ceX8_toNext cyI cyB cyJ cyZ a2 a3 g2_size f3 g2_here g2_behind g2_digits g2_value)) [2, 3] (by decide) rfl
  have hFc := va_free (wc := (ceX8_toNext cyI cyB cyJ cyZ a2 a3 g2_size f3 g2_here g2_behind g2_digits g2_value)) hD hS hA [2, 3] rfl
  refine va_callv (va_runV (As := []) (rest := []) ⟨hx, hb, hml, hown, hts⟩ (ctX8_toNext l dC dI cyI cyB cyJ cyZ _ a2 a3 g2_size f3 g2_here g2_behind g2_digits g2_value _ hw) (cwV 0 hts gX2_readCondition_X8_toNext rfl rfl rfl (by decide +kernel) ⟨(by simp <;> omega), (by simp <;> omega)⟩) ⟨wPre_blind, va_recv hK hPc (ci := 8) (q0 := 0) rfl rfl, fun U hU hW => wPre_of hPc hK hDc hN hU hW⟩ rfl rfl hl.1 rfl (lv_room (Nat.le_of_ble_eq_true rfl)) dX2_readCondition_75 ⟨(Nat.zero_le _), (Nat.zero_le _)⟩) hS (fun q _ h => hFc q h) hFc (fun u1 t H1 locs ht hvm hw hB hz1 hk1 hS => ?_)
  obtain ⟨hP1, hK1, hD1⟩ := hB
  rw [ht] at hP1
  obtain ⟨hP, hD⟩ := va_join (wr := pickW (ceX2_readCondition cyI cyB cyJ cyZ a0 a1 a2 a3 b0_seen g0_lines g2_size f3 g0_size f1 g2_here g2_behind g2_digits g2_value) [0, 1]) (w1 := (ceX8_toNext cyI cyB cyJ cyZ a2 a3 g2_size f3 u1.1 u1.2.1 u1.2.2.1 u1.2.2.2)) hP hD [2, 3] [0, 1] rfl rfl (by decide) (by decide) hk1 hFc hP1 hD1
  have hP := hP.sub (ws' := (ceX2_readCondition cyI cyB cyJ cyZ a0 a1 a2 a3 b0_seen g0_lines g2_size f3 g0_size f1 u1.1 u1.2.1 u1.2.2.1 u1.2.2.2)) [0, 1, 2, 3] rfl
  have hD := hD.sub (ws' := (ceX2_readCondition cyI cyB cyJ cyZ a0 a1 a2 a3 b0_seen g0_lines g2_size f3 g0_size f1 u1.1 u1.2.1 u1.2.2.1 u1.2.2.2)) [0, 1, 2, 3] (by decide) rfl
  generalize H1 = H at hP hS ⊢
  obtain ⟨v2, ev2⟩ : ∃ y : Int32, y = x5 + 1 := ⟨_, rfl⟩
  have hw := hw v2 ev2
  refine lv_iinc (v := v2) (lv' := [(5, .int v2), (0, .ref a0), (1, .ref a2), (2, .int x2), (3, .int x3), (4, .int x4)]) hx hb dX2_readCondition_78 hl (k := 5) rfl (by rw [ev2]; rfl) (by decide) rfl (fun ls hl => ?_)
  refine lv_goto (tgt := 8) hx hb dX2_readCondition_81 (by decide) ?_
  exact hk8 g0_size f1 u1.1 u1.2.1 u1.2.2.1 u1.2.2.2 x2 x3 x4 v2 hw H locs hP hD hS ls (lv_sub hl [1, 2, 3, 4, 5, 0] rfl)
set_option maxRecDepth 100000 in
set_option maxHeartbeats 4000000 in
theorem bX2_readCondition_59 {p : Program} {l : Launch} {e : Env} {s : State} {m : MethodId} {args : Array Value} {below : List Frame} {meth : Method} {c : Code} {dC : Nat → ClassId} {dI : Nat → Nat → Nat} {cyI cyB cyJ cyZ : ClassId} {A : Nat → Prop} {a0 a1 a2 a3 b0_seen : Nat} {g0_lines : Int32} {adS : Nat → Nat} (C0 : cxM p s m meth c args wsX2_readCondition RX2 cX2_readCondition 6 (some .boolean)) (hK : va_K (dC, dI) vwCl (tyA cyI cyB cyJ cyZ) s) (hN : nwA s) (hA : ∀ q : Nat, s.heap.size ≤ q → A q) (hXs : (txA adS) A s s.heap) {nR : Nat} {kR0 : (Int32 → (Int32 × (Nat → Int32) × Int32 × Int32 × Int32 × Int32) → Prop) → Int32 → (Nat → Int32) → Int32 → (Nat → Int32) → Int32 → Int32 → Int32 → Int32 → Int32 → Prop} {kR1 : (Int32 → (Int32 × (Nat → Int32) × Int32 × Int32 × Int32 × Int32) → Prop) → Int32 → (Nat → Int32) → Int32 → (Nat → Int32) → Int32 → Int32 → Int32 → Int32 → Int32 → Prop} (hR0 : hyX2R l dC dI cyI cyB cyJ cyZ kR0 yX2_readCondition wsX2_readCondition (rmX2R nR)) (hR1 : hyX2R l dC dI cyI cyB cyJ cyZ kR1 yX2_readAtom wsX2_readAtom (rmX2R nR)) {post : Int32 → (Int32 × (Nat → Int32) × Int32 × Int32 × Int32 × Int32) → Prop} {g2_size : Int32} {f3 : Nat → Int32} {k8 : Int32 → (Nat → Int32) → Int32 → Int32 → Int32 → Int32 → Int32 → Int32 → Int32 → Int32 → Prop} {Q : State → Prop} (hQ : Q = MQ below (va_Qi post (fun u : Int32 × (Nat → Int32) × Int32 × Int32 × Int32 × Int32 => wAt dC dI cyI cyB cyJ cyZ A (ceX2_readCondition cyI cyB cyJ cyZ a0 a1 a2 a3 b0_seen g0_lines g2_size f3 u.1 u.2.1 u.2.2.1 u.2.2.2.1 u.2.2.2.2.1 u.2.2.2.2.2)) A) args s 0 0 A) (hk8 : ∀ (g0_size : Int32) (f1 : Nat → Int32) (g2_here : Int32) (g2_behind : Int32) (g2_digits : Int32) (g2_value : Int32) (x2 : Int32) (x3 : Int32) (x4 : Int32) (x5 : Int32), k8 g0_size f1 g2_here g2_behind g2_digits g2_value x2 x3 x4 x5 → AtW p l e (rmX2R (nR + 1)) s m args below meth c dC dI A Q 6 0 0 (ceX2_readCondition cyI cyB cyJ cyZ a0 a1 a2 a3 b0_seen g0_lines g2_size f3 g0_size f1 g2_here g2_behind g2_digits g2_value) [(0, .ref a0), (1, .ref a2), (2, .int x2), (3, .int x3), (4, .int x4), (5, .int x5)] 8 []) : ∀ (g0_size : Int32) (f1 : Nat → Int32) (g2_here : Int32) (g2_behind : Int32) (g2_digits : Int32) (g2_value : Int32) (x2 : Int32) (x3 : Int32) (x5 : Int32), wpX2_readCondition_59 kR0 kR1 k8 post g2_size f3 g0_size f1 g2_here g2_behind g2_digits g2_value x2 x3 x5 → AtW p l e (rmX2R (nR + 1)) s m args below meth c dC dI A Q 6 0 0 (ceX2_readCondition cyI cyB cyJ cyZ a0 a1 a2 a3 b0_seen g0_lines g2_size f3 g0_size f1 g2_here g2_behind g2_digits g2_value) [(0, .ref a0), (1, .ref a2), (2, .int x2), (3, .int x3), (5, .int x5)] 59 [] := by
  intro g0_size f1 g2_here g2_behind g2_digits g2_value x2 x3 x5 hw H locs hP hD hS ls hl
  have C1 := C0
  obtain ⟨hx, hb, hr, hml, hown, hts, hlocks⟩ := C1
  refine lv_aload_n hx hb dX2_readCondition_59 rfl (lv_at hl 1 rfl) ?_
  refine va_ldcS hx hb hown (hXs.2 6 _ rfl).1 dX2_readCondition_60 ?_
  have hPc := hP.sub (ws' := (ceX8_isWord cyI cyB cyJ cyZ a2 a3 g2_size g2_digits g2_value g2_here g2_behind f3)) [2, 3] rfl
  have hDc := hD.sub (ws' := (ceX8_isWord cyI cyB cyJ cyZ a2 a3 g2_size g2_digits g2_value g2_here g2_behind f3)) [2, 3] (by decide) rfl
  have hFc := va_free (wc := (ceX8_isWord cyI cyB cyJ cyZ a2 a3 g2_size g2_digits g2_value g2_here g2_behind f3)) hD hS hA [2, 3] rfl
  refine va_calli (va_runV (As := [.ref (adS 6)]) (rest := []) ⟨hx, hb, hml, hown, hts⟩ (ctX8_isWord l dC dI cyI cyB cyJ cyZ _ a2 a3 g2_size g2_digits g2_value g2_here g2_behind f3 _ [111, 114] (adS 6) hw) (cwV 1 hts gX2_readCondition_X8_isWord rfl rfl rfl (by decide +kernel) ⟨(by simp <;> omega), (by simp <;> omega)⟩) ⟨wPreX_blind (xOk_txS [111, 114] (adS 6)), va_recv hK hPc (ci := 8) (q0 := 0) rfl rfl, fun U hU hW => wPreX_of (xOk_txS [111, 114] (adS 6)) hPc hK hDc hN ⟨hXs.1, (hXs.2 6 _ rfl).2⟩ hS hFc hU hW⟩ rfl rfl hl.1 rfl (lv_room (Nat.le_of_ble_eq_true rfl)) dX2_readCondition_62 ⟨(Nat.zero_le _), (Nat.zero_le _)⟩) hS (fun q _ h => hFc q h) hFc (fun r2 u1 t H1 locs ht hvm hw hB hz1 hk1 hS => ?_)
  obtain ⟨hP1, hK1, hD1⟩ := hB
  rw [ht] at hP1
  obtain ⟨hP, hD⟩ := va_join (wr := pickW (ceX2_readCondition cyI cyB cyJ cyZ a0 a1 a2 a3 b0_seen g0_lines g2_size f3 g0_size f1 g2_here g2_behind g2_digits g2_value) [0, 1]) (w1 := (ceX8_isWord cyI cyB cyJ cyZ a2 a3 g2_size g2_digits g2_value g2_here g2_behind f3)) hP hD [2, 3] [0, 1] rfl rfl (by decide) (by decide) hk1 hFc hP1 hD1
  have hP := hP.sub (ws' := (ceX2_readCondition cyI cyB cyJ cyZ a0 a1 a2 a3 b0_seen g0_lines g2_size f3 g0_size f1 g2_here g2_behind g2_digits g2_value)) [0, 1, 2, 3] rfl
  have hD := hD.sub (ws' := (ceX2_readCondition cyI cyB cyJ cyZ a0 a1 a2 a3 b0_seen g0_lines g2_size f3 g0_size f1 g2_here g2_behind g2_digits g2_value)) [0, 1, 2, 3] (by decide) rfl
  generalize H1 = H at hP hS ⊢
  refine lv_istore (lv' := [(4, .int r2), (0, .ref a0), (1, .ref a2), (2, .int x2), (3, .int x3), (5, .int x5)]) hx hb dX2_readCondition_65 hl (by decide) rfl (fun ls hl => ?_)
  refine lv_iload hx hb dX2_readCondition_67 (lv_at hl 0 rfl) ?_
  refine lv_if_ne (tgt := 74) hx hb dX2_readCondition_69 (by decide) (fun hc => ?_) (fun hc => ?_)
  · have hw := hw.1 hc
    exact bX2_readCondition_74 C0 hK hN hA hXs hR0 hR1 hQ hk8 g0_size f1 g2_here g2_behind g2_digits g2_value x2 x3 r2 x5 hw _ _ hP hD hS ls (lv_sub hl [1, 2, 3, 4, 0, 5] rfl)
  · have hw := hw.2 hc
    refine lv_iconst (v := 1) hx hb dX2_readCondition_72 (by decide) ?_
    rw [hQ]
    exact W.zret (v := 1) (ty := .boolean) hx hb hr rfl (fun t ht hW => ⟨⟨1, (g0_size, f1, g2_here, g2_behind, g2_digits, g2_value), rfl, hw, by rw [ht]; exact hP, va_K.moved hW.alike hK, hD⟩, hS.F ht⟩) hS.2.2 dX2_readCondition_73
set_option maxRecDepth 100000 in
set_option maxHeartbeats 4000000 in
theorem bX2_readCondition_37 {p : Program} {l : Launch} {e : Env} {s : State} {m : MethodId} {args : Array Value} {below : List Frame} {meth : Method} {c : Code} {dC : Nat → ClassId} {dI : Nat → Nat → Nat} {cyI cyB cyJ cyZ : ClassId} {A : Nat → Prop} {a0 a1 a2 a3 b0_seen : Nat} {g0_lines : Int32} {adS : Nat → Nat} (C0 : cxM p s m meth c args wsX2_readCondition RX2 cX2_readCondition 6 (some .boolean)) (hK : va_K (dC, dI) vwCl (tyA cyI cyB cyJ cyZ) s) (hN : nwA s) (hA : ∀ q : Nat, s.heap.size ≤ q → A q) (hXs : (txA adS) A s s.heap) {nR : Nat} {kR0 : (Int32 → (Int32 × (Nat → Int32) × Int32 × Int32 × Int32 × Int32) → Prop) → Int32 → (Nat → Int32) → Int32 → (Nat → Int32) → Int32 → Int32 → Int32 → Int32 → Int32 → Prop} {kR1 : (Int32 → (Int32 × (Nat → Int32) × Int32 × Int32 × Int32 × Int32) → Prop) → Int32 → (Nat → Int32) → Int32 → (Nat → Int32) → Int32 → Int32 → Int32 → Int32 → Int32 → Prop} (hR0 : hyX2R l dC dI cyI cyB cyJ cyZ kR0 yX2_readCondition wsX2_readCondition (rmX2R nR)) (hR1 : hyX2R l dC dI cyI cyB cyJ cyZ kR1 yX2_readAtom wsX2_readAtom (rmX2R nR)) {post : Int32 → (Int32 × (Nat → Int32) × Int32 × Int32 × Int32 × Int32) → Prop} {g2_size : Int32} {f3 : Nat → Int32} {k8 : Int32 → (Nat → Int32) → Int32 → Int32 → Int32 → Int32 → Int32 → Int32 → Int32 → Int32 → Prop} {Q : State → Prop} (hQ : Q = MQ below (va_Qi post (fun u : Int32 × (Nat → Int32) × Int32 × Int32 × Int32 × Int32 => wAt dC dI cyI cyB cyJ cyZ A (ceX2_readCondition cyI cyB cyJ cyZ a0 a1 a2 a3 b0_seen g0_lines g2_size f3 u.1 u.2.1 u.2.2.1 u.2.2.2.1 u.2.2.2.2.1 u.2.2.2.2.2)) A) args s 0 0 A) (hk8 : ∀ (g0_size : Int32) (f1 : Nat → Int32) (g2_here : Int32) (g2_behind : Int32) (g2_digits : Int32) (g2_value : Int32) (x2 : Int32) (x3 : Int32) (x4 : Int32) (x5 : Int32), k8 g0_size f1 g2_here g2_behind g2_digits g2_value x2 x3 x4 x5 → AtW p l e (rmX2R (nR + 1)) s m args below meth c dC dI A Q 6 0 0 (ceX2_readCondition cyI cyB cyJ cyZ a0 a1 a2 a3 b0_seen g0_lines g2_size f3 g0_size f1 g2_here g2_behind g2_digits g2_value) [(0, .ref a0), (1, .ref a2), (2, .int x2), (3, .int x3), (4, .int x4), (5, .int x5)] 8 []) : ∀ (g0_size : Int32) (f1 : Nat → Int32) (g2_here : Int32) (g2_behind : Int32) (g2_digits : Int32) (g2_value : Int32) (x2 : Int32) (x4 : Int32) (x5 : Int32), wpX2_readCondition_37 kR0 kR1 k8 post g2_size f3 g0_size f1 g2_here g2_behind g2_digits g2_value x2 x4 x5 → AtW p l e (rmX2R (nR + 1)) s m args below meth c dC dI A Q 6 0 0 (ceX2_readCondition cyI cyB cyJ cyZ a0 a1 a2 a3 b0_seen g0_lines g2_size f3 g0_size f1 g2_here g2_behind g2_digits g2_value) [(0, .ref a0), (1, .ref a2), (2, .int x2), (4, .int x4), (5, .int x5)] 37 [] := by
  intro g0_size f1 g2_here g2_behind g2_digits g2_value x2 x4 x5 hw H locs hP hD hS ls hl
  have C1 := C0
  obtain ⟨hx, hb, hr, hml, hown, hts, hlocks⟩ := C1
  refine lv_aload_n hx hb dX2_readCondition_37 rfl (lv_at hl 1 rfl) ?_
  refine va_ldcS hx hb hown (hXs.2 5 _ rfl).1 dX2_readCondition_38 ?_
  have hPc := hP.sub (ws' := (ceX8_isWord cyI cyB cyJ cyZ a2 a3 g2_size g2_digits g2_value g2_here g2_behind f3)) [2, 3] rfl
  have hDc := hD.sub (ws' := (ceX8_isWord cyI cyB cyJ cyZ a2 a3 g2_size g2_digits g2_value g2_here g2_behind f3)) [2, 3] (by decide) rfl
  have hFc := va_free (wc := (ceX8_isWord cyI cyB cyJ cyZ a2 a3 g2_size g2_digits g2_value g2_here g2_behind f3)) hD hS hA [2, 3] rfl
  refine va_calli (va_runV (As := [.ref (adS 5)]) (rest := []) ⟨hx, hb, hml, hown, hts⟩ (ctX8_isWord l dC dI cyI cyB cyJ cyZ _ a2 a3 g2_size g2_digits g2_value g2_here g2_behind f3 _ [97, 110, 100] (adS 5) hw) (cwV 1 hts gX2_readCondition_X8_isWord rfl rfl rfl (by decide +kernel) ⟨(by simp <;> omega), (by simp <;> omega)⟩) ⟨wPreX_blind (xOk_txS [97, 110, 100] (adS 5)), va_recv hK hPc (ci := 8) (q0 := 0) rfl rfl, fun U hU hW => wPreX_of (xOk_txS [97, 110, 100] (adS 5)) hPc hK hDc hN ⟨hXs.1, (hXs.2 5 _ rfl).2⟩ hS hFc hU hW⟩ rfl rfl hl.1 rfl (lv_room (Nat.le_of_ble_eq_true rfl)) dX2_readCondition_40 ⟨(Nat.zero_le _), (Nat.zero_le _)⟩) hS (fun q _ h => hFc q h) hFc (fun r2 u1 t H1 locs ht hvm hw hB hz1 hk1 hS => ?_)
  obtain ⟨hP1, hK1, hD1⟩ := hB
  rw [ht] at hP1
  obtain ⟨hP, hD⟩ := va_join (wr := pickW (ceX2_readCondition cyI cyB cyJ cyZ a0 a1 a2 a3 b0_seen g0_lines g2_size f3 g0_size f1 g2_here g2_behind g2_digits g2_value) [0, 1]) (w1 := (ceX8_isWord cyI cyB cyJ cyZ a2 a3 g2_size g2_digits g2_value g2_here g2_behind f3)) hP hD [2, 3] [0, 1] rfl rfl (by decide) (by decide) hk1 hFc hP1 hD1
  have hP := hP.sub (ws' := (ceX2_readCondition cyI cyB cyJ cyZ a0 a1 a2 a3 b0_seen g0_lines g2_size f3 g0_size f1 g2_here g2_behind g2_digits g2_value)) [0, 1, 2, 3] rfl
  have hD := hD.sub (ws' := (ceX2_readCondition cyI cyB cyJ cyZ a0 a1 a2 a3 b0_seen g0_lines g2_size f3 g0_size f1 g2_here g2_behind g2_digits g2_value)) [0, 1, 2, 3] (by decide) rfl
  generalize H1 = H at hP hS ⊢
  refine lv_istore_n (lv' := [(3, .int r2), (0, .ref a0), (1, .ref a2), (2, .int x2), (4, .int x4), (5, .int x5)]) hx hb dX2_readCondition_43 rfl hl (by decide) rfl (fun ls hl => ?_)
  refine lv_iload_n hx hb dX2_readCondition_44 rfl (lv_at hl 0 rfl) ?_
  refine lv_if_ne (tgt := 74) hx hb dX2_readCondition_45 (by decide) (fun hc => ?_) (fun hc => ?_)
  · have hw := hw.1 hc
    exact bX2_readCondition_74 C0 hK hN hA hXs hR0 hR1 hQ hk8 g0_size f1 g2_here g2_behind g2_digits g2_value x2 r2 x4 x5 hw _ _ hP hD hS ls (lv_sub hl [1, 2, 3, 0, 4, 5] rfl)
  · have hw := hw.2 hc
    refine lv_iload hx hb dX2_readCondition_48 (lv_at hl 4 rfl) ?_
    refine lv_if_eq (tgt := 59) hx hb dX2_readCondition_50 (by decide) (fun hc => ?_) (fun hc => ?_)
    · have hw := hw.1 hc
      exact bX2_readCondition_59 C0 hK hN hA hXs hR0 hR1 hQ hk8 g0_size f1 g2_here g2_behind g2_digits g2_value x2 r2 x5 hw _ _ hP hD hS ls (lv_sub hl [1, 2, 3, 0, 5] rfl)
    · have hw := hw.2 hc
      refine lv_aload_n hx hb dX2_readCondition_53 rfl (lv_at hl 1 rfl) ?_
      refine lv_bipush (v := (-13)) hx hb dX2_readCondition_54 (by decide) ?_
      have hPc := hP.sub (ws' := (ceX2_give cyI cyB cyJ cyZ a0 a1 b0_seen g0_lines g0_size f1)) [0, 1] rfl
      have hDc := hD.sub (ws' := (ceX2_give cyI cyB cyJ cyZ a0 a1 b0_seen g0_lines g0_size f1)) [0, 1] (by decide) rfl
      have hFc := va_free (wc := (ceX2_give cyI cyB cyJ cyZ a0 a1 b0_seen g0_lines g0_size f1)) hD hS hA [0, 1] rfl
      refine va_callv (va_runV (As := [.int (-13)]) (rest := []) ⟨hx, hb, hml, hown, hts⟩ (ctX2_give l dC dI cyI cyB cyJ cyZ _ a0 a1 b0_seen g0_lines g0_size f1 (-13) _ hw) (cwV 1 hts gX2_readCondition_X2_give rfl rfl rfl (by decide +kernel) ⟨(by simp <;> omega), (by simp <;> omega)⟩) ⟨wPre_blind, va_recv hK hPc (ci := 2) (q0 := 0) rfl rfl, fun U hU hW => wPre_of hPc hK hDc hN hU hW⟩ rfl rfl hl.1 rfl (lv_room (Nat.le_of_ble_eq_true rfl)) dX2_readCondition_56 ⟨(Nat.zero_le _), (Nat.zero_le _)⟩) hS (fun q _ h => hFc q h) hFc (fun u3 t H1 locs ht hvm hw hB hz1 hk1 hS => ?_)
      obtain ⟨hP1, hK1, hD1⟩ := hB
      rw [ht] at hP1
      obtain ⟨hP, hD⟩ := va_join (wr := pickW (ceX2_readCondition cyI cyB cyJ cyZ a0 a1 a2 a3 b0_seen g0_lines g2_size f3 g0_size f1 g2_here g2_behind g2_digits g2_value) [2, 3]) (w1 := (ceX2_give cyI cyB cyJ cyZ a0 a1 b0_seen g0_lines u3.1 u3.2)) hP hD [0, 1] [2, 3] rfl rfl (by decide) (by decide) hk1 hFc hP1 hD1
      have hP := hP.sub (ws' := (ceX2_readCondition cyI cyB cyJ cyZ a0 a1 a2 a3 b0_seen g0_lines g2_size f3 u3.1 u3.2 g2_here g2_behind g2_digits g2_value)) [2, 3, 0, 1] rfl
      have hD := hD.sub (ws' := (ceX2_readCondition cyI cyB cyJ cyZ a0 a1 a2 a3 b0_seen g0_lines g2_size f3 u3.1 u3.2 g2_here g2_behind g2_digits g2_value)) [2, 3, 0, 1] (by decide) rfl
      generalize H1 = H at hP hS ⊢
      exact bX2_readCondition_59 C0 hK hN hA hXs hR0 hR1 hQ hk8 u3.1 u3.2 g2_here g2_behind g2_digits g2_value x2 r2 x5 hw _ _ hP hD hS ls (lv_sub hl [1, 2, 3, 0, 5] rfl)
set_option maxRecDepth 100000 in
set_option maxHeartbeats 4000000 in
theorem bX2_readCondition_8 {p : Program} {l : Launch} {e : Env} {s : State} {m : MethodId} {args : Array Value} {below : List Frame} {meth : Method} {c : Code} {dC : Nat → ClassId} {dI : Nat → Nat → Nat} {cyI cyB cyJ cyZ : ClassId} {A : Nat → Prop} {a0 a1 a2 a3 b0_seen : Nat} {g0_lines : Int32} {adS : Nat → Nat} (C0 : cxM p s m meth c args wsX2_readCondition RX2 cX2_readCondition 6 (some .boolean)) (hK : va_K (dC, dI) vwCl (tyA cyI cyB cyJ cyZ) s) (hN : nwA s) (hA : ∀ q : Nat, s.heap.size ≤ q → A q) (hXs : (txA adS) A s s.heap) {nR : Nat} {kR0 : (Int32 → (Int32 × (Nat → Int32) × Int32 × Int32 × Int32 × Int32) → Prop) → Int32 → (Nat → Int32) → Int32 → (Nat → Int32) → Int32 → Int32 → Int32 → Int32 → Int32 → Prop} {kR1 : (Int32 → (Int32 × (Nat → Int32) × Int32 × Int32 × Int32 × Int32) → Prop) → Int32 → (Nat → Int32) → Int32 → (Nat → Int32) → Int32 → Int32 → Int32 → Int32 → Int32 → Prop} (hR0 : hyX2R l dC dI cyI cyB cyJ cyZ kR0 yX2_readCondition wsX2_readCondition (rmX2R nR)) (hR1 : hyX2R l dC dI cyI cyB cyJ cyZ kR1 yX2_readAtom wsX2_readAtom (rmX2R nR)) {post : Int32 → (Int32 × (Nat → Int32) × Int32 × Int32 × Int32 × Int32) → Prop} {g2_size : Int32} {f3 : Nat → Int32} {Q : State → Prop} (hQ : Q = MQ below (va_Qi post (fun u : Int32 × (Nat → Int32) × Int32 × Int32 × Int32 × Int32 => wAt dC dI cyI cyB cyJ cyZ A (ceX2_readCondition cyI cyB cyJ cyZ a0 a1 a2 a3 b0_seen g0_lines g2_size f3 u.1 u.2.1 u.2.2.1 u.2.2.2.1 u.2.2.2.2.1 u.2.2.2.2.2)) A) args s 0 0 A) : ∀ (n : Nat) (g0_size : Int32) (f1 : Nat → Int32) (g2_here : Int32) (g2_behind : Int32) (g2_digits : Int32) (g2_value : Int32) (x2 : Int32) (x3 : Int32) (x4 : Int32) (x5 : Int32), wpX2_readCondition_8 kR0 kR1 post g2_size f3 n g0_size f1 g2_here g2_behind g2_digits g2_value x2 x3 x4 x5 → AtW p l e (rmX2R (nR + 1)) s m args below meth c dC dI A Q 6 0 0 (ceX2_readCondition cyI cyB cyJ cyZ a0 a1 a2 a3 b0_seen g0_lines g2_size f3 g0_size f1 g2_here g2_behind g2_digits g2_value) [(0, .ref a0), (1, .ref a2), (2, .int x2), (3, .int x3), (4, .int x4), (5, .int x5)] 8 [] := by
  intro n
  induction n with
  | zero => intro g0_size f1 g2_here g2_behind g2_digits g2_value x2 x3 x4 x5 hw; exact False.elim hw
  | succ n ih =>
    intro g0_size f1 g2_here g2_behind g2_digits g2_value x2 x3 x4 x5 hw H locs hP hD hS ls hl
    have C1 := C0
    obtain ⟨hx, hb, hr, hml, hown, hts, hlocks⟩ := C1
    refine lv_iload hx hb dX2_readCondition_8 (lv_at hl 5 rfl) ?_
    refine lv_sipush (v := 400) hx hb dX2_readCondition_10 (by decide) ?_
    refine lv_icmp_ge (tgt := 84) hx hb dX2_readCondition_13 (by decide) (fun hc => ?_) (fun hc => ?_)
    · have hw := hw.1 hc
      refine lv_iconst (v := 0) hx hb dX2_readCondition_84 (by decide) ?_
      rw [hQ]
      exact W.zret (v := 0) (ty := .boolean) hx hb hr rfl (fun t ht hW => ⟨⟨0, (g0_size, f1, g2_here, g2_behind, g2_digits, g2_value), rfl, hw, by rw [ht]; exact hP, va_K.moved hW.alike hK, hD⟩, hS.F ht⟩) hS.2.2 dX2_readCondition_85
    · have hw := hw.2 hc
      refine lv_aload_n hx hb dX2_readCondition_16 rfl (lv_at hl 0 rfl) ?_
      refine lv_aload_n hx hb dX2_readCondition_17 rfl (lv_at hl 1 rfl) ?_
      refine lv_iload_n hx hb dX2_readCondition_18 rfl (lv_at hl 2 rfl) ?_
      have hPc := hP.sub (ws' := (ceX2_readCondition cyI cyB cyJ cyZ a0 a1 a2 a3 b0_seen g0_lines g2_size f3 g0_size f1 g2_here g2_behind g2_digits g2_value)) [0, 1, 2, 3] rfl
      have hDc := hD.sub (ws' := (ceX2_readCondition cyI cyB cyJ cyZ a0 a1 a2 a3 b0_seen g0_lines g2_size f3 g0_size f1 g2_here g2_behind g2_digits g2_value)) [0, 1, 2, 3] (by decide) rfl
      have hFc := va_free (wc := (ceX2_readCondition cyI cyB cyJ cyZ a0 a1 a2 a3 b0_seen g0_lines g2_size f3 g0_size f1 g2_here g2_behind g2_digits g2_value)) hD hS hA [0, 1, 2, 3] rfl
      refine va_calli (va_runV (As := [.ref a2, .int x2]) (rest := []) ⟨hx, hb, hml, hown, hts⟩ (hR1 _ a0 a1 a2 a3 b0_seen g0_lines g2_size f3 g0_size f1 g2_here g2_behind g2_digits g2_value x2 _ adS hw) (cwV 2 hts gX2_readCondition_X2_readAtom rfl rfl rfl (by decide +kernel) ⟨(by simp <;> omega), (by simp <;> omega)⟩) ⟨wPreX_blind (xOk_txA adS), va_recv hK hPc (ci := 2) (q0 := 0) rfl rfl, fun U hU hW => wPreX_of (xOk_txA adS) hPc hK hDc hN hXs hS hFc hU hW⟩ rfl rfl hl.1 rfl (lv_room (Nat.le_of_ble_eq_true rfl)) dX2_readCondition_19 ⟨(Nat.zero_le _), (Nat.zero_le _)⟩) hS (fun q _ h => hFc q h) hFc (fun r2 u1 t H1 locs ht hvm hw hB hz1 hk1 hS => ?_)
      obtain ⟨hP1, hK1, hD1⟩ := hB
      rw [ht] at hP1
      obtain ⟨hP, hD⟩ := va_join (wr := pickW (ceX2_readCondition cyI cyB cyJ cyZ a0 a1 a2 a3 b0_seen g0_lines g2_size f3 g0_size f1 g2_here g2_behind g2_digits g2_value) []) (w1 := (ceX2_readCondition cyI cyB cyJ cyZ a0 a1 a2 a3 b0_seen g0_lines g2_size f3 u1.1 u1.2.1 u1.2.2.1 u1.2.2.2.1 u1.2.2.2.2.1 u1.2.2.2.2.2)) hP hD [0, 1, 2, 3] [] rfl rfl (by decide) (by decide) hk1 hFc hP1 hD1
      have hP := hP.sub (ws' := (ceX2_readCondition cyI cyB cyJ cyZ a0 a1 a2 a3 b0_seen g0_lines g2_size f3 u1.1 u1.2.1 u1.2.2.1 u1.2.2.2.1 u1.2.2.2.2.1 u1.2.2.2.2.2)) [0, 1, 2, 3] rfl
      have hD := hD.sub (ws' := (ceX2_readCondition cyI cyB cyJ cyZ a0 a1 a2 a3 b0_seen g0_lines g2_size f3 u1.1 u1.2.1 u1.2.2.1 u1.2.2.2.1 u1.2.2.2.2.1 u1.2.2.2.2.2)) [0, 1, 2, 3] (by decide) rfl
      generalize H1 = H at hP hS ⊢
      refine lv_if_ne (tgt := 27) hx hb dX2_readCondition_22 (by decide) (fun hc => ?_) (fun hc => ?_)
      · have hw := hw.1 hc
        refine lv_iload_n hx hb dX2_readCondition_27 rfl (lv_at hl 3 rfl) ?_
        refine lv_if_eq (tgt := 37) hx hb dX2_readCondition_28 (by decide) (fun hc => ?_) (fun hc => ?_)
        · have hw := hw.1 hc
          exact bX2_readCondition_37 C0 hK hN hA hXs hR0 hR1 hQ ih u1.1 u1.2.1 u1.2.2.1 u1.2.2.2.1 u1.2.2.2.2.1 u1.2.2.2.2.2 x2 x4 x5 hw _ _ hP hD hS ls (lv_sub hl [0, 1, 2, 4, 5] rfl)
        · have hw := hw.2 hc
          refine lv_aload_n hx hb dX2_readCondition_31 rfl (lv_at hl 0 rfl) ?_
          refine lv_bipush (v := (-12)) hx hb dX2_readCondition_32 (by decide) ?_
          have hPc := hP.sub (ws' := (ceX2_give cyI cyB cyJ cyZ a0 a1 b0_seen g0_lines u1.1 u1.2.1)) [0, 1] rfl
          have hDc := hD.sub (ws' := (ceX2_give cyI cyB cyJ cyZ a0 a1 b0_seen g0_lines u1.1 u1.2.1)) [0, 1] (by decide) rfl
          have hFc := va_free (wc := (ceX2_give cyI cyB cyJ cyZ a0 a1 b0_seen g0_lines u1.1 u1.2.1)) hD hS hA [0, 1] rfl
          refine va_callv (va_runV (As := [.int (-12)]) (rest := []) ⟨hx, hb, hml, hown, hts⟩ (ctX2_give l dC dI cyI cyB cyJ cyZ _ a0 a1 b0_seen g0_lines u1.1 u1.2.1 (-12) _ hw) (cwV 1 hts gX2_readCondition_X2_give rfl rfl rfl (by decide +kernel) ⟨(by simp <;> omega), (by simp <;> omega)⟩) ⟨wPre_blind, va_recv hK hPc (ci := 2) (q0 := 0) rfl rfl, fun U hU hW => wPre_of hPc hK hDc hN hU hW⟩ rfl rfl hl.1 rfl (lv_room (Nat.le_of_ble_eq_true rfl)) dX2_readCondition_34 ⟨(Nat.zero_le _), (Nat.zero_le _)⟩) hS (fun q _ h => hFc q h) hFc (fun u3 t H1 locs ht hvm hw hB hz1 hk1 hS => ?_)
          obtain ⟨hP1, hK1, hD1⟩ := hB
          rw [ht] at hP1
          obtain ⟨hP, hD⟩ := va_join (wr := pickW (ceX2_readCondition cyI cyB cyJ cyZ a0 a1 a2 a3 b0_seen g0_lines g2_size f3 u1.1 u1.2.1 u1.2.2.1 u1.2.2.2.1 u1.2.2.2.2.1 u1.2.2.2.2.2) [2, 3]) (w1 := (ceX2_give cyI cyB cyJ cyZ a0 a1 b0_seen g0_lines u3.1 u3.2)) hP hD [0, 1] [2, 3] rfl rfl (by decide) (by decide) hk1 hFc hP1 hD1
          have hP := hP.sub (ws' := (ceX2_readCondition cyI cyB cyJ cyZ a0 a1 a2 a3 b0_seen g0_lines g2_size f3 u3.1 u3.2 u1.2.2.1 u1.2.2.2.1 u1.2.2.2.2.1 u1.2.2.2.2.2)) [2, 3, 0, 1] rfl
          have hD := hD.sub (ws' := (ceX2_readCondition cyI cyB cyJ cyZ a0 a1 a2 a3 b0_seen g0_lines g2_size f3 u3.1 u3.2 u1.2.2.1 u1.2.2.2.1 u1.2.2.2.2.1 u1.2.2.2.2.2)) [2, 3, 0, 1] (by decide) rfl
          generalize H1 = H at hP hS ⊢
          exact bX2_readCondition_37 C0 hK hN hA hXs hR0 hR1 hQ ih u3.1 u3.2 u1.2.2.1 u1.2.2.2.1 u1.2.2.2.2.1 u1.2.2.2.2.2 x2 x4 x5 hw _ _ hP hD hS ls (lv_sub hl [0, 1, 2, 4, 5] rfl)
      · have hw := hw.2 hc
        refine lv_iconst (v := 0) hx hb dX2_readCondition_25 (by decide) ?_
        rw [hQ]
        exact W.zret (v := 0) (ty := .boolean) hx hb hr rfl (fun t ht hW => ⟨⟨0, (u1.1, u1.2.1, u1.2.2.1, u1.2.2.2.1, u1.2.2.2.2.1, u1.2.2.2.2.2), rfl, hw, by rw [ht]; exact hP, va_K.moved hW.alike hK, hD⟩, hS.F ht⟩) hS.2.2 dX2_readCondition_26
set_option maxRecDepth 100000 in
set_option maxHeartbeats 4000000 in
theorem ctX2_readCondition_of (l : Launch) (dC : Nat → ClassId) (dI : Nat → Nat → Nat) (cyI cyB cyJ cyZ : ClassId) (sz : Nat) (a0 a1 a2 a3 b0_seen : Nat) (g0_lines : Int32) (g2_size : Int32) (f3 : Nat → Int32) (g0_size : Int32) (f1 : Nat → Int32) (g2_here : Int32) (g2_behind : Int32) (g2_digits : Int32) (g2_value : Int32) (p1 : Int32) (post : Int32 → (Int32 × (Nat → Int32) × Int32 × Int32 × Int32 × Int32) → Prop) (adS : Nat → Nat) {nR : Nat} {kR0 : (Int32 → (Int32 × (Nat → Int32) × Int32 × Int32 × Int32 × Int32) → Prop) → Int32 → (Nat → Int32) → Int32 → (Nat → Int32) → Int32 → Int32 → Int32 → Int32 → Int32 → Prop} {kR1 : (Int32 → (Int32 × (Nat → Int32) × Int32 × Int32 × Int32 × Int32) → Prop) → Int32 → (Nat → Int32) → Int32 → (Nat → Int32) → Int32 → Int32 → Int32 → Int32 → Int32 → Prop} (hR0 : hyX2R l dC dI cyI cyB cyJ cyZ kR0 yX2_readCondition wsX2_readCondition (rmX2R nR)) (hR1 : hyX2R l dC dI cyI cyB cyJ cyZ kR1 yX2_readAtom wsX2_readAtom (rmX2R nR)) (hw : wpX2_readCondition kR0 kR1 post g2_size f3 g0_size f1 g2_here g2_behind g2_digits g2_value p1) : Met l yX2_readCondition wsX2_readCondition (rmX2R (nR + 1)) (va_Pc [.ref a0, .ref a2, .int p1] (wPreX dC dI cyI cyB cyJ cyZ sz (ceX2_readCondition cyI cyB cyJ cyZ a0 a1 a2 a3 b0_seen g0_lines g2_size f3 g0_size f1 g2_here g2_behind g2_digits g2_value) (txA adS))) (va_Qi post (fun u : Int32 × (Nat → Int32) × Int32 × Int32 × Int32 × Int32 => wAt dC dI cyI cyB cyJ cyZ (va_A (ceX2_readCondition cyI cyB cyJ cyZ a0 a1 a2 a3 b0_seen g0_lines g2_size f3 g0_size f1 g2_here g2_behind g2_digits g2_value) sz) (ceX2_readCondition cyI cyB cyJ cyZ a0 a1 a2 a3 b0_seen g0_lines g2_size f3 u.1 u.2.1 u.2.2.1 u.2.2.2.1 u.2.2.2.2.1 u.2.2.2.2.2)) (va_A (ceX2_readCondition cyI cyB cyJ cyZ a0 a1 a2 a3 b0_seen g0_lines g2_size f3 g0_size f1 g2_here g2_behind g2_digits g2_value) sz)) 0 0 (va_A (ceX2_readCondition cyI cyB cyJ cyZ a0 a1 a2 a3 b0_seen g0_lines g2_size f3 g0_size f1 g2_here g2_behind g2_digits g2_value) sz) := by
  refine Met.ofW (cc := cX2_readCondition) (maxL := 6) (ret := (some .boolean)) (by decide) rfl ?_
  intro p e s m args below meth c s₁ B hml hv
  obtain ⟨rfl, ⟨hsz, hP, hK, hD0, hN⟩, hXs⟩ := hv
  have hx := B.exec
  have hb := B.bytes
  have hr := B.returns
  have hts := atoms_spec (ws := wsX2_readCondition) B.pre
  have hown : s.vm.findClass RX2 = some m.cls := findClass_of_methodNamed B.named
  have hlocks := B.notSynchronized
  subst hsz
  have hD := hD0.self (sz := s.heap.size)
  generalize hAe : va_A (ceX2_readCondition cyI cyB cyJ cyZ a0 a1 a2 a3 b0_seen g0_lines g2_size f3 g0_size f1 g2_here g2_behind g2_digits g2_value) s.heap.size = A at hD hXs ⊢
  have hA : ∀ q : Nat, s.heap.size ≤ q → A q := fun q h => by rw [← hAe]; exact Or.inr h
  have hS : va_S A s.heap s.heap [] := va_S.rf
  have C0 : cxM p s m meth c _ wsX2_readCondition RX2 cX2_readCondition 6 (some .boolean) := ⟨hx, hb, hr, hml, hown, hts, hlocks⟩
  have hl := lv_entry ([.ref a0, .ref a2, .int p1]) (n := 6) (Nat.le_of_ble_eq_true rfl)
  rw [lg_entry_eq]
  generalize (lg_sl ([.ref a0, .ref a2, .int p1]) ++ List.replicate (6 - (lg_sl ([.ref a0, .ref a2, .int p1])).length) Slot.unset).toArray = ls at hl ⊢
  have hl : lv_has ls 6 [(0, .ref a0), (1, .ref a2), (2, .int p1)] := hl
  show W p l e (rmX2R (nR + 1)) s m _ below meth c _ _ _ _ _ _
  refine wq (fun Q hQ => ?_)
  refine lv_iconst (v := 0) hx hb dX2_readCondition_0 (by decide) ?_
  refine lv_istore_n (lv' := [(3, .int 0), (0, .ref a0), (1, .ref a2), (2, .int p1)]) hx hb dX2_readCondition_1 rfl hl (by decide) rfl (fun ls hl => ?_)
  refine lv_iconst (v := 0) hx hb dX2_readCondition_2 (by decide) ?_
  refine lv_istore (lv' := [(4, .int 0), (3, .int 0), (0, .ref a0), (1, .ref a2), (2, .int p1)]) hx hb dX2_readCondition_3 hl (by decide) rfl (fun ls hl => ?_)
  refine lv_iconst (v := 0) hx hb dX2_readCondition_5 (by decide) ?_
  refine lv_istore (lv' := [(5, .int 0), (4, .int 0), (3, .int 0), (0, .ref a0), (1, .ref a2), (2, .int p1)]) hx hb dX2_readCondition_6 hl (by decide) rfl (fun ls hl => ?_)
  obtain ⟨nn, hw⟩ := hw
  exact bX2_readCondition_8 C0 hK hN hA hXs hR0 hR1 hQ nn g0_size f1 g2_here g2_behind g2_digits g2_value p1 0 0 0 hw _ _ hP hD hS ls (lv_sub hl [3, 4, 5, 2, 1, 0] rfl)
/-! LeadPark$Law.readAtom (LLeadPark$Tape;I)Z -/
abbrev ceX2_readAtom (cyI cyB cyJ cyZ : ClassId) (a0 a1 a2 a3 b0_seen : Nat) (g0_lines : Int32) (g2_size : Int32) (f3 : Nat → Int32) (g0_size : Int32) (f1 : Nat → Int32) (g2_here : Int32) (g2_behind : Int32) (g2_digits : Int32) (g2_value : Int32) : va_W := [(a0, .inr (2, [.ref a1, .ref b0_seen, .int g0_size, .int g0_lines])), (a1, .inl (cyI, 400, .inl f1)), (a2, .inr (8, [.ref a3, .int g2_size, .int g2_here, .int g2_behind, .int g2_digits, .int g2_value])), (a3, .inl (cyB, 400, .inl f3))]

set_option maxRecDepth 100000 in
set_option maxHeartbeats 4000000 in
theorem bX2_readAtom_26 {p : Program} {l : Launch} {e : Env} {s : State} {m : MethodId} {args : Array Value} {below : List Frame} {meth : Method} {c : Code} {dC : Nat → ClassId} {dI : Nat → Nat → Nat} {cyI cyB cyJ cyZ : ClassId} {A : Nat → Prop} {a0 a1 a2 a3 b0_seen : Nat} {g0_lines : Int32} {adS : Nat → Nat} (C0 : cxM p s m meth c args wsX2_readAtom RX2 cX2_readAtom 4 (some .boolean)) (hK : va_K (dC, dI) vwCl (tyA cyI cyB cyJ cyZ) s) (hN : nwA s) (hA : ∀ q : Nat, s.heap.size ≤ q → A q) (hXs : (txA adS) A s s.heap) {nR : Nat} {kR0 : (Int32 → (Int32 × (Nat → Int32) × Int32 × Int32 × Int32 × Int32) → Prop) → Int32 → (Nat → Int32) → Int32 → (Nat → Int32) → Int32 → Int32 → Int32 → Int32 → Int32 → Prop} {kR1 : (Int32 → (Int32 × (Nat → Int32) × Int32 × Int32 × Int32 × Int32) → Prop) → Int32 → (Nat → Int32) → Int32 → (Nat → Int32) → Int32 → Int32 → Int32 → Int32 → Int32 → Prop} (hR0 : hyX2R l dC dI cyI cyB cyJ cyZ kR0 yX2_readCondition wsX2_readCondition (rmX2R nR)) (hR1 : hyX2R l dC dI cyI cyB cyJ cyZ kR1 yX2_readAtom wsX2_readAtom (rmX2R nR)) {post : Int32 → (Int32 × (Nat → Int32) × Int32 × Int32 × Int32 × Int32) → Prop} {g2_size : Int32} {f3 : Nat → Int32} {Q : State → Prop} (hQ : Q = MQ below (va_Qi post (fun u : Int32 × (Nat → Int32) × Int32 × Int32 × Int32 × Int32 => wAt dC dI cyI cyB cyJ cyZ A (ceX2_readAtom cyI cyB cyJ cyZ a0 a1 a2 a3 b0_seen g0_lines g2_size f3 u.1 u.2.1 u.2.2.1 u.2.2.2.1 u.2.2.2.2.1 u.2.2.2.2.2)) A) args s 0 0 A) : ∀ (g0_size : Int32) (f1 : Nat → Int32) (g2_here : Int32) (g2_behind : Int32) (g2_digits : Int32) (g2_value : Int32) (x2 : Int32) (x3 : Int32), wpX2_readAtom_26 kR0 kR1 post g2_size f3 g0_size f1 g2_here g2_behind g2_digits g2_value x2 x3 → AtW p l e (rmX2R (nR + 1)) s m args below meth c dC dI A Q 4 0 0 (ceX2_readAtom cyI cyB cyJ cyZ a0 a1 a2 a3 b0_seen g0_lines g2_size f3 g0_size f1 g2_here g2_behind g2_digits g2_value) [(0, .ref a0), (1, .ref a2), (2, .int x2), (3, .int x3)] 26 [] := by
  intro g0_size f1 g2_here g2_behind g2_digits g2_value x2 x3 hw H locs hP hD hS ls hl
  have C1 := C0
  obtain ⟨hx, hb, hr, hml, hown, hts, hlocks⟩ := C1
  refine lv_iload_n hx hb dX2_readAtom_26 rfl (lv_at hl 2 rfl) ?_
  refine lv_bipush (v := 6) hx hb dX2_readAtom_27 (by decide) ?_
  refine lv_icmp_lt (tgt := 34) hx hb dX2_readAtom_29 (by decide) (fun hc => ?_) (fun hc => ?_)
  · have hw := hw.1 hc
    refine lv_aload_n hx hb dX2_readAtom_34 rfl (lv_at hl 1 rfl) ?_
    have hPc := hP.sub (ws' := (ceX8_toNext cyI cyB cyJ cyZ a2 a3 g2_size f3 g2_here g2_behind g2_digits g2_value)) [2, 3] rfl
    have hDc := hD.sub (ws' := (ceX8_toNext cyI cyB cyJ cyZ a2 a3 g2_size f3 g2_here g2_behind g2_digits g2_value)) [2, 3] (by decide) rfl
    have hFc := va_free (wc := (ceX8_toNext cyI cyB cyJ cyZ a2 a3 g2_size f3 g2_here g2_behind g2_digits g2_value)) hD hS hA [2, 3] rfl
    refine va_callv (va_runV (As := []) (rest := []) ⟨hx, hb, hml, hown, hts⟩ (ctX8_toNext l dC dI cyI cyB cyJ cyZ _ a2 a3 g2_size f3 g2_here g2_behind g2_digits g2_value _ hw) (cwV 0 hts gX2_readAtom_X8_toNext rfl rfl rfl (by decide +kernel) ⟨(by simp <;> omega), (by simp <;> omega)⟩) ⟨wPre_blind, va_recv hK hPc (ci := 8) (q0 := 0) rfl rfl, fun U hU hW => wPre_of hPc hK hDc hN hU hW⟩ rfl rfl hl.1 rfl (lv_room (Nat.le_of_ble_eq_true rfl)) dX2_readAtom_35 ⟨(Nat.zero_le _), (Nat.zero_le _)⟩) hS (fun q _ h => hFc q h) hFc (fun u1 t H1 locs ht hvm hw hB hz1 hk1 hS => ?_)
    obtain ⟨hP1, hK1, hD1⟩ := hB
    rw [ht] at hP1
    obtain ⟨hP, hD⟩ := va_join (wr := pickW (ceX2_readAtom cyI cyB cyJ cyZ a0 a1 a2 a3 b0_seen g0_lines g2_size f3 g0_size f1 g2_here g2_behind g2_digits g2_value) [0, 1]) (w1 := (ceX8_toNext cyI cyB cyJ cyZ a2 a3 g2_size f3 u1.1 u1.2.1 u1.2.2.1 u1.2.2.2)) hP hD [2, 3] [0, 1] rfl rfl (by decide) (by decide) hk1 hFc hP1 hD1
    have hP := hP.sub (ws' := (ceX2_readAtom cyI cyB cyJ cyZ a0 a1 a2 a3 b0_seen g0_lines g2_size f3 g0_size f1 u1.1 u1.2.1 u1.2.2.1 u1.2.2.2)) [0, 1, 2, 3] rfl
    have hD := hD.sub (ws' := (ceX2_readAtom cyI cyB cyJ cyZ a0 a1 a2 a3 b0_seen g0_lines g2_size f3 g0_size f1 u1.1 u1.2.1 u1.2.2.1 u1.2.2.2)) [0, 1, 2, 3] (by decide) rfl
    generalize H1 = H at hP hS ⊢
    refine lv_iload_n hx hb dX2_readAtom_38 rfl (lv_at hl 3 rfl) ?_
    refine lv_if_eq (tgt := 63) hx hb dX2_readAtom_39 (by decide) (fun hc => ?_) (fun hc => ?_)
    · have hw := hw.1 hc
      refine lv_aload_n hx hb dX2_readAtom_63 rfl (lv_at hl 0 rfl) ?_
      refine lv_aload_n hx hb dX2_readAtom_64 rfl (lv_at hl 1 rfl) ?_
      refine lv_iload_n hx hb dX2_readAtom_65 rfl (lv_at hl 2 rfl) ?_
      refine lv_iconst (v := 1) hx hb dX2_readAtom_66 (by decide) ?_
      refine lv_iadd hx hb dX2_readAtom_67 ?_
      have hPc := hP.sub (ws' := (ceX2_readAtom cyI cyB cyJ cyZ a0 a1 a2 a3 b0_seen g0_lines g2_size f3 g0_size f1 u1.1 u1.2.1 u1.2.2.1 u1.2.2.2)) [0, 1, 2, 3] rfl
      have hDc := hD.sub (ws' := (ceX2_readAtom cyI cyB cyJ cyZ a0 a1 a2 a3 b0_seen g0_lines g2_size f3 g0_size f1 u1.1 u1.2.1 u1.2.2.1 u1.2.2.2)) [0, 1, 2, 3] (by decide) rfl
      have hFc := va_free (wc := (ceX2_readAtom cyI cyB cyJ cyZ a0 a1 a2 a3 b0_seen g0_lines g2_size f3 g0_size f1 u1.1 u1.2.1 u1.2.2.1 u1.2.2.2)) hD hS hA [0, 1, 2, 3] rfl
      refine va_calli (va_runV (As := [.ref a2, .int (x2 + 1)]) (rest := []) ⟨hx, hb, hml, hown, hts⟩ (hR0 _ a0 a1 a2 a3 b0_seen g0_lines g2_size f3 g0_size f1 u1.1 u1.2.1 u1.2.2.1 u1.2.2.2 (x2 + 1) _ adS hw) (cwV 2 hts gX2_readAtom_X2_readCondition rfl rfl rfl (by decide +kernel) ⟨(by simp <;> omega), (by simp <;> omega)⟩) ⟨wPreX_blind (xOk_txA adS), va_recv hK hPc (ci := 2) (q0 := 0) rfl rfl, fun U hU hW => wPreX_of (xOk_txA adS) hPc hK hDc hN hXs hS hFc hU hW⟩ rfl rfl hl.1 rfl (lv_room (Nat.le_of_ble_eq_true rfl)) dX2_readAtom_68 ⟨(Nat.zero_le _), (Nat.zero_le _)⟩) hS (fun q _ h => hFc q h) hFc (fun r3 u2 t H1 locs ht hvm hw hB hz1 hk1 hS => ?_)
      obtain ⟨hP1, hK1, hD1⟩ := hB
      rw [ht] at hP1
      obtain ⟨hP, hD⟩ := va_join (wr := pickW (ceX2_readAtom cyI cyB cyJ cyZ a0 a1 a2 a3 b0_seen g0_lines g2_size f3 g0_size f1 u1.1 u1.2.1 u1.2.2.1 u1.2.2.2) []) (w1 := (ceX2_readAtom cyI cyB cyJ cyZ a0 a1 a2 a3 b0_seen g0_lines g2_size f3 u2.1 u2.2.1 u2.2.2.1 u2.2.2.2.1 u2.2.2.2.2.1 u2.2.2.2.2.2)) hP hD [0, 1, 2, 3] [] rfl rfl (by decide) (by decide) hk1 hFc hP1 hD1
      have hP := hP.sub (ws' := (ceX2_readAtom cyI cyB cyJ cyZ a0 a1 a2 a3 b0_seen g0_lines g2_size f3 u2.1 u2.2.1 u2.2.2.1 u2.2.2.2.1 u2.2.2.2.2.1 u2.2.2.2.2.2)) [0, 1, 2, 3] rfl
      have hD := hD.sub (ws' := (ceX2_readAtom cyI cyB cyJ cyZ a0 a1 a2 a3 b0_seen g0_lines g2_size f3 u2.1 u2.2.1 u2.2.2.1 u2.2.2.2.1 u2.2.2.2.2.1 u2.2.2.2.2.2)) [0, 1, 2, 3] (by decide) rfl
      generalize H1 = H at hP hS ⊢
      refine lv_if_eq (tgt := 83) hx hb dX2_readAtom_71 (by decide) (fun hc => ?_) (fun hc => ?_)
      · have hw := hw.1 hc
        refine lv_iconst (v := 0) hx hb dX2_readAtom_83 (by decide) ?_
        rw [hQ]
        exact W.zret (v := 0) (ty := .boolean) hx hb hr rfl (fun t ht hW => ⟨⟨0, (u2.1, u2.2.1, u2.2.2.1, u2.2.2.2.1, u2.2.2.2.2.1, u2.2.2.2.2.2), rfl, hw, by rw [ht]; exact hP, va_K.moved hW.alike hK, hD⟩, hS.F ht⟩) hS.2.2 dX2_readAtom_84
      · have hw := hw.2 hc
        refine lv_aload_n hx hb dX2_readAtom_74 rfl (lv_at hl 1 rfl) ?_
        refine lv_bipush (v := 41) hx hb dX2_readAtom_75 (by decide) ?_
        have hPc := hP.sub (ws' := (ceX8_isSign cyI cyB cyJ cyZ a2 a3 u2.2.2.2.1 u2.2.2.2.2.1 u2.2.2.2.2.2 g2_size u2.2.2.1 f3)) [2, 3] rfl
        have hDc := hD.sub (ws' := (ceX8_isSign cyI cyB cyJ cyZ a2 a3 u2.2.2.2.1 u2.2.2.2.2.1 u2.2.2.2.2.2 g2_size u2.2.2.1 f3)) [2, 3] (by decide) rfl
        have hFc := va_free (wc := (ceX8_isSign cyI cyB cyJ cyZ a2 a3 u2.2.2.2.1 u2.2.2.2.2.1 u2.2.2.2.2.2 g2_size u2.2.2.1 f3)) hD hS hA [2, 3] rfl
        refine va_calli (va_runV (As := [.int 41]) (rest := []) ⟨hx, hb, hml, hown, hts⟩ (ctX8_isSign l dC dI cyI cyB cyJ cyZ _ a2 a3 u2.2.2.2.1 u2.2.2.2.2.1 u2.2.2.2.2.2 g2_size u2.2.2.1 f3 41 _ hw) (cwV 1 hts gX2_readAtom_X8_isSign rfl rfl rfl (by decide +kernel) ⟨(by simp <;> omega), (by simp <;> omega)⟩) ⟨wPre_blind, va_recv hK hPc (ci := 8) (q0 := 0) rfl rfl, fun U hU hW => wPre_of hPc hK hDc hN hU hW⟩ rfl rfl hl.1 rfl (lv_room (Nat.le_of_ble_eq_true rfl)) dX2_readAtom_77 ⟨(Nat.zero_le _), (Nat.zero_le _)⟩) hS (fun q _ h => hFc q h) hFc (fun r5 u4 t H1 locs ht hvm hw hB hz1 hk1 hS => ?_)
        obtain ⟨hP1, hK1, hD1⟩ := hB
        rw [ht] at hP1
        obtain ⟨hP, hD⟩ := va_join (wr := pickW (ceX2_readAtom cyI cyB cyJ cyZ a0 a1 a2 a3 b0_seen g0_lines g2_size f3 u2.1 u2.2.1 u2.2.2.1 u2.2.2.2.1 u2.2.2.2.2.1 u2.2.2.2.2.2) [0, 1]) (w1 := (ceX8_isSign cyI cyB cyJ cyZ a2 a3 u2.2.2.2.1 u2.2.2.2.2.1 u2.2.2.2.2.2 g2_size u2.2.2.1 f3)) hP hD [2, 3] [0, 1] rfl rfl (by decide) (by decide) hk1 hFc hP1 hD1
        have hP := hP.sub (ws' := (ceX2_readAtom cyI cyB cyJ cyZ a0 a1 a2 a3 b0_seen g0_lines g2_size f3 u2.1 u2.2.1 u2.2.2.1 u2.2.2.2.1 u2.2.2.2.2.1 u2.2.2.2.2.2)) [0, 1, 2, 3] rfl
        have hD := hD.sub (ws' := (ceX2_readAtom cyI cyB cyJ cyZ a0 a1 a2 a3 b0_seen g0_lines g2_size f3 u2.1 u2.2.1 u2.2.2.1 u2.2.2.2.1 u2.2.2.2.2.1 u2.2.2.2.2.2)) [0, 1, 2, 3] (by decide) rfl
        generalize H1 = H at hP hS ⊢
        refine lv_if_ne (tgt := 85) hx hb dX2_readAtom_80 (by decide) (fun hc => ?_) (fun hc => ?_)
        · have hw := hw.1 hc
          refine lv_aload_n hx hb dX2_readAtom_85 rfl (lv_at hl 1 rfl) ?_
          have hPc := hP.sub (ws' := (ceX8_toNext cyI cyB cyJ cyZ a2 a3 g2_size f3 u2.2.2.1 u2.2.2.2.1 u2.2.2.2.2.1 u2.2.2.2.2.2)) [2, 3] rfl
          have hDc := hD.sub (ws' := (ceX8_toNext cyI cyB cyJ cyZ a2 a3 g2_size f3 u2.2.2.1 u2.2.2.2.1 u2.2.2.2.2.1 u2.2.2.2.2.2)) [2, 3] (by decide) rfl
          have hFc := va_free (wc := (ceX8_toNext cyI cyB cyJ cyZ a2 a3 g2_size f3 u2.2.2.1 u2.2.2.2.1 u2.2.2.2.2.1 u2.2.2.2.2.2)) hD hS hA [2, 3] rfl
          refine va_callv (va_runV (As := []) (rest := []) ⟨hx, hb, hml, hown, hts⟩ (ctX8_toNext l dC dI cyI cyB cyJ cyZ _ a2 a3 g2_size f3 u2.2.2.1 u2.2.2.2.1 u2.2.2.2.2.1 u2.2.2.2.2.2 _ hw) (cwV 0 hts gX2_readAtom_X8_toNext rfl rfl rfl (by decide +kernel) ⟨(by simp <;> omega), (by simp <;> omega)⟩) ⟨wPre_blind, va_recv hK hPc (ci := 8) (q0 := 0) rfl rfl, fun U hU hW => wPre_of hPc hK hDc hN hU hW⟩ rfl rfl hl.1 rfl (lv_room (Nat.le_of_ble_eq_true rfl)) dX2_readAtom_86 ⟨(Nat.zero_le _), (Nat.zero_le _)⟩) hS (fun q _ h => hFc q h) hFc (fun u6 t H1 locs ht hvm hw hB hz1 hk1 hS => ?_)
          obtain ⟨hP1, hK1, hD1⟩ := hB
          rw [ht] at hP1
          obtain ⟨hP, hD⟩ := va_join (wr := pickW (ceX2_readAtom cyI cyB cyJ cyZ a0 a1 a2 a3 b0_seen g0_lines g2_size f3 u2.1 u2.2.1 u2.2.2.1 u2.2.2.2.1 u2.2.2.2.2.1 u2.2.2.2.2.2) [0, 1]) (w1 := (ceX8_toNext cyI cyB cyJ cyZ a2 a3 g2_size f3 u6.1 u6.2.1 u6.2.2.1 u6.2.2.2)) hP hD [2, 3] [0, 1] rfl rfl (by decide) (by decide) hk1 hFc hP1 hD1
          have hP := hP.sub (ws' := (ceX2_readAtom cyI cyB cyJ cyZ a0 a1 a2 a3 b0_seen g0_lines g2_size f3 u2.1 u2.2.1 u6.1 u6.2.1 u6.2.2.1 u6.2.2.2)) [0, 1, 2, 3] rfl
          have hD := hD.sub (ws' := (ceX2_readAtom cyI cyB cyJ cyZ a0 a1 a2 a3 b0_seen g0_lines g2_size f3 u2.1 u2.2.1 u6.1 u6.2.1 u6.2.2.1 u6.2.2.2)) [0, 1, 2, 3] (by decide) rfl
          generalize H1 = H at hP hS ⊢
          refine lv_iconst (v := 1) hx hb dX2_readAtom_89 (by decide) ?_
          rw [hQ]
          exact W.zret (v := 1) (ty := .boolean) hx hb hr rfl (fun t ht hW => ⟨⟨1, (u2.1, u2.2.1, u6.1, u6.2.1, u6.2.2.1, u6.2.2.2), rfl, hw, by rw [ht]; exact hP, va_K.moved hW.alike hK, hD⟩, hS.F ht⟩) hS.2.2 dX2_readAtom_90
        · have hw := hw.2 hc
          refine lv_iconst (v := 0) hx hb dX2_readAtom_83 (by decide) ?_
          rw [hQ]
          exact W.zret (v := 0) (ty := .boolean) hx hb hr rfl (fun t ht hW => ⟨⟨0, (u2.1, u2.2.1, u2.2.2.1, u2.2.2.2.1, u2.2.2.2.2.1, u2.2.2.2.2.2), rfl, hw, by rw [ht]; exact hP, va_K.moved hW.alike hK, hD⟩, hS.F ht⟩) hS.2.2 dX2_readAtom_84
    · have hw := hw.2 hc
      refine lv_aload_n hx hb dX2_readAtom_42 rfl (lv_at hl 0 rfl) ?_
      refine lv_aload_n hx hb dX2_readAtom_43 rfl (lv_at hl 1 rfl) ?_
      refine lv_iload_n hx hb dX2_readAtom_44 rfl (lv_at hl 2 rfl) ?_
      refine lv_iconst (v := 1) hx hb dX2_readAtom_45 (by decide) ?_
      refine lv_iadd hx hb dX2_readAtom_46 ?_
      have hPc := hP.sub (ws' := (ceX2_readAtom cyI cyB cyJ cyZ a0 a1 a2 a3 b0_seen g0_lines g2_size f3 g0_size f1 u1.1 u1.2.1 u1.2.2.1 u1.2.2.2)) [0, 1, 2, 3] rfl
      have hDc := hD.sub (ws' := (ceX2_readAtom cyI cyB cyJ cyZ a0 a1 a2 a3 b0_seen g0_lines g2_size f3 g0_size f1 u1.1 u1.2.1 u1.2.2.1 u1.2.2.2)) [0, 1, 2, 3] (by decide) rfl
      have hFc := va_free (wc := (ceX2_readAtom cyI cyB cyJ cyZ a0 a1 a2 a3 b0_seen g0_lines g2_size f3 g0_size f1 u1.1 u1.2.1 u1.2.2.1 u1.2.2.2)) hD hS hA [0, 1, 2, 3] rfl
      refine va_calli (va_runV (As := [.ref a2, .int (x2 + 1)]) (rest := []) ⟨hx, hb, hml, hown, hts⟩ (hR1 _ a0 a1 a2 a3 b0_seen g0_lines g2_size f3 g0_size f1 u1.1 u1.2.1 u1.2.2.1 u1.2.2.2 (x2 + 1) _ adS hw) (cwV 2 hts gX2_readAtom_X2_readAtom rfl rfl rfl (by decide +kernel) ⟨(by simp <;> omega), (by simp <;> omega)⟩) ⟨wPreX_blind (xOk_txA adS), va_recv hK hPc (ci := 2) (q0 := 0) rfl rfl, fun U hU hW => wPreX_of (xOk_txA adS) hPc hK hDc hN hXs hS hFc hU hW⟩ rfl rfl hl.1 rfl (lv_room (Nat.le_of_ble_eq_true rfl)) dX2_readAtom_47 ⟨(Nat.zero_le _), (Nat.zero_le _)⟩) hS (fun q _ h => hFc q h) hFc (fun r8 u7 t H1 locs ht hvm hw hB hz1 hk1 hS => ?_)
      obtain ⟨hP1, hK1, hD1⟩ := hB
      rw [ht] at hP1
      obtain ⟨hP, hD⟩ := va_join (wr := pickW (ceX2_readAtom cyI cyB cyJ cyZ a0 a1 a2 a3 b0_seen g0_lines g2_size f3 g0_size f1 u1.1 u1.2.1 u1.2.2.1 u1.2.2.2) []) (w1 := (ceX2_readAtom cyI cyB cyJ cyZ a0 a1 a2 a3 b0_seen g0_lines g2_size f3 u7.1 u7.2.1 u7.2.2.1 u7.2.2.2.1 u7.2.2.2.2.1 u7.2.2.2.2.2)) hP hD [0, 1, 2, 3] [] rfl rfl (by decide) (by decide) hk1 hFc hP1 hD1
      have hP := hP.sub (ws' := (ceX2_readAtom cyI cyB cyJ cyZ a0 a1 a2 a3 b0_seen g0_lines g2_size f3 u7.1 u7.2.1 u7.2.2.1 u7.2.2.2.1 u7.2.2.2.2.1 u7.2.2.2.2.2)) [0, 1, 2, 3] rfl
      have hD := hD.sub (ws' := (ceX2_readAtom cyI cyB cyJ cyZ a0 a1 a2 a3 b0_seen g0_lines g2_size f3 u7.1 u7.2.1 u7.2.2.1 u7.2.2.2.1 u7.2.2.2.2.1 u7.2.2.2.2.2)) [0, 1, 2, 3] (by decide) rfl
      generalize H1 = H at hP hS ⊢
      refine lv_if_ne (tgt := 55) hx hb dX2_readAtom_50 (by decide) (fun hc => ?_) (fun hc => ?_)
      · have hw := hw.1 hc
        refine lv_aload_n hx hb dX2_readAtom_55 rfl (lv_at hl 0 rfl) ?_
        refine lv_bipush (v := (-11)) hx hb dX2_readAtom_56 (by decide) ?_
        have hPc := hP.sub (ws' := (ceX2_give cyI cyB cyJ cyZ a0 a1 b0_seen g0_lines u7.1 u7.2.1)) [0, 1] rfl
        have hDc := hD.sub (ws' := (ceX2_give cyI cyB cyJ cyZ a0 a1 b0_seen g0_lines u7.1 u7.2.1)) [0, 1] (by decide) rfl
        have hFc := va_free (wc := (ceX2_give cyI cyB cyJ cyZ a0 a1 b0_seen g0_lines u7.1 u7.2.1)) hD hS hA [0, 1] rfl
        refine va_callv (va_runV (As := [.int (-11)]) (rest := []) ⟨hx, hb, hml, hown, hts⟩ (ctX2_give l dC dI cyI cyB cyJ cyZ _ a0 a1 b0_seen g0_lines u7.1 u7.2.1 (-11) _ hw) (cwV 1 hts gX2_readAtom_X2_give rfl rfl rfl (by decide +kernel) ⟨(by simp <;> omega), (by simp <;> omega)⟩) ⟨wPre_blind, va_recv hK hPc (ci := 2) (q0 := 0) rfl rfl, fun U hU hW => wPre_of hPc hK hDc hN hU hW⟩ rfl rfl hl.1 rfl (lv_room (Nat.le_of_ble_eq_true rfl)) dX2_readAtom_58 ⟨(Nat.zero_le _), (Nat.zero_le _)⟩) hS (fun q _ h => hFc q h) hFc (fun u9 t H1 locs ht hvm hw hB hz1 hk1 hS => ?_)
        obtain ⟨hP1, hK1, hD1⟩ := hB
        rw [ht] at hP1
        obtain ⟨hP, hD⟩ := va_join (wr := pickW (ceX2_readAtom cyI cyB cyJ cyZ a0 a1 a2 a3 b0_seen g0_lines g2_size f3 u7.1 u7.2.1 u7.2.2.1 u7.2.2.2.1 u7.2.2.2.2.1 u7.2.2.2.2.2) [2, 3]) (w1 := (ceX2_give cyI cyB cyJ cyZ a0 a1 b0_seen g0_lines u9.1 u9.2)) hP hD [0, 1] [2, 3] rfl rfl (by decide) (by decide) hk1 hFc hP1 hD1
        have hP := hP.sub (ws' := (ceX2_readAtom cyI cyB cyJ cyZ a0 a1 a2 a3 b0_seen g0_lines g2_size f3 u9.1 u9.2 u7.2.2.1 u7.2.2.2.1 u7.2.2.2.2.1 u7.2.2.2.2.2)) [2, 3, 0, 1] rfl
        have hD := hD.sub (ws' := (ceX2_readAtom cyI cyB cyJ cyZ a0 a1 a2 a3 b0_seen g0_lines g2_size f3 u9.1 u9.2 u7.2.2.1 u7.2.2.2.1 u7.2.2.2.2.1 u7.2.2.2.2.2)) [2, 3, 0, 1] (by decide) rfl
        generalize H1 = H at hP hS ⊢
        refine lv_iconst (v := 1) hx hb dX2_readAtom_61 (by decide) ?_
        rw [hQ]
        exact W.zret (v := 1) (ty := .boolean) hx hb hr rfl (fun t ht hW => ⟨⟨1, (u9.1, u9.2, u7.2.2.1, u7.2.2.2.1, u7.2.2.2.2.1, u7.2.2.2.2.2), rfl, hw, by rw [ht]; exact hP, va_K.moved hW.alike hK, hD⟩, hS.F ht⟩) hS.2.2 dX2_readAtom_62
      · have hw := hw.2 hc
        refine lv_iconst (v := 0) hx hb dX2_readAtom_53 (by decide) ?_
        rw [hQ]
        exact W.zret (v := 0) (ty := .boolean) hx hb hr rfl (fun t ht hW => ⟨⟨0, (u7.1, u7.2.1, u7.2.2.1, u7.2.2.2.1, u7.2.2.2.2.1, u7.2.2.2.2.2), rfl, hw, by rw [ht]; exact hP, va_K.moved hW.alike hK, hD⟩, hS.F ht⟩) hS.2.2 dX2_readAtom_54
  · have hw := hw.2 hc
    refine lv_iconst (v := 0) hx hb dX2_readAtom_32 (by decide) ?_
    rw [hQ]
    exact W.zret (v := 0) (ty := .boolean) hx hb hr rfl (fun t ht hW => ⟨⟨0, (g0_size, f1, g2_here, g2_behind, g2_digits, g2_value), rfl, hw, by rw [ht]; exact hP, va_K.moved hW.alike hK, hD⟩, hS.F ht⟩) hS.2.2 dX2_readAtom_33
set_option maxRecDepth 100000 in
set_option maxHeartbeats 4000000 in
theorem ctX2_readAtom_of (l : Launch) (dC : Nat → ClassId) (dI : Nat → Nat → Nat) (cyI cyB cyJ cyZ : ClassId) (sz : Nat) (a0 a1 a2 a3 b0_seen : Nat) (g0_lines : Int32) (g2_size : Int32) (f3 : Nat → Int32) (g0_size : Int32) (f1 : Nat → Int32) (g2_here : Int32) (g2_behind : Int32) (g2_digits : Int32) (g2_value : Int32) (p1 : Int32) (post : Int32 → (Int32 × (Nat → Int32) × Int32 × Int32 × Int32 × Int32) → Prop) (adS : Nat → Nat) {nR : Nat} {kR0 : (Int32 → (Int32 × (Nat → Int32) × Int32 × Int32 × Int32 × Int32) → Prop) → Int32 → (Nat → Int32) → Int32 → (Nat → Int32) → Int32 → Int32 → Int32 → Int32 → Int32 → Prop} {kR1 : (Int32 → (Int32 × (Nat → Int32) × Int32 × Int32 × Int32 × Int32) → Prop) → Int32 → (Nat → Int32) → Int32 → (Nat → Int32) → Int32 → Int32 → Int32 → Int32 → Int32 → Prop} (hR0 : hyX2R l dC dI cyI cyB cyJ cyZ kR0 yX2_readCondition wsX2_readCondition (rmX2R nR)) (hR1 : hyX2R l dC dI cyI cyB cyJ cyZ kR1 yX2_readAtom wsX2_readAtom (rmX2R nR)) (hw : wpX2_readAtom kR0 kR1 post g2_size f3 g0_size f1 g2_here g2_behind g2_digits g2_value p1) : Met l yX2_readAtom wsX2_readAtom (rmX2R (nR + 1)) (va_Pc [.ref a0, .ref a2, .int p1] (wPreX dC dI cyI cyB cyJ cyZ sz (ceX2_readAtom cyI cyB cyJ cyZ a0 a1 a2 a3 b0_seen g0_lines g2_size f3 g0_size f1 g2_here g2_behind g2_digits g2_value) (txA adS))) (va_Qi post (fun u : Int32 × (Nat → Int32) × Int32 × Int32 × Int32 × Int32 => wAt dC dI cyI cyB cyJ cyZ (va_A (ceX2_readAtom cyI cyB cyJ cyZ a0 a1 a2 a3 b0_seen g0_lines g2_size f3 g0_size f1 g2_here g2_behind g2_digits g2_value) sz) (ceX2_readAtom cyI cyB cyJ cyZ a0 a1 a2 a3 b0_seen g0_lines g2_size f3 u.1 u.2.1 u.2.2.1 u.2.2.2.1 u.2.2.2.2.1 u.2.2.2.2.2)) (va_A (ceX2_readAtom cyI cyB cyJ cyZ a0 a1 a2 a3 b0_seen g0_lines g2_size f3 g0_size f1 g2_here g2_behind g2_digits g2_value) sz)) 0 0 (va_A (ceX2_readAtom cyI cyB cyJ cyZ a0 a1 a2 a3 b0_seen g0_lines g2_size f3 g0_size f1 g2_here g2_behind g2_digits g2_value) sz) := by
  refine Met.ofW (cc := cX2_readAtom) (maxL := 4) (ret := (some .boolean)) (by decide) rfl ?_
  intro p e s m args below meth c s₁ B hml hv
  obtain ⟨rfl, ⟨hsz, hP, hK, hD0, hN⟩, hXs⟩ := hv
  have hx := B.exec
  have hb := B.bytes
  have hr := B.returns
  have hts := atoms_spec (ws := wsX2_readAtom) B.pre
  have hown : s.vm.findClass RX2 = some m.cls := findClass_of_methodNamed B.named
  have hlocks := B.notSynchronized
  subst hsz
  have hD := hD0.self (sz := s.heap.size)
  generalize hAe : va_A (ceX2_readAtom cyI cyB cyJ cyZ a0 a1 a2 a3 b0_seen g0_lines g2_size f3 g0_size f1 g2_here g2_behind g2_digits g2_value) s.heap.size = A at hD hXs ⊢
  have hA : ∀ q : Nat, s.heap.size ≤ q → A q := fun q h => by rw [← hAe]; exact Or.inr h
  have hS : va_S A s.heap s.heap [] := va_S.rf
  have C0 : cxM p s m meth c _ wsX2_readAtom RX2 cX2_readAtom 4 (some .boolean) := ⟨hx, hb, hr, hml, hown, hts, hlocks⟩
  have hl := lv_entry ([.ref a0, .ref a2, .int p1]) (n := 4) (Nat.le_of_ble_eq_true rfl)
  rw [lg_entry_eq]
  generalize (lg_sl ([.ref a0, .ref a2, .int p1]) ++ List.replicate (4 - (lg_sl ([.ref a0, .ref a2, .int p1])).length) Slot.unset).toArray = ls at hl ⊢
  have hl : lv_has ls 4 [(0, .ref a0), (1, .ref a2), (2, .int p1)] := hl
  show W p l e (rmX2R (nR + 1)) s m _ below meth c _ _ _ _ _ _
  refine wq (fun Q hQ => ?_)
  refine lv_aload_n hx hb dX2_readAtom_0 rfl (lv_at hl 1 rfl) ?_
  refine va_ldcS hx hb hown (hXs.2 7 _ rfl).1 dX2_readAtom_1 ?_
  have hPc := hP.sub (ws' := (ceX8_isWord cyI cyB cyJ cyZ a2 a3 g2_size g2_digits g2_value g2_here g2_behind f3)) [2, 3] rfl
  have hDc := hD.sub (ws' := (ceX8_isWord cyI cyB cyJ cyZ a2 a3 g2_size g2_digits g2_value g2_here g2_behind f3)) [2, 3] (by decide) rfl
  have hFc := va_free (wc := (ceX8_isWord cyI cyB cyJ cyZ a2 a3 g2_size g2_digits g2_value g2_here g2_behind f3)) hD hS hA [2, 3] rfl
  refine va_calli (va_runV (As := [.ref (adS 7)]) (rest := []) ⟨hx, hb, hml, hown, hts⟩ (ctX8_isWord l dC dI cyI cyB cyJ cyZ _ a2 a3 g2_size g2_digits g2_value g2_here g2_behind f3 _ [110, 111, 116] (adS 7) hw) (cwV 1 hts gX2_readAtom_X8_isWord rfl rfl rfl (by decide +kernel) ⟨(by simp <;> omega), (by simp <;> omega)⟩) ⟨wPreX_blind (xOk_txS [110, 111, 116] (adS 7)), va_recv hK hPc (ci := 8) (q0 := 0) rfl rfl, fun U hU hW => wPreX_of (xOk_txS [110, 111, 116] (adS 7)) hPc hK hDc hN ⟨hXs.1, (hXs.2 7 _ rfl).2⟩ hS hFc hU hW⟩ rfl rfl hl.1 rfl (lv_room (Nat.le_of_ble_eq_true rfl)) dX2_readAtom_3 ⟨(Nat.zero_le _), (Nat.zero_le _)⟩) hS (fun q _ h => hFc q h) hFc (fun r2 u1 t H1 locs ht hvm hw hB hz1 hk1 hS => ?_)
  obtain ⟨hP1, hK1, hD1⟩ := hB
  rw [ht] at hP1
  obtain ⟨hP, hD⟩ := va_join (wr := pickW (ceX2_readAtom cyI cyB cyJ cyZ a0 a1 a2 a3 b0_seen g0_lines g2_size f3 g0_size f1 g2_here g2_behind g2_digits g2_value) [0, 1]) (w1 := (ceX8_isWord cyI cyB cyJ cyZ a2 a3 g2_size g2_digits g2_value g2_here g2_behind f3)) hP hD [2, 3] [0, 1] rfl rfl (by decide) (by decide) hk1 hFc hP1 hD1
  have hP := hP.sub (ws' := (ceX2_readAtom cyI cyB cyJ cyZ a0 a1 a2 a3 b0_seen g0_lines g2_size f3 g0_size f1 g2_here g2_behind g2_digits g2_value)) [0, 1, 2, 3] rfl
  have hD := hD.sub (ws' := (ceX2_readAtom cyI cyB cyJ cyZ a0 a1 a2 a3 b0_seen g0_lines g2_size f3 g0_size f1 g2_here g2_behind g2_digits g2_value)) [0, 1, 2, 3] (by decide) rfl
  generalize H1 = H at hP hS ⊢
  refine lv_istore_n (lv' := [(3, .int r2), (0, .ref a0), (1, .ref a2), (2, .int p1)]) hx hb dX2_readAtom_6 rfl hl (by decide) rfl (fun ls hl => ?_)
  refine lv_iload_n hx hb dX2_readAtom_7 rfl (lv_at hl 0 rfl) ?_
  refine lv_if_ne (tgt := 26) hx hb dX2_readAtom_8 (by decide) (fun hc => ?_) (fun hc => ?_)
  · have hw := hw.1 hc
    exact bX2_readAtom_26 C0 hK hN hA hXs hR0 hR1 hQ g0_size f1 g2_here g2_behind g2_digits g2_value p1 r2 hw _ _ hP hD hS ls (lv_sub hl [1, 2, 3, 0] rfl)
  · have hw := hw.2 hc
    refine lv_aload_n hx hb dX2_readAtom_11 rfl (lv_at hl 2 rfl) ?_
    refine lv_bipush (v := 40) hx hb dX2_readAtom_12 (by decide) ?_
    have hPc := hP.sub (ws' := (ceX8_isSign cyI cyB cyJ cyZ a2 a3 g2_behind g2_digits g2_value g2_size g2_here f3)) [2, 3] rfl
    have hDc := hD.sub (ws' := (ceX8_isSign cyI cyB cyJ cyZ a2 a3 g2_behind g2_digits g2_value g2_size g2_here f3)) [2, 3] (by decide) rfl
    have hFc := va_free (wc := (ceX8_isSign cyI cyB cyJ cyZ a2 a3 g2_behind g2_digits g2_value g2_size g2_here f3)) hD hS hA [2, 3] rfl
    refine va_calli (va_runV (As := [.int 40]) (rest := []) ⟨hx, hb, hml, hown, hts⟩ (ctX8_isSign l dC dI cyI cyB cyJ cyZ _ a2 a3 g2_behind g2_digits g2_value g2_size g2_here f3 40 _ hw) (cwV 1 hts gX2_readAtom_X8_isSign rfl rfl rfl (by decide +kernel) ⟨(by simp <;> omega), (by simp <;> omega)⟩) ⟨wPre_blind, va_recv hK hPc (ci := 8) (q0 := 0) rfl rfl, fun U hU hW => wPre_of hPc hK hDc hN hU hW⟩ rfl rfl hl.1 rfl (lv_room (Nat.le_of_ble_eq_true rfl)) dX2_readAtom_14 ⟨(Nat.zero_le _), (Nat.zero_le _)⟩) hS (fun q _ h => hFc q h) hFc (fun r4 u3 t H1 locs ht hvm hw hB hz1 hk1 hS => ?_)
    obtain ⟨hP1, hK1, hD1⟩ := hB
    rw [ht] at hP1
    obtain ⟨hP, hD⟩ := va_join (wr := pickW (ceX2_readAtom cyI cyB cyJ cyZ a0 a1 a2 a3 b0_seen g0_lines g2_size f3 g0_size f1 g2_here g2_behind g2_digits g2_value) [0, 1]) (w1 := (ceX8_isSign cyI cyB cyJ cyZ a2 a3 g2_behind g2_digits g2_value g2_size g2_here f3)) hP hD [2, 3] [0, 1] rfl rfl (by decide) (by decide) hk1 hFc hP1 hD1
    have hP := hP.sub (ws' := (ceX2_readAtom cyI cyB cyJ cyZ a0 a1 a2 a3 b0_seen g0_lines g2_size f3 g0_size f1 g2_here g2_behind g2_digits g2_value)) [0, 1, 2, 3] rfl
    have hD := hD.sub (ws' := (ceX2_readAtom cyI cyB cyJ cyZ a0 a1 a2 a3 b0_seen g0_lines g2_size f3 g0_size f1 g2_here g2_behind g2_digits g2_value)) [0, 1, 2, 3] (by decide) rfl
    generalize H1 = H at hP hS ⊢
    refine lv_if_ne (tgt := 26) hx hb dX2_readAtom_17 (by decide) (fun hc => ?_) (fun hc => ?_)
    · have hw := hw.1 hc
      exact bX2_readAtom_26 C0 hK hN hA hXs hR0 hR1 hQ g0_size f1 g2_here g2_behind g2_digits g2_value p1 r2 hw _ _ hP hD hS ls (lv_sub hl [1, 2, 3, 0] rfl)
    · have hw := hw.2 hc
      refine lv_aload_n hx hb dX2_readAtom_20 rfl (lv_at hl 1 rfl) ?_
      refine lv_aload_n hx hb dX2_readAtom_21 rfl (lv_at hl 2 rfl) ?_
      have hPc := hP.sub (ws' := (ceX2_readComparison cyI cyB cyJ cyZ a0 a1 a2 a3 b0_seen g0_lines g2_size f3 g0_size f1 g2_here g2_behind g2_digits g2_value)) [0, 1, 2, 3] rfl
      have hDc := hD.sub (ws' := (ceX2_readComparison cyI cyB cyJ cyZ a0 a1 a2 a3 b0_seen g0_lines g2_size f3 g0_size f1 g2_here g2_behind g2_digits g2_value)) [0, 1, 2, 3] (by decide) rfl
      have hFc := va_free (wc := (ceX2_readComparison cyI cyB cyJ cyZ a0 a1 a2 a3 b0_seen g0_lines g2_size f3 g0_size f1 g2_here g2_behind g2_digits g2_value)) hD hS hA [0, 1, 2, 3] rfl
      refine va_calli (va_runV (As := [.ref a2]) (rest := []) ⟨hx, hb, hml, hown, hts⟩ (ctX2_readComparison l dC dI cyI cyB cyJ cyZ _ a0 a1 a2 a3 b0_seen g0_lines g2_size f3 g0_size f1 g2_here g2_behind g2_digits g2_value _ adS hw) (cwV 1 hts gX2_readAtom_X2_readComparison rfl rfl rfl (by decide +kernel) ⟨(by simp <;> omega), (by simp <;> omega)⟩) ⟨wPreX_blind (xOk_txA adS), va_recv hK hPc (ci := 2) (q0 := 0) rfl rfl, fun U hU hW => wPreX_of (xOk_txA adS) hPc hK hDc hN hXs hS hFc hU hW⟩ rfl rfl hl.1 rfl (lv_room (Nat.le_of_ble_eq_true rfl)) dX2_readAtom_22 ⟨(Nat.zero_le _), (Nat.zero_le _)⟩) hS (fun q _ h => hFc q h) hFc (fun r6 u5 t H1 locs ht hvm hw hB hz1 hk1 hS => ?_)
      obtain ⟨hP1, hK1, hD1⟩ := hB
      rw [ht] at hP1
      obtain ⟨hP, hD⟩ := va_join (wr := pickW (ceX2_readAtom cyI cyB cyJ cyZ a0 a1 a2 a3 b0_seen g0_lines g2_size f3 g0_size f1 g2_here g2_behind g2_digits g2_value) []) (w1 := (ceX2_readComparison cyI cyB cyJ cyZ a0 a1 a2 a3 b0_seen g0_lines g2_size f3 u5.1 u5.2.1 u5.2.2.1 u5.2.2.2.1 u5.2.2.2.2.1 u5.2.2.2.2.2)) hP hD [0, 1, 2, 3] [] rfl rfl (by decide) (by decide) hk1 hFc hP1 hD1
      have hP := hP.sub (ws' := (ceX2_readAtom cyI cyB cyJ cyZ a0 a1 a2 a3 b0_seen g0_lines g2_size f3 u5.1 u5.2.1 u5.2.2.1 u5.2.2.2.1 u5.2.2.2.2.1 u5.2.2.2.2.2)) [0, 1, 2, 3] rfl
      have hD := hD.sub (ws' := (ceX2_readAtom cyI cyB cyJ cyZ a0 a1 a2 a3 b0_seen g0_lines g2_size f3 u5.1 u5.2.1 u5.2.2.1 u5.2.2.2.1 u5.2.2.2.2.1 u5.2.2.2.2.2)) [0, 1, 2, 3] (by decide) rfl
      generalize H1 = H at hP hS ⊢
      rw [hQ]
      obtain ⟨hz, hw⟩ := hw
      exact W.zret (v := r6) (ty := .boolean) hx hb hr (zb_n hz) (fun t ht hW => ⟨⟨r6, (u5.1, u5.2.1, u5.2.2.1, u5.2.2.2.1, u5.2.2.2.2.1, u5.2.2.2.2.2), rfl, hw, by rw [ht]; exact hP, va_K.moved hW.alike hK, hD⟩, hS.F ht⟩) hS.2.2 dX2_readAtom_25
set_option maxHeartbeats 4000000 in
theorem ctX2R (l : Launch) (dC : Nat → ClassId) (dI : Nat → Nat → Nat) (cyI cyB cyJ cyZ : ClassId) : ∀ n : Nat, hyX2R l dC dI cyI cyB cyJ cyZ (wpX2R n 0) yX2_readCondition wsX2_readCondition (rmX2R n) ∧ hyX2R l dC dI cyI cyB cyJ cyZ (wpX2R n 1) yX2_readAtom wsX2_readAtom (rmX2R n) := by
  intro n
  induction n with
  | zero => exact ⟨fun q0 q1 q2 q3 q4 q5 q6 q7 q8 q9 q10 q11 q12 q13 q14 q15 q16 q17 h => False.elim h, fun q0 q1 q2 q3 q4 q5 q6 q7 q8 q9 q10 q11 q12 q13 q14 q15 q16 q17 h => False.elim h⟩
  | succ n ih =>
    obtain ⟨ih0, ih1⟩ := ih
    exact ⟨fun q0 q1 q2 q3 q4 q5 q6 q7 q8 q9 q10 q11 q12 q13 q14 q15 q16 q17 h => ctX2_readCondition_of l dC dI cyI cyB cyJ cyZ q0 q1 q2 q3 q4 q5 q6 q7 q8 q9 q10 q11 q12 q13 q14 q15 q16 q17 ih0 ih1 h, fun q0 q1 q2 q3 q4 q5 q6 q7 q8 q9 q10 q11 q12 q13 q14 q15 q16 q17 h => ctX2_readAtom_of l dC dI cyI cyB cyJ cyZ q0 q1 q2 q3 q4 q5 q6 q7 q8 q9 q10 q11 q12 q13 q14 q15 q16 q17 ih0 ih1 h⟩
/-! LeadPark$Law.readText (LLeadPark$Tape;)Z -/
abbrev ceX2_readText (cyI cyB cyJ cyZ : ClassId) (a0 a1 a2 a3 b0_seen : Nat) (g2_size : Int32) (f3 : Nat → Int32) (g0_size : Int32) (g0_lines : Int32) (f1 : Nat → Int32) (g2_here : Int32) (g2_behind : Int32) (g2_digits : Int32) (g2_value : Int32) : va_W := [(a0, .inr (2, [.ref a1, .ref b0_seen, .int g0_size, .int g0_lines])), (a1, .inl (cyI, 400, .inl f1)), (a2, .inr (8, [.ref a3, .int g2_size, .int g2_here, .int g2_behind, .int g2_digits, .int g2_value])), (a3, .inl (cyB, 400, .inl f3))]

theorem inX2_readText_X2 : ∀ w ∈ wsX20, w ∈ wsX2_readText := fun _ h => List.mem_cons_of_mem _ (List.mem_append_left _ (List.mem_append_right _ h))
abbrev rmX2_readText : Room := { frames := 61, cells := 0, slots := 0, locals := 4025 }
set_option maxRecDepth 100000 in
set_option maxHeartbeats 4000000 in
theorem bX2_readText_77 {p : Program} {l : Launch} {e : Env} {s : State} {m : MethodId} {args : Array Value} {below : List Frame} {meth : Method} {c : Code} {dC : Nat → ClassId} {dI : Nat → Nat → Nat} {cyI cyB cyJ cyZ : ClassId} {A : Nat → Prop} {a0 a1 a2 a3 b0_seen : Nat} {adS : Nat → Nat} (C0 : cxM p s m meth c args wsX2_readText RX2 cX2_readText 3 (some .boolean)) (hK : va_K (dC, dI) vwCl (tyA cyI cyB cyJ cyZ) s) (hN : nwA s) (hA : ∀ q : Nat, s.heap.size ≤ q → A q) (hXs : (txA adS) A s s.heap) {post : Int32 → (Int32 × Int32 × (Nat → Int32) × Int32 × Int32 × Int32 × Int32) → Prop} {g2_size : Int32} {f3 : Nat → Int32} {k25 : Int32 → Int32 → (Nat → Int32) → Int32 → Int32 → Int32 → Int32 → Int32 → Prop} {Q : State → Prop} (hQ : Q = MQ below (va_Qi post (fun u : Int32 × Int32 × (Nat → Int32) × Int32 × Int32 × Int32 × Int32 => wAt dC dI cyI cyB cyJ cyZ A (ceX2_readText cyI cyB cyJ cyZ a0 a1 a2 a3 b0_seen g2_size f3 u.1 u.2.1 u.2.2.1 u.2.2.2.1 u.2.2.2.2.1 u.2.2.2.2.2.1 u.2.2.2.2.2.2)) A) args s 0 0 A) (hk25 : ∀ (g0_size : Int32) (g0_lines : Int32) (f1 : Nat → Int32) (g2_here : Int32) (g2_behind : Int32) (g2_digits : Int32) (g2_value : Int32) (x2 : Int32), k25 g0_size g0_lines f1 g2_here g2_behind g2_digits g2_value x2 → AtW p l e rmX2_readText s m args below meth c dC dI A Q 3 0 0 (ceX2_readText cyI cyB cyJ cyZ a0 a1 a2 a3 b0_seen g2_size f3 g0_size g0_lines f1 g2_here g2_behind g2_digits g2_value) [(0, .ref a0), (1, .ref a2), (2, .int x2)] 25 []) : ∀ (g0_size : Int32) (g0_lines : Int32) (f1 : Nat → Int32) (g2_here : Int32) (g2_behind : Int32) (g2_digits : Int32) (g2_value : Int32) (x2 : Int32), wpX2_readText_77 k25 post g2_size f3 g0_size g0_lines f1 g2_here g2_behind g2_digits g2_value x2 → AtW p l e rmX2_readText s m args below meth c dC dI A Q 3 0 0 (ceX2_readText cyI cyB cyJ cyZ a0 a1 a2 a3 b0_seen g2_size f3 g0_size g0_lines f1 g2_here g2_behind g2_digits g2_value) [(0, .ref a0), (1, .ref a2), (2, .int x2)] 77 [] := by
  intro g0_size g0_lines f1 g2_here g2_behind g2_digits g2_value x2 hw H locs hP hD hS ls hl
  have C1 := C0
  obtain ⟨hx, hb, hr, hml, hown, hts, hlocks⟩ := C1
  refine lv_aload_n hx hb dX2_readText_77 rfl (lv_at hl 0 rfl) ?_
  refine lv_bipush (v := (-15)) hx hb dX2_readText_78 (by decide) ?_
  have hPc := hP.sub (ws' := (ceX2_give cyI cyB cyJ cyZ a0 a1 b0_seen g0_lines g0_size f1)) [0, 1] rfl
  have hDc := hD.sub (ws' := (ceX2_give cyI cyB cyJ cyZ a0 a1 b0_seen g0_lines g0_size f1)) [0, 1] (by decide) rfl
  have hFc := va_free (wc := (ceX2_give cyI cyB cyJ cyZ a0 a1 b0_seen g0_lines g0_size f1)) hD hS hA [0, 1] rfl
  refine va_callv (va_runV (As := [.int (-15)]) (rest := []) ⟨hx, hb, hml, hown, hts⟩ (ctX2_give l dC dI cyI cyB cyJ cyZ _ a0 a1 b0_seen g0_lines g0_size f1 (-15) _ hw) (cwV 1 hts gX2_readText_X2_give rfl rfl rfl (by decide +kernel) ⟨Nat.le_of_ble_eq_true rfl, Nat.le_of_ble_eq_true rfl⟩) ⟨wPre_blind, va_recv hK hPc (ci := 2) (q0 := 0) rfl rfl, fun U hU hW => wPre_of hPc hK hDc hN hU hW⟩ rfl rfl hl.1 rfl (lv_room (Nat.le_of_ble_eq_true rfl)) dX2_readText_80 ⟨(Nat.zero_le _), (Nat.zero_le _)⟩) hS (fun q _ h => hFc q h) hFc (fun u1 t H1 locs ht hvm hw hB hz1 hk1 hS => ?_)
  obtain ⟨hP1, hK1, hD1⟩ := hB
  rw [ht] at hP1
  obtain ⟨hP, hD⟩ := va_join (wr := pickW (ceX2_readText cyI cyB cyJ cyZ a0 a1 a2 a3 b0_seen g2_size f3 g0_size g0_lines f1 g2_here g2_behind g2_digits g2_value) [2, 3]) (w1 := (ceX2_give cyI cyB cyJ cyZ a0 a1 b0_seen g0_lines u1.1 u1.2)) hP hD [0, 1] [2, 3] rfl rfl (by decide) (by decide) hk1 hFc hP1 hD1
  have hP := hP.sub (ws' := (ceX2_readText cyI cyB cyJ cyZ a0 a1 a2 a3 b0_seen g2_size f3 u1.1 g0_lines u1.2 g2_here g2_behind g2_digits g2_value)) [2, 3, 0, 1] rfl
  have hD := hD.sub (ws' := (ceX2_readText cyI cyB cyJ cyZ a0 a1 a2 a3 b0_seen g2_size f3 u1.1 g0_lines u1.2 g2_here g2_behind g2_digits g2_value)) [2, 3, 0, 1] (by decide) rfl
  generalize H1 = H at hP hS ⊢
  refine lv_aload_n hx hb dX2_readText_83 rfl (lv_at hl 0 rfl) ?_
  refine lv_dup hx hb dX2_readText_84 rfl ?_
  refine va_get (D := (dC, dI)) (ci := 2) (v := .int g0_lines) (C := RX2) (T := TX2) (N := 4) hx hb hts inX2_readText_X2 hown hK hP 0 rfl rfl 3 (by decide) (hts (.fieldLink RX2 22 "LeadPark$Law" "lines" "I") (List.mem_of_getElem? (i := 2) rfl)) (fun _ h9 => h9) rfl dX2_readText_85 ?_
  refine lv_iconst (v := 1) hx hb dX2_readText_88 (by decide) ?_
  refine lv_iadd hx hb dX2_readText_89 ?_
  refine lv_topi (fun v2 ev2 => ?_)
  have hw := hw v2 ev2
  refine va_put (D := (dC, dI)) (ci := 2) (v := .int v2) (ty := .int) (C := RX2) (T := TX2) (N := 4) hx hb hts inX2_readText_X2 tyX2 tyX2_ok nmX2 hown hK hP hD hS 0 rfl rfl 3 (by decide) (hts (.fieldLink RX2 22 "LeadPark$Law" "lines" "I") (List.mem_of_getElem? (i := 2) rfl)) (fun _ h9 => h9) rfl (by decide +kernel) rfl rfl (Nat.le_of_ble_eq_true rfl) dX2_readText_90 (fun H locs hP hD hS => ?_)
  have hP : va_P (dC, dI) vwCl (ceX2_readText cyI cyB cyJ cyZ a0 a1 a2 a3 b0_seen g2_size f3 u1.1 v2 u1.2 g2_here g2_behind g2_digits g2_value) H := hP
  have hD : va_D A (ceX2_readText cyI cyB cyJ cyZ a0 a1 a2 a3 b0_seen g2_size f3 u1.1 v2 u1.2 g2_here g2_behind g2_digits g2_value) := hD
  refine lv_aload_n hx hb dX2_readText_93 rfl (lv_at hl 1 rfl) ?_
  have hPc := hP.sub (ws' := (ceX8_isOver cyI cyB cyJ cyZ a2 a3 g2_behind g2_digits g2_value g2_size g2_here)) [2] rfl
  have hDc := hD.sub (ws' := (ceX8_isOver cyI cyB cyJ cyZ a2 a3 g2_behind g2_digits g2_value g2_size g2_here)) [2] (by decide) rfl
  have hFc := va_free (wc := (ceX8_isOver cyI cyB cyJ cyZ a2 a3 g2_behind g2_digits g2_value g2_size g2_here)) hD hS hA [2] rfl
  refine va_calli (va_runV (As := []) (rest := []) ⟨hx, hb, hml, hown, hts⟩ (ctX8_isOver l dC dI cyI cyB cyJ cyZ _ a2 a3 g2_behind g2_digits g2_value g2_size g2_here _ hw) (cwV 0 hts gX2_readText_X8_isOver rfl rfl rfl (by decide +kernel) ⟨Nat.le_of_ble_eq_true rfl, Nat.le_of_ble_eq_true rfl⟩) ⟨wPre_blind, va_recv hK hPc (ci := 8) (q0 := 0) rfl rfl, fun U hU hW => wPre_of hPc hK hDc hN hU hW⟩ rfl rfl hl.1 rfl (lv_room (Nat.le_of_ble_eq_true rfl)) dX2_readText_94 ⟨(Nat.zero_le _), (Nat.zero_le _)⟩) hS (fun q _ h => hFc q h) hFc (fun r4 u3 t H1 locs ht hvm hw hB hz1 hk1 hS => ?_)
  obtain ⟨hP1, hK1, hD1⟩ := hB
  rw [ht] at hP1
  obtain ⟨hP, hD⟩ := va_join (wr := pickW (ceX2_readText cyI cyB cyJ cyZ a0 a1 a2 a3 b0_seen g2_size f3 u1.1 v2 u1.2 g2_here g2_behind g2_digits g2_value) [0, 1, 3]) (w1 := (ceX8_isOver cyI cyB cyJ cyZ a2 a3 g2_behind g2_digits g2_value g2_size g2_here)) hP hD [2] [0, 1, 3] rfl rfl (by decide) (by decide) hk1 hFc hP1 hD1
  have hP := hP.sub (ws' := (ceX2_readText cyI cyB cyJ cyZ a0 a1 a2 a3 b0_seen g2_size f3 u1.1 v2 u1.2 g2_here g2_behind g2_digits g2_value)) [0, 1, 3, 2] rfl
  have hD := hD.sub (ws' := (ceX2_readText cyI cyB cyJ cyZ a0 a1 a2 a3 b0_seen g2_size f3 u1.1 v2 u1.2 g2_here g2_behind g2_digits g2_value)) [0, 1, 3, 2] (by decide) rfl
  generalize H1 = H at hP hS ⊢
  refine lv_if_eq (tgt := 102) hx hb dX2_readText_97 (by decide) (fun hc => ?_) (fun hc => ?_)
  · have hw := hw.1 hc
    refine lv_aload_n hx hb dX2_readText_102 rfl (lv_at hl 1 rfl) ?_
    refine lv_bipush (v := 59) hx hb dX2_readText_103 (by decide) ?_
    have hPc := hP.sub (ws' := (ceX8_isSign cyI cyB cyJ cyZ a2 a3 g2_behind g2_digits g2_value g2_size g2_here f3)) [2, 3] rfl
    have hDc := hD.sub (ws' := (ceX8_isSign cyI cyB cyJ cyZ a2 a3 g2_behind g2_digits g2_value g2_size g2_here f3)) [2, 3] (by decide) rfl
    have hFc := va_free (wc := (ceX8_isSign cyI cyB cyJ cyZ a2 a3 g2_behind g2_digits g2_value g2_size g2_here f3)) hD hS hA [2, 3] rfl
    refine va_calli (va_runV (As := [.int 59]) (rest := []) ⟨hx, hb, hml, hown, hts⟩ (ctX8_isSign l dC dI cyI cyB cyJ cyZ _ a2 a3 g2_behind g2_digits g2_value g2_size g2_here f3 59 _ hw) (cwV 1 hts gX2_readText_X8_isSign rfl rfl rfl (by decide +kernel) ⟨Nat.le_of_ble_eq_true rfl, Nat.le_of_ble_eq_true rfl⟩) ⟨wPre_blind, va_recv hK hPc (ci := 8) (q0 := 0) rfl rfl, fun U hU hW => wPre_of hPc hK hDc hN hU hW⟩ rfl rfl hl.1 rfl (lv_room (Nat.le_of_ble_eq_true rfl)) dX2_readText_105 ⟨(Nat.zero_le _), (Nat.zero_le _)⟩) hS (fun q _ h => hFc q h) hFc (fun r6 u5 t H1 locs ht hvm hw hB hz1 hk1 hS => ?_)
    obtain ⟨hP1, hK1, hD1⟩ := hB
    rw [ht] at hP1
    obtain ⟨hP, hD⟩ := va_join (wr := pickW (ceX2_readText cyI cyB cyJ cyZ a0 a1 a2 a3 b0_seen g2_size f3 u1.1 v2 u1.2 g2_here g2_behind g2_digits g2_value) [0, 1]) (w1 := (ceX8_isSign cyI cyB cyJ cyZ a2 a3 g2_behind g2_digits g2_value g2_size g2_here f3)) hP hD [2, 3] [0, 1] rfl rfl (by decide) (by decide) hk1 hFc hP1 hD1
    have hP := hP.sub (ws' := (ceX2_readText cyI cyB cyJ cyZ a0 a1 a2 a3 b0_seen g2_size f3 u1.1 v2 u1.2 g2_here g2_behind g2_digits g2_value)) [0, 1, 2, 3] rfl
    have hD := hD.sub (ws' := (ceX2_readText cyI cyB cyJ cyZ a0 a1 a2 a3 b0_seen g2_size f3 u1.1 v2 u1.2 g2_here g2_behind g2_digits g2_value)) [0, 1, 2, 3] (by decide) rfl
    generalize H1 = H at hP hS ⊢
    refine lv_if_ne (tgt := 113) hx hb dX2_readText_108 (by decide) (fun hc => ?_) (fun hc => ?_)
    · have hw := hw.1 hc
      refine lv_aload_n hx hb dX2_readText_113 rfl (lv_at hl 1 rfl) ?_
      have hPc := hP.sub (ws' := (ceX8_toNext cyI cyB cyJ cyZ a2 a3 g2_size f3 g2_here g2_behind g2_digits g2_value)) [2, 3] rfl
      have hDc := hD.sub (ws' := (ceX8_toNext cyI cyB cyJ cyZ a2 a3 g2_size f3 g2_here g2_behind g2_digits g2_value)) [2, 3] (by decide) rfl
      have hFc := va_free (wc := (ceX8_toNext cyI cyB cyJ cyZ a2 a3 g2_size f3 g2_here g2_behind g2_digits g2_value)) hD hS hA [2, 3] rfl
      refine va_callv (va_runV (As := []) (rest := []) ⟨hx, hb, hml, hown, hts⟩ (ctX8_toNext l dC dI cyI cyB cyJ cyZ _ a2 a3 g2_size f3 g2_here g2_behind g2_digits g2_value _ hw) (cwV 0 hts gX2_readText_X8_toNext rfl rfl rfl (by decide +kernel) ⟨Nat.le_of_ble_eq_true rfl, Nat.le_of_ble_eq_true rfl⟩) ⟨wPre_blind, va_recv hK hPc (ci := 8) (q0 := 0) rfl rfl, fun U hU hW => wPre_of hPc hK hDc hN hU hW⟩ rfl rfl hl.1 rfl (lv_room (Nat.le_of_ble_eq_true rfl)) dX2_readText_114 ⟨(Nat.zero_le _), (Nat.zero_le _)⟩) hS (fun q _ h => hFc q h) hFc (fun u7 t H1 locs ht hvm hw hB hz1 hk1 hS => ?_)
      obtain ⟨hP1, hK1, hD1⟩ := hB
      rw [ht] at hP1
      obtain ⟨hP, hD⟩ := va_join (wr := pickW (ceX2_readText cyI cyB cyJ cyZ a0 a1 a2 a3 b0_seen g2_size f3 u1.1 v2 u1.2 g2_here g2_behind g2_digits g2_value) [0, 1]) (w1 := (ceX8_toNext cyI cyB cyJ cyZ a2 a3 g2_size f3 u7.1 u7.2.1 u7.2.2.1 u7.2.2.2)) hP hD [2, 3] [0, 1] rfl rfl (by decide) (by decide) hk1 hFc hP1 hD1
      have hP := hP.sub (ws' := (ceX2_readText cyI cyB cyJ cyZ a0 a1 a2 a3 b0_seen g2_size f3 u1.1 v2 u1.2 u7.1 u7.2.1 u7.2.2.1 u7.2.2.2)) [0, 1, 2, 3] rfl
      have hD := hD.sub (ws' := (ceX2_readText cyI cyB cyJ cyZ a0 a1 a2 a3 b0_seen g2_size f3 u1.1 v2 u1.2 u7.1 u7.2.1 u7.2.2.1 u7.2.2.2)) [0, 1, 2, 3] (by decide) rfl
      generalize H1 = H at hP hS ⊢
      obtain ⟨v8, ev8⟩ : ∃ y : Int32, y = x2 + 1 := ⟨_, rfl⟩
      have hw := hw v8 ev8
      refine lv_iinc (v := v8) (lv' := [(2, .int v8), (0, .ref a0), (1, .ref a2)]) hx hb dX2_readText_117 hl (k := 2) rfl (by rw [ev8]; rfl) (by decide) rfl (fun ls hl => ?_)
      refine lv_goto (tgt := 25) hx hb dX2_readText_120 (by decide) ?_
      exact hk25 u1.1 v2 u1.2 u7.1 u7.2.1 u7.2.2.1 u7.2.2.2 v8 hw H locs hP hD hS ls (lv_sub hl [1, 2, 0] rfl)
    · have hw := hw.2 hc
      refine lv_iconst (v := 0) hx hb dX2_readText_111 (by decide) ?_
      rw [hQ]
      exact W.zret (v := 0) (ty := .boolean) hx hb hr rfl (fun t ht hW => ⟨⟨0, (u1.1, v2, u1.2, g2_here, g2_behind, g2_digits, g2_value), rfl, hw, by rw [ht]; exact hP, va_K.moved hW.alike hK, hD⟩, hS.F ht⟩) hS.2.2 dX2_readText_112
  · have hw := hw.2 hc
    refine lv_iconst (v := 1) hx hb dX2_readText_100 (by decide) ?_
    rw [hQ]
    exact W.zret (v := 1) (ty := .boolean) hx hb hr rfl (fun t ht hW => ⟨⟨1, (u1.1, v2, u1.2, g2_here, g2_behind, g2_digits, g2_value), rfl, hw, by rw [ht]; exact hP, va_K.moved hW.alike hK, hD⟩, hS.F ht⟩) hS.2.2 dX2_readText_101
set_option maxRecDepth 100000 in
set_option maxHeartbeats 4000000 in
theorem bX2_readText_25 {p : Program} {l : Launch} {e : Env} {s : State} {m : MethodId} {args : Array Value} {below : List Frame} {meth : Method} {c : Code} {dC : Nat → ClassId} {dI : Nat → Nat → Nat} {cyI cyB cyJ cyZ : ClassId} {A : Nat → Prop} {a0 a1 a2 a3 b0_seen : Nat} {adS : Nat → Nat} (C0 : cxM p s m meth c args wsX2_readText RX2 cX2_readText 3 (some .boolean)) (hK : va_K (dC, dI) vwCl (tyA cyI cyB cyJ cyZ) s) (hN : nwA s) (hA : ∀ q : Nat, s.heap.size ≤ q → A q) (hXs : (txA adS) A s s.heap) {post : Int32 → (Int32 × Int32 × (Nat → Int32) × Int32 × Int32 × Int32 × Int32) → Prop} {g2_size : Int32} {f3 : Nat → Int32} {Q : State → Prop} (hQ : Q = MQ below (va_Qi post (fun u : Int32 × Int32 × (Nat → Int32) × Int32 × Int32 × Int32 × Int32 => wAt dC dI cyI cyB cyJ cyZ A (ceX2_readText cyI cyB cyJ cyZ a0 a1 a2 a3 b0_seen g2_size f3 u.1 u.2.1 u.2.2.1 u.2.2.2.1 u.2.2.2.2.1 u.2.2.2.2.2.1 u.2.2.2.2.2.2)) A) args s 0 0 A) : ∀ (n : Nat) (g0_size : Int32) (g0_lines : Int32) (f1 : Nat → Int32) (g2_here : Int32) (g2_behind : Int32) (g2_digits : Int32) (g2_value : Int32) (x2 : Int32), wpX2_readText_25 post g2_size f3 n g0_size g0_lines f1 g2_here g2_behind g2_digits g2_value x2 → AtW p l e rmX2_readText s m args below meth c dC dI A Q 3 0 0 (ceX2_readText cyI cyB cyJ cyZ a0 a1 a2 a3 b0_seen g2_size f3 g0_size g0_lines f1 g2_here g2_behind g2_digits g2_value) [(0, .ref a0), (1, .ref a2), (2, .int x2)] 25 [] := by
  intro n
  induction n with
  | zero => intro g0_size g0_lines f1 g2_here g2_behind g2_digits g2_value x2 hw; exact False.elim hw
  | succ n ih =>
    intro g0_size g0_lines f1 g2_here g2_behind g2_digits g2_value x2 hw H locs hP hD hS ls hl
    have C1 := C0
    obtain ⟨hx, hb, hr, hml, hown, hts, hlocks⟩ := C1
    refine lv_iload_n hx hb dX2_readText_25 rfl (lv_at hl 2 rfl) ?_
    refine lv_bipush (v := 12) hx hb dX2_readText_26 (by decide) ?_
    refine lv_icmp_ge (tgt := 123) hx hb dX2_readText_28 (by decide) (fun hc => ?_) (fun hc => ?_)
    · have hw := hw.1 hc
      refine lv_iconst (v := 0) hx hb dX2_readText_123 (by decide) ?_
      rw [hQ]
      exact W.zret (v := 0) (ty := .boolean) hx hb hr rfl (fun t ht hW => ⟨⟨0, (g0_size, g0_lines, f1, g2_here, g2_behind, g2_digits, g2_value), rfl, hw, by rw [ht]; exact hP, va_K.moved hW.alike hK, hD⟩, hS.F ht⟩) hS.2.2 dX2_readText_124
    · have hw := hw.2 hc
      refine lv_aload_n hx hb dX2_readText_31 rfl (lv_at hl 1 rfl) ?_
      refine va_ldcS hx hb hown (hXs.2 3 _ rfl).1 dX2_readText_32 ?_
      have hPc := hP.sub (ws' := (ceX8_isWord cyI cyB cyJ cyZ a2 a3 g2_size g2_digits g2_value g2_here g2_behind f3)) [2, 3] rfl
      have hDc := hD.sub (ws' := (ceX8_isWord cyI cyB cyJ cyZ a2 a3 g2_size g2_digits g2_value g2_here g2_behind f3)) [2, 3] (by decide) rfl
      have hFc := va_free (wc := (ceX8_isWord cyI cyB cyJ cyZ a2 a3 g2_size g2_digits g2_value g2_here g2_behind f3)) hD hS hA [2, 3] rfl
      refine va_calli (va_runV (As := [.ref (adS 3)]) (rest := []) ⟨hx, hb, hml, hown, hts⟩ (ctX8_isWord l dC dI cyI cyB cyJ cyZ _ a2 a3 g2_size g2_digits g2_value g2_here g2_behind f3 _ [98, 97, 114] (adS 3) hw) (cwV 1 hts gX2_readText_X8_isWord rfl rfl rfl (by decide +kernel) ⟨Nat.le_of_ble_eq_true rfl, Nat.le_of_ble_eq_true rfl⟩) ⟨wPreX_blind (xOk_txS [98, 97, 114] (adS 3)), va_recv hK hPc (ci := 8) (q0 := 0) rfl rfl, fun U hU hW => wPreX_of (xOk_txS [98, 97, 114] (adS 3)) hPc hK hDc hN ⟨hXs.1, (hXs.2 3 _ rfl).2⟩ hS hFc hU hW⟩ rfl rfl hl.1 rfl (lv_room (Nat.le_of_ble_eq_true rfl)) dX2_readText_34 ⟨(Nat.zero_le _), (Nat.zero_le _)⟩) hS (fun q _ h => hFc q h) hFc (fun r2 u1 t H1 locs ht hvm hw hB hz1 hk1 hS => ?_)
      obtain ⟨hP1, hK1, hD1⟩ := hB
      rw [ht] at hP1
      obtain ⟨hP, hD⟩ := va_join (wr := pickW (ceX2_readText cyI cyB cyJ cyZ a0 a1 a2 a3 b0_seen g2_size f3 g0_size g0_lines f1 g2_here g2_behind g2_digits g2_value) [0, 1]) (w1 := (ceX8_isWord cyI cyB cyJ cyZ a2 a3 g2_size g2_digits g2_value g2_here g2_behind f3)) hP hD [2, 3] [0, 1] rfl rfl (by decide) (by decide) hk1 hFc hP1 hD1
      have hP := hP.sub (ws' := (ceX2_readText cyI cyB cyJ cyZ a0 a1 a2 a3 b0_seen g2_size f3 g0_size g0_lines f1 g2_here g2_behind g2_digits g2_value)) [0, 1, 2, 3] rfl
      have hD := hD.sub (ws' := (ceX2_readText cyI cyB cyJ cyZ a0 a1 a2 a3 b0_seen g2_size f3 g0_size g0_lines f1 g2_here g2_behind g2_digits g2_value)) [0, 1, 2, 3] (by decide) rfl
      generalize H1 = H at hP hS ⊢
      refine lv_if_eq (tgt := 123) hx hb dX2_readText_37 (by decide) (fun hc => ?_) (fun hc => ?_)
      · have hw := hw.1 hc
        refine lv_iconst (v := 0) hx hb dX2_readText_123 (by decide) ?_
        rw [hQ]
        exact W.zret (v := 0) (ty := .boolean) hx hb hr rfl (fun t ht hW => ⟨⟨0, (g0_size, g0_lines, f1, g2_here, g2_behind, g2_digits, g2_value), rfl, hw, by rw [ht]; exact hP, va_K.moved hW.alike hK, hD⟩, hS.F ht⟩) hS.2.2 dX2_readText_124
      · have hw := hw.2 hc
        refine lv_aload_n hx hb dX2_readText_40 rfl (lv_at hl 1 rfl) ?_
        have hPc := hP.sub (ws' := (ceX8_toNext cyI cyB cyJ cyZ a2 a3 g2_size f3 g2_here g2_behind g2_digits g2_value)) [2, 3] rfl
        have hDc := hD.sub (ws' := (ceX8_toNext cyI cyB cyJ cyZ a2 a3 g2_size f3 g2_here g2_behind g2_digits g2_value)) [2, 3] (by decide) rfl
        have hFc := va_free (wc := (ceX8_toNext cyI cyB cyJ cyZ a2 a3 g2_size f3 g2_here g2_behind g2_digits g2_value)) hD hS hA [2, 3] rfl
        refine va_callv (va_runV (As := []) (rest := []) ⟨hx, hb, hml, hown, hts⟩ (ctX8_toNext l dC dI cyI cyB cyJ cyZ _ a2 a3 g2_size f3 g2_here g2_behind g2_digits g2_value _ hw) (cwV 0 hts gX2_readText_X8_toNext rfl rfl rfl (by decide +kernel) ⟨Nat.le_of_ble_eq_true rfl, Nat.le_of_ble_eq_true rfl⟩) ⟨wPre_blind, va_recv hK hPc (ci := 8) (q0 := 0) rfl rfl, fun U hU hW => wPre_of hPc hK hDc hN hU hW⟩ rfl rfl hl.1 rfl (lv_room (Nat.le_of_ble_eq_true rfl)) dX2_readText_41 ⟨(Nat.zero_le _), (Nat.zero_le _)⟩) hS (fun q _ h => hFc q h) hFc (fun u3 t H1 locs ht hvm hw hB hz1 hk1 hS => ?_)
        obtain ⟨hP1, hK1, hD1⟩ := hB
        rw [ht] at hP1
        obtain ⟨hP, hD⟩ := va_join (wr := pickW (ceX2_readText cyI cyB cyJ cyZ a0 a1 a2 a3 b0_seen g2_size f3 g0_size g0_lines f1 g2_here g2_behind g2_digits g2_value) [0, 1]) (w1 := (ceX8_toNext cyI cyB cyJ cyZ a2 a3 g2_size f3 u3.1 u3.2.1 u3.2.2.1 u3.2.2.2)) hP hD [2, 3] [0, 1] rfl rfl (by decide) (by decide) hk1 hFc hP1 hD1
        have hP := hP.sub (ws' := (ceX2_readText cyI cyB cyJ cyZ a0 a1 a2 a3 b0_seen g2_size f3 g0_size g0_lines f1 u3.1 u3.2.1 u3.2.2.1 u3.2.2.2)) [0, 1, 2, 3] rfl
        have hD := hD.sub (ws' := (ceX2_readText cyI cyB cyJ cyZ a0 a1 a2 a3 b0_seen g2_size f3 g0_size g0_lines f1 u3.1 u3.2.1 u3.2.2.1 u3.2.2.2)) [0, 1, 2, 3] (by decide) rfl
        generalize H1 = H at hP hS ⊢
        refine lv_aload_n hx hb dX2_readText_44 rfl (lv_at hl 1 rfl) ?_
        refine va_ldcS hx hb hown (hXs.2 4 _ rfl).1 dX2_readText_45 ?_
        have hPc := hP.sub (ws' := (ceX8_isWord cyI cyB cyJ cyZ a2 a3 g2_size u3.2.2.1 u3.2.2.2 u3.1 u3.2.1 f3)) [2, 3] rfl
        have hDc := hD.sub (ws' := (ceX8_isWord cyI cyB cyJ cyZ a2 a3 g2_size u3.2.2.1 u3.2.2.2 u3.1 u3.2.1 f3)) [2, 3] (by decide) rfl
        have hFc := va_free (wc := (ceX8_isWord cyI cyB cyJ cyZ a2 a3 g2_size u3.2.2.1 u3.2.2.2 u3.1 u3.2.1 f3)) hD hS hA [2, 3] rfl
        refine va_calli (va_runV (As := [.ref (adS 4)]) (rest := []) ⟨hx, hb, hml, hown, hts⟩ (ctX8_isWord l dC dI cyI cyB cyJ cyZ _ a2 a3 g2_size u3.2.2.1 u3.2.2.2 u3.1 u3.2.1 f3 _ [105, 102] (adS 4) hw) (cwV 1 hts gX2_readText_X8_isWord rfl rfl rfl (by decide +kernel) ⟨Nat.le_of_ble_eq_true rfl, Nat.le_of_ble_eq_true rfl⟩) ⟨wPreX_blind (xOk_txS [105, 102] (adS 4)), va_recv hK hPc (ci := 8) (q0 := 0) rfl rfl, fun U hU hW => wPreX_of (xOk_txS [105, 102] (adS 4)) hPc hK hDc hN ⟨hXs.1, (hXs.2 4 _ rfl).2⟩ hS hFc hU hW⟩ rfl rfl hl.1 rfl (lv_room (Nat.le_of_ble_eq_true rfl)) dX2_readText_47 ⟨(Nat.zero_le _), (Nat.zero_le _)⟩) hS (fun q _ h => hFc q h) hFc (fun r5 u4 t H1 locs ht hvm hw hB hz1 hk1 hS => ?_)
        obtain ⟨hP1, hK1, hD1⟩ := hB
        rw [ht] at hP1
        obtain ⟨hP, hD⟩ := va_join (wr := pickW (ceX2_readText cyI cyB cyJ cyZ a0 a1 a2 a3 b0_seen g2_size f3 g0_size g0_lines f1 u3.1 u3.2.1 u3.2.2.1 u3.2.2.2) [0, 1]) (w1 := (ceX8_isWord cyI cyB cyJ cyZ a2 a3 g2_size u3.2.2.1 u3.2.2.2 u3.1 u3.2.1 f3)) hP hD [2, 3] [0, 1] rfl rfl (by decide) (by decide) hk1 hFc hP1 hD1
        have hP := hP.sub (ws' := (ceX2_readText cyI cyB cyJ cyZ a0 a1 a2 a3 b0_seen g2_size f3 g0_size g0_lines f1 u3.1 u3.2.1 u3.2.2.1 u3.2.2.2)) [0, 1, 2, 3] rfl
        have hD := hD.sub (ws' := (ceX2_readText cyI cyB cyJ cyZ a0 a1 a2 a3 b0_seen g2_size f3 g0_size g0_lines f1 u3.1 u3.2.1 u3.2.2.1 u3.2.2.2)) [0, 1, 2, 3] (by decide) rfl
        generalize H1 = H at hP hS ⊢
        refine lv_if_ne (tgt := 62) hx hb dX2_readText_50 (by decide) (fun hc => ?_) (fun hc => ?_)
        · have hw := hw.1 hc
          refine lv_aload_n hx hb dX2_readText_62 rfl (lv_at hl 1 rfl) ?_
          have hPc := hP.sub (ws' := (ceX8_toNext cyI cyB cyJ cyZ a2 a3 g2_size f3 u3.1 u3.2.1 u3.2.2.1 u3.2.2.2)) [2, 3] rfl
          have hDc := hD.sub (ws' := (ceX8_toNext cyI cyB cyJ cyZ a2 a3 g2_size f3 u3.1 u3.2.1 u3.2.2.1 u3.2.2.2)) [2, 3] (by decide) rfl
          have hFc := va_free (wc := (ceX8_toNext cyI cyB cyJ cyZ a2 a3 g2_size f3 u3.1 u3.2.1 u3.2.2.1 u3.2.2.2)) hD hS hA [2, 3] rfl
          refine va_callv (va_runV (As := []) (rest := []) ⟨hx, hb, hml, hown, hts⟩ (ctX8_toNext l dC dI cyI cyB cyJ cyZ _ a2 a3 g2_size f3 u3.1 u3.2.1 u3.2.2.1 u3.2.2.2 _ hw) (cwV 0 hts gX2_readText_X8_toNext rfl rfl rfl (by decide +kernel) ⟨Nat.le_of_ble_eq_true rfl, Nat.le_of_ble_eq_true rfl⟩) ⟨wPre_blind, va_recv hK hPc (ci := 8) (q0 := 0) rfl rfl, fun U hU hW => wPre_of hPc hK hDc hN hU hW⟩ rfl rfl hl.1 rfl (lv_room (Nat.le_of_ble_eq_true rfl)) dX2_readText_63 ⟨(Nat.zero_le _), (Nat.zero_le _)⟩) hS (fun q _ h => hFc q h) hFc (fun u6 t H1 locs ht hvm hw hB hz1 hk1 hS => ?_)
          obtain ⟨hP1, hK1, hD1⟩ := hB
          rw [ht] at hP1
          obtain ⟨hP, hD⟩ := va_join (wr := pickW (ceX2_readText cyI cyB cyJ cyZ a0 a1 a2 a3 b0_seen g2_size f3 g0_size g0_lines f1 u3.1 u3.2.1 u3.2.2.1 u3.2.2.2) [0, 1]) (w1 := (ceX8_toNext cyI cyB cyJ cyZ a2 a3 g2_size f3 u6.1 u6.2.1 u6.2.2.1 u6.2.2.2)) hP hD [2, 3] [0, 1] rfl rfl (by decide) (by decide) hk1 hFc hP1 hD1
          have hP := hP.sub (ws' := (ceX2_readText cyI cyB cyJ cyZ a0 a1 a2 a3 b0_seen g2_size f3 g0_size g0_lines f1 u6.1 u6.2.1 u6.2.2.1 u6.2.2.2)) [0, 1, 2, 3] rfl
          have hD := hD.sub (ws' := (ceX2_readText cyI cyB cyJ cyZ a0 a1 a2 a3 b0_seen g2_size f3 g0_size g0_lines f1 u6.1 u6.2.1 u6.2.2.1 u6.2.2.2)) [0, 1, 2, 3] (by decide) rfl
          generalize H1 = H at hP hS ⊢
          refine lv_aload_n hx hb dX2_readText_66 rfl (lv_at hl 0 rfl) ?_
          refine lv_aload_n hx hb dX2_readText_67 rfl (lv_at hl 1 rfl) ?_
          refine lv_iconst (v := 0) hx hb dX2_readText_68 (by decide) ?_
          have hPc := hP.sub (ws' := (ceX2_readCondition cyI cyB cyJ cyZ a0 a1 a2 a3 b0_seen g0_lines g2_size f3 g0_size f1 u6.1 u6.2.1 u6.2.2.1 u6.2.2.2)) [0, 1, 2, 3] rfl
          have hDc := hD.sub (ws' := (ceX2_readCondition cyI cyB cyJ cyZ a0 a1 a2 a3 b0_seen g0_lines g2_size f3 g0_size f1 u6.1 u6.2.1 u6.2.2.1 u6.2.2.2)) [0, 1, 2, 3] (by decide) rfl
          have hFc := va_free (wc := (ceX2_readCondition cyI cyB cyJ cyZ a0 a1 a2 a3 b0_seen g0_lines g2_size f3 g0_size f1 u6.1 u6.2.1 u6.2.2.1 u6.2.2.2)) hD hS hA [0, 1, 2, 3] rfl
          obtain ⟨nG, hG, hw⟩ := hw
          refine va_calli (va_runV (As := [.ref a2, .int 0]) (rest := []) ⟨hx, hb, hml, hown, hts⟩ ((ctX2R l dC dI cyI cyB cyJ cyZ nG).1 _ a0 a1 a2 a3 b0_seen g0_lines g2_size f3 g0_size f1 u6.1 u6.2.1 u6.2.2.1 u6.2.2.2 0 _ adS hw) (cwV 2 hts gX2_readText_X2_readCondition rfl rfl rfl (by decide +kernel) ⟨(by simp <;> omega), (by simp <;> omega)⟩) ⟨wPreX_blind (xOk_txA adS), va_recv hK hPc (ci := 2) (q0 := 0) rfl rfl, fun U hU hW => wPreX_of (xOk_txA adS) hPc hK hDc hN hXs hS hFc hU hW⟩ rfl rfl hl.1 rfl (lv_room (Nat.le_of_ble_eq_true rfl)) dX2_readText_69 ⟨(Nat.zero_le _), (Nat.zero_le _)⟩) hS (fun q _ h => hFc q h) hFc (fun r8 u7 t H1 locs ht hvm hw hB hz1 hk1 hS => ?_)
          obtain ⟨hP1, hK1, hD1⟩ := hB
          rw [ht] at hP1
          obtain ⟨hP, hD⟩ := va_join (wr := pickW (ceX2_readText cyI cyB cyJ cyZ a0 a1 a2 a3 b0_seen g2_size f3 g0_size g0_lines f1 u6.1 u6.2.1 u6.2.2.1 u6.2.2.2) []) (w1 := (ceX2_readCondition cyI cyB cyJ cyZ a0 a1 a2 a3 b0_seen g0_lines g2_size f3 u7.1 u7.2.1 u7.2.2.1 u7.2.2.2.1 u7.2.2.2.2.1 u7.2.2.2.2.2)) hP hD [0, 1, 2, 3] [] rfl rfl (by decide) (by decide) hk1 hFc hP1 hD1
          have hP := hP.sub (ws' := (ceX2_readText cyI cyB cyJ cyZ a0 a1 a2 a3 b0_seen g2_size f3 u7.1 g0_lines u7.2.1 u7.2.2.1 u7.2.2.2.1 u7.2.2.2.2.1 u7.2.2.2.2.2)) [0, 1, 2, 3] rfl
          have hD := hD.sub (ws' := (ceX2_readText cyI cyB cyJ cyZ a0 a1 a2 a3 b0_seen g2_size f3 u7.1 g0_lines u7.2.1 u7.2.2.1 u7.2.2.2.1 u7.2.2.2.2.1 u7.2.2.2.2.2)) [0, 1, 2, 3] (by decide) rfl
          generalize H1 = H at hP hS ⊢
          refine lv_if_ne (tgt := 77) hx hb dX2_readText_72 (by decide) (fun hc => ?_) (fun hc => ?_)
          · have hw := hw.1 hc
            exact bX2_readText_77 C0 hK hN hA hXs hQ ih u7.1 g0_lines u7.2.1 u7.2.2.1 u7.2.2.2.1 u7.2.2.2.2.1 u7.2.2.2.2.2 x2 hw _ _ hP hD hS ls (lv_sub hl [0, 1, 2] rfl)
          · have hw := hw.2 hc
            refine lv_iconst (v := 0) hx hb dX2_readText_75 (by decide) ?_
            rw [hQ]
            exact W.zret (v := 0) (ty := .boolean) hx hb hr rfl (fun t ht hW => ⟨⟨0, (u7.1, g0_lines, u7.2.1, u7.2.2.1, u7.2.2.2.1, u7.2.2.2.2.1, u7.2.2.2.2.2), rfl, hw, by rw [ht]; exact hP, va_K.moved hW.alike hK, hD⟩, hS.F ht⟩) hS.2.2 dX2_readText_76
        · have hw := hw.2 hc
          refine lv_aload_n hx hb dX2_readText_53 rfl (lv_at hl 0 rfl) ?_
          refine lv_bipush (v := (-14)) hx hb dX2_readText_54 (by decide) ?_
          have hPc := hP.sub (ws' := (ceX2_give cyI cyB cyJ cyZ a0 a1 b0_seen g0_lines g0_size f1)) [0, 1] rfl
          have hDc := hD.sub (ws' := (ceX2_give cyI cyB cyJ cyZ a0 a1 b0_seen g0_lines g0_size f1)) [0, 1] (by decide) rfl
          have hFc := va_free (wc := (ceX2_give cyI cyB cyJ cyZ a0 a1 b0_seen g0_lines g0_size f1)) hD hS hA [0, 1] rfl
          refine va_callv (va_runV (As := [.int (-14)]) (rest := []) ⟨hx, hb, hml, hown, hts⟩ (ctX2_give l dC dI cyI cyB cyJ cyZ _ a0 a1 b0_seen g0_lines g0_size f1 (-14) _ hw) (cwV 1 hts gX2_readText_X2_give rfl rfl rfl (by decide +kernel) ⟨Nat.le_of_ble_eq_true rfl, Nat.le_of_ble_eq_true rfl⟩) ⟨wPre_blind, va_recv hK hPc (ci := 2) (q0 := 0) rfl rfl, fun U hU hW => wPre_of hPc hK hDc hN hU hW⟩ rfl rfl hl.1 rfl (lv_room (Nat.le_of_ble_eq_true rfl)) dX2_readText_56 ⟨(Nat.zero_le _), (Nat.zero_le _)⟩) hS (fun q _ h => hFc q h) hFc (fun u9 t H1 locs ht hvm hw hB hz1 hk1 hS => ?_)
          obtain ⟨hP1, hK1, hD1⟩ := hB
          rw [ht] at hP1
          obtain ⟨hP, hD⟩ := va_join (wr := pickW (ceX2_readText cyI cyB cyJ cyZ a0 a1 a2 a3 b0_seen g2_size f3 g0_size g0_lines f1 u3.1 u3.2.1 u3.2.2.1 u3.2.2.2) [2, 3]) (w1 := (ceX2_give cyI cyB cyJ cyZ a0 a1 b0_seen g0_lines u9.1 u9.2)) hP hD [0, 1] [2, 3] rfl rfl (by decide) (by decide) hk1 hFc hP1 hD1
          have hP := hP.sub (ws' := (ceX2_readText cyI cyB cyJ cyZ a0 a1 a2 a3 b0_seen g2_size f3 u9.1 g0_lines u9.2 u3.1 u3.2.1 u3.2.2.1 u3.2.2.2)) [2, 3, 0, 1] rfl
          have hD := hD.sub (ws' := (ceX2_readText cyI cyB cyJ cyZ a0 a1 a2 a3 b0_seen g2_size f3 u9.1 g0_lines u9.2 u3.1 u3.2.1 u3.2.2.1 u3.2.2.2)) [2, 3, 0, 1] (by decide) rfl
          generalize H1 = H at hP hS ⊢
          refine lv_goto (tgt := 77) hx hb dX2_readText_59 (by decide) ?_
          exact bX2_readText_77 C0 hK hN hA hXs hQ ih u9.1 g0_lines u9.2 u3.1 u3.2.1 u3.2.2.1 u3.2.2.2 x2 hw _ _ hP hD hS ls (lv_sub hl [0, 1, 2] rfl)
set_option maxRecDepth 100000 in
set_option maxHeartbeats 4000000 in
theorem ctX2_readText (l : Launch) (dC : Nat → ClassId) (dI : Nat → Nat → Nat) (cyI cyB cyJ cyZ : ClassId) (sz : Nat) (a0 a1 a2 a3 b0_seen : Nat) (g2_size : Int32) (f3 : Nat → Int32) (g0_size : Int32) (g0_lines : Int32) (f1 : Nat → Int32) (g2_here : Int32) (g2_behind : Int32) (g2_digits : Int32) (g2_value : Int32) (post : Int32 → (Int32 × Int32 × (Nat → Int32) × Int32 × Int32 × Int32 × Int32) → Prop) (adS : Nat → Nat) (hw : wpX2_readText post g2_size f3 g0_size g0_lines f1 g2_here g2_behind g2_digits g2_value ) : Met l yX2_readText wsX2_readText rmX2_readText (va_Pc [.ref a0, .ref a2] (wPreX dC dI cyI cyB cyJ cyZ sz (ceX2_readText cyI cyB cyJ cyZ a0 a1 a2 a3 b0_seen g2_size f3 g0_size g0_lines f1 g2_here g2_behind g2_digits g2_value) (txA adS))) (va_Qi post (fun u : Int32 × Int32 × (Nat → Int32) × Int32 × Int32 × Int32 × Int32 => wAt dC dI cyI cyB cyJ cyZ (va_A (ceX2_readText cyI cyB cyJ cyZ a0 a1 a2 a3 b0_seen g2_size f3 g0_size g0_lines f1 g2_here g2_behind g2_digits g2_value) sz) (ceX2_readText cyI cyB cyJ cyZ a0 a1 a2 a3 b0_seen g2_size f3 u.1 u.2.1 u.2.2.1 u.2.2.2.1 u.2.2.2.2.1 u.2.2.2.2.2.1 u.2.2.2.2.2.2)) (va_A (ceX2_readText cyI cyB cyJ cyZ a0 a1 a2 a3 b0_seen g2_size f3 g0_size g0_lines f1 g2_here g2_behind g2_digits g2_value) sz)) 0 0 (va_A (ceX2_readText cyI cyB cyJ cyZ a0 a1 a2 a3 b0_seen g2_size f3 g0_size g0_lines f1 g2_here g2_behind g2_digits g2_value) sz) := by
  refine Met.ofW (cc := cX2_readText) (maxL := 3) (ret := (some .boolean)) (by decide) rfl ?_
  intro p e s m args below meth c s₁ B hml hv
  obtain ⟨rfl, ⟨hsz, hP, hK, hD0, hN⟩, hXs⟩ := hv
  have hx := B.exec
  have hb := B.bytes
  have hr := B.returns
  have hts := atoms_spec (ws := wsX2_readText) B.pre
  have hown : s.vm.findClass RX2 = some m.cls := findClass_of_methodNamed B.named
  have hlocks := B.notSynchronized
  subst hsz
  have hD := hD0.self (sz := s.heap.size)
  generalize hAe : va_A (ceX2_readText cyI cyB cyJ cyZ a0 a1 a2 a3 b0_seen g2_size f3 g0_size g0_lines f1 g2_here g2_behind g2_digits g2_value) s.heap.size = A at hD hXs ⊢
  have hA : ∀ q : Nat, s.heap.size ≤ q → A q := fun q h => by rw [← hAe]; exact Or.inr h
  have hS : va_S A s.heap s.heap [] := va_S.rf
  have C0 : cxM p s m meth c _ wsX2_readText RX2 cX2_readText 3 (some .boolean) := ⟨hx, hb, hr, hml, hown, hts, hlocks⟩
  have hl := lv_entry ([.ref a0, .ref a2]) (n := 3) (Nat.le_of_ble_eq_true rfl)
  rw [lg_entry_eq]
  generalize (lg_sl ([.ref a0, .ref a2]) ++ List.replicate (3 - (lg_sl ([.ref a0, .ref a2])).length) Slot.unset).toArray = ls at hl ⊢
  have hl : lv_has ls 3 [(0, .ref a0), (1, .ref a2)] := hl
  show W p l e rmX2_readText s m _ below meth c _ _ _ _ _ _
  refine wq (fun Q hQ => ?_)
  refine lv_aload_n hx hb dX2_readText_0 rfl (lv_at hl 0 rfl) ?_
  refine lv_iconst (v := 0) hx hb dX2_readText_1 (by decide) ?_
  refine va_put (D := (dC, dI)) (ci := 2) (v := .int 0) (ty := .int) (C := RX2) (T := TX2) (N := 4) hx hb hts inX2_readText_X2 tyX2 tyX2_ok nmX2 hown hK hP hD hS 0 rfl rfl 2 (by decide) (hts (.fieldLink RX2 18 "LeadPark$Law" "size" "I") (List.mem_of_getElem? (i := 1) rfl)) (fun _ h9 => h9) rfl (by decide +kernel) rfl rfl (Nat.le_of_ble_eq_true rfl) dX2_readText_2 (fun H locs hP hD hS => ?_)
  have hP : va_P (dC, dI) vwCl (ceX2_readText cyI cyB cyJ cyZ a0 a1 a2 a3 b0_seen g2_size f3 0 g0_lines f1 g2_here g2_behind g2_digits g2_value) H := hP
  have hD : va_D A (ceX2_readText cyI cyB cyJ cyZ a0 a1 a2 a3 b0_seen g2_size f3 0 g0_lines f1 g2_here g2_behind g2_digits g2_value) := hD
  refine lv_aload_n hx hb dX2_readText_5 rfl (lv_at hl 0 rfl) ?_
  refine lv_iconst (v := 0) hx hb dX2_readText_6 (by decide) ?_
  refine va_put (D := (dC, dI)) (ci := 2) (v := .int 0) (ty := .int) (C := RX2) (T := TX2) (N := 4) hx hb hts inX2_readText_X2 tyX2 tyX2_ok nmX2 hown hK hP hD hS 0 rfl rfl 3 (by decide) (hts (.fieldLink RX2 22 "LeadPark$Law" "lines" "I") (List.mem_of_getElem? (i := 2) rfl)) (fun _ h9 => h9) rfl (by decide +kernel) rfl rfl (Nat.le_of_ble_eq_true rfl) dX2_readText_7 (fun H locs hP hD hS => ?_)
  have hP : va_P (dC, dI) vwCl (ceX2_readText cyI cyB cyJ cyZ a0 a1 a2 a3 b0_seen g2_size f3 0 0 f1 g2_here g2_behind g2_digits g2_value) H := hP
  have hD : va_D A (ceX2_readText cyI cyB cyJ cyZ a0 a1 a2 a3 b0_seen g2_size f3 0 0 f1 g2_here g2_behind g2_digits g2_value) := hD
  refine lv_aload_n hx hb dX2_readText_10 rfl (lv_at hl 1 rfl) ?_
  have hPc := hP.sub (ws' := (ceX8_toFirst cyI cyB cyJ cyZ a2 a3 g2_size f3 g2_here g2_behind g2_digits g2_value)) [2, 3] rfl
  have hDc := hD.sub (ws' := (ceX8_toFirst cyI cyB cyJ cyZ a2 a3 g2_size f3 g2_here g2_behind g2_digits g2_value)) [2, 3] (by decide) rfl
  have hFc := va_free (wc := (ceX8_toFirst cyI cyB cyJ cyZ a2 a3 g2_size f3 g2_here g2_behind g2_digits g2_value)) hD hS hA [2, 3] rfl
  refine va_callv (va_runV (As := []) (rest := []) ⟨hx, hb, hml, hown, hts⟩ (ctX8_toFirst l dC dI cyI cyB cyJ cyZ _ a2 a3 g2_size f3 g2_here g2_behind g2_digits g2_value _ hw) (cwV 0 hts gX2_readText_X8_toFirst rfl rfl rfl (by decide +kernel) ⟨Nat.le_of_ble_eq_true rfl, Nat.le_of_ble_eq_true rfl⟩) ⟨wPre_blind, va_recv hK hPc (ci := 8) (q0 := 0) rfl rfl, fun U hU hW => wPre_of hPc hK hDc hN hU hW⟩ rfl rfl hl.1 rfl (lv_room (Nat.le_of_ble_eq_true rfl)) dX2_readText_11 ⟨(Nat.zero_le _), (Nat.zero_le _)⟩) hS (fun q _ h => hFc q h) hFc (fun u1 t H1 locs ht hvm hw hB hz1 hk1 hS => ?_)
  obtain ⟨hP1, hK1, hD1⟩ := hB
  rw [ht] at hP1
  obtain ⟨hP, hD⟩ := va_join (wr := pickW (ceX2_readText cyI cyB cyJ cyZ a0 a1 a2 a3 b0_seen g2_size f3 0 0 f1 g2_here g2_behind g2_digits g2_value) [0, 1]) (w1 := (ceX8_toFirst cyI cyB cyJ cyZ a2 a3 g2_size f3 u1.1 u1.2.1 u1.2.2.1 u1.2.2.2)) hP hD [2, 3] [0, 1] rfl rfl (by decide) (by decide) hk1 hFc hP1 hD1
  have hP := hP.sub (ws' := (ceX2_readText cyI cyB cyJ cyZ a0 a1 a2 a3 b0_seen g2_size f3 0 0 f1 u1.1 u1.2.1 u1.2.2.1 u1.2.2.2)) [0, 1, 2, 3] rfl
  have hD := hD.sub (ws' := (ceX2_readText cyI cyB cyJ cyZ a0 a1 a2 a3 b0_seen g2_size f3 0 0 f1 u1.1 u1.2.1 u1.2.2.1 u1.2.2.2)) [0, 1, 2, 3] (by decide) rfl
  generalize H1 = H at hP hS ⊢
  refine lv_aload_n hx hb dX2_readText_14 rfl (lv_at hl 1 rfl) ?_
  have hPc := hP.sub (ws' := (ceX8_isOver cyI cyB cyJ cyZ a2 a3 u1.2.1 u1.2.2.1 u1.2.2.2 g2_size u1.1)) [2] rfl
  have hDc := hD.sub (ws' := (ceX8_isOver cyI cyB cyJ cyZ a2 a3 u1.2.1 u1.2.2.1 u1.2.2.2 g2_size u1.1)) [2] (by decide) rfl
  have hFc := va_free (wc := (ceX8_isOver cyI cyB cyJ cyZ a2 a3 u1.2.1 u1.2.2.1 u1.2.2.2 g2_size u1.1)) hD hS hA [2] rfl
  refine va_calli (va_runV (As := []) (rest := []) ⟨hx, hb, hml, hown, hts⟩ (ctX8_isOver l dC dI cyI cyB cyJ cyZ _ a2 a3 u1.2.1 u1.2.2.1 u1.2.2.2 g2_size u1.1 _ hw) (cwV 0 hts gX2_readText_X8_isOver rfl rfl rfl (by decide +kernel) ⟨Nat.le_of_ble_eq_true rfl, Nat.le_of_ble_eq_true rfl⟩) ⟨wPre_blind, va_recv hK hPc (ci := 8) (q0 := 0) rfl rfl, fun U hU hW => wPre_of hPc hK hDc hN hU hW⟩ rfl rfl hl.1 rfl (lv_room (Nat.le_of_ble_eq_true rfl)) dX2_readText_15 ⟨(Nat.zero_le _), (Nat.zero_le _)⟩) hS (fun q _ h => hFc q h) hFc (fun r3 u2 t H1 locs ht hvm hw hB hz1 hk1 hS => ?_)
  obtain ⟨hP1, hK1, hD1⟩ := hB
  rw [ht] at hP1
  obtain ⟨hP, hD⟩ := va_join (wr := pickW (ceX2_readText cyI cyB cyJ cyZ a0 a1 a2 a3 b0_seen g2_size f3 0 0 f1 u1.1 u1.2.1 u1.2.2.1 u1.2.2.2) [0, 1, 3]) (w1 := (ceX8_isOver cyI cyB cyJ cyZ a2 a3 u1.2.1 u1.2.2.1 u1.2.2.2 g2_size u1.1)) hP hD [2] [0, 1, 3] rfl rfl (by decide) (by decide) hk1 hFc hP1 hD1
  have hP := hP.sub (ws' := (ceX2_readText cyI cyB cyJ cyZ a0 a1 a2 a3 b0_seen g2_size f3 0 0 f1 u1.1 u1.2.1 u1.2.2.1 u1.2.2.2)) [0, 1, 3, 2] rfl
  have hD := hD.sub (ws' := (ceX2_readText cyI cyB cyJ cyZ a0 a1 a2 a3 b0_seen g2_size f3 0 0 f1 u1.1 u1.2.1 u1.2.2.1 u1.2.2.2)) [0, 1, 3, 2] (by decide) rfl
  generalize H1 = H at hP hS ⊢
  refine lv_if_eq (tgt := 23) hx hb dX2_readText_18 (by decide) (fun hc => ?_) (fun hc => ?_)
  · have hw := hw.1 hc
    refine lv_iconst (v := 0) hx hb dX2_readText_23 (by decide) ?_
    refine lv_istore_n (lv' := [(2, .int 0), (0, .ref a0), (1, .ref a2)]) hx hb dX2_readText_24 rfl hl (by decide) rfl (fun ls hl => ?_)
    obtain ⟨nn, hw⟩ := hw
    exact bX2_readText_25 C0 hK hN hA hXs hQ nn 0 0 f1 u1.1 u1.2.1 u1.2.2.1 u1.2.2.2 0 hw _ _ hP hD hS ls (lv_sub hl [1, 2, 0] rfl)
  · have hw := hw.2 hc
    refine lv_iconst (v := 1) hx hb dX2_readText_21 (by decide) ?_
    rw [hQ]
    exact W.zret (v := 1) (ty := .boolean) hx hb hr rfl (fun t ht hW => ⟨⟨1, (0, 0, f1, u1.1, u1.2.1, u1.2.2.1, u1.2.2.2), rfl, hw, by rw [ht]; exact hP, va_K.moved hW.alike hK, hD⟩, hS.F ht⟩) hS.2.2 dX2_readText_22
