/-! LeadPark$Ground.readCorners (LLeadPark$Tape;I)Z -/
abbrev ceX1_readCorners (cyI cyB cyJ cyZ : ClassId) (a0 a1 a2 a3 a4 a5 b0_walls : Nat) (g0_ways : Int32) (g0_wallCount : Int32) (g0_texts : Int32) (g4_size : Int32) (f5 : Nat → Int32) (f1 : Nat → Int32) (f2 : Nat → Int32) (f3 : Nat → Int32) (g4_here : Int32) (g4_behind : Int32) (g4_digits : Int32) (g4_value : Int32) : va_W := [(a0, .inr (1, [.ref a2, .ref a3, .ref a1, .ref b0_walls, .int g0_ways, .int g0_wallCount, .int g0_texts])), (a1, .inl (cyI, 12, .inl f1)), (a2, .inl (cyI, 360, .inl f2)), (a3, .inl (cyI, 360, .inl f3)), (a4, .inr (8, [.ref a5, .int g4_size, .int g4_here, .int g4_behind, .int g4_digits, .int g4_value])), (a5, .inl (cyB, 400, .inl f5))]

theorem inX1_readCorners_X1 : ∀ w ∈ wsX10, w ∈ wsX1_readCorners := fun _ h => List.mem_cons_of_mem _ (List.mem_append_left _ (List.mem_append_right _ h))
theorem inX1_readCorners_X8 : ∀ w ∈ wsX80, w ∈ wsX1_readCorners := fun _ h => List.mem_cons_of_mem _ (List.mem_append_right _ h)
abbrev rmX1_readCorners : Room := { frames := 2, cells := 0, slots := 0, locals := 40 }
set_option maxRecDepth 100000 in
set_option maxHeartbeats 4000000 in
theorem bX1_readCorners_7 {p : Program} {l : Launch} {e : Env} {s : State} {m : MethodId} {args : Array Value} {below : List Frame} {meth : Method} {c : Code} {dC : Nat → ClassId} {dI : Nat → Nat → Nat} {cyI cyB cyJ cyZ : ClassId} {A : Nat → Prop} {a0 a1 a2 a3 a4 a5 b0_walls : Nat} {g0_ways : Int32} {g0_wallCount : Int32} {g0_texts : Int32} (C0 : cxM p s m meth c args wsX1_readCorners RX1 cX1_readCorners 4 (some .boolean)) (hK : va_K (dC, dI) vwCl (tyA cyI cyB cyJ cyZ) s) (hN : nwA s) (hA : ∀ q : Nat, s.heap.size ≤ q → A q) {post : Int32 → ((Nat → Int32) × (Nat → Int32) × (Nat → Int32) × Int32 × Int32 × Int32 × Int32) → Prop} {g4_size : Int32} {f5 : Nat → Int32} {Q : State → Prop} (hQ : Q = MQ below (va_Qi post (fun u : (Nat → Int32) × (Nat → Int32) × (Nat → Int32) × Int32 × Int32 × Int32 × Int32 => wAt dC dI cyI cyB cyJ cyZ A (ceX1_readCorners cyI cyB cyJ cyZ a0 a1 a2 a3 a4 a5 b0_walls g0_ways g0_wallCount g0_texts g4_size f5 u.1 u.2.1 u.2.2.1 u.2.2.2.1 u.2.2.2.2.1 u.2.2.2.2.2.1 u.2.2.2.2.2.2)) A) args s 0 0 A) : ∀ (n : Nat) (f1 : Nat → Int32) (f2 : Nat → Int32) (f3 : Nat → Int32) (g4_here : Int32) (g4_behind : Int32) (g4_digits : Int32) (g4_value : Int32) (x2 : Int32) (x3 : Int32), wpX1_readCorners_7 post g4_size f5 n f1 f2 f3 g4_here g4_behind g4_digits g4_value x2 x3 → AtW p l e rmX1_readCorners s m args below meth c dC dI A Q 4 0 0 (ceX1_readCorners cyI cyB cyJ cyZ a0 a1 a2 a3 a4 a5 b0_walls g0_ways g0_wallCount g0_texts g4_size f5 f1 f2 f3 g4_here g4_behind g4_digits g4_value) [(0, .ref a0), (1, .ref a4), (2, .int x2), (3, .int x3)] 7 [] := by
  intro n
  induction n with
  | zero => intro f1 f2 f3 g4_here g4_behind g4_digits g4_value x2 x3 hw; exact False.elim hw
  | succ n ih =>
    intro f1 f2 f3 g4_here g4_behind g4_digits g4_value x2 x3 hw H locs hP hD hS ls hl
    have C1 := C0
    obtain ⟨hx, hb, hr, hml, hown, hts, hlocks⟩ := C1
    refine lv_iload_n hx hb dX1_readCorners_7 rfl (lv_at hl 3 rfl) ?_
    refine lv_bipush (v := 30) hx hb dX1_readCorners_8 (by decide) ?_
    refine lv_icmp_ge (tgt := 105) hx hb dX1_readCorners_10 (by decide) (fun hc => ?_) (fun hc => ?_)
    · have hw := hw.1 hc
      refine lv_iconst (v := 0) hx hb dX1_readCorners_105 (by decide) ?_
      rw [hQ]
      exact W.zret (v := 0) (ty := .boolean) hx hb hr rfl (fun t ht hW => ⟨⟨0, (f1, f2, f3, g4_here, g4_behind, g4_digits, g4_value), rfl, hw, by rw [ht]; exact hP, va_K.moved hW.alike hK, hD⟩, hS.F ht⟩) hS.2.2 dX1_readCorners_106
    · have hw := hw.2 hc
      refine lv_aload_n hx hb dX1_readCorners_13 rfl (lv_at hl 1 rfl) ?_
      refine lv_iconst (v := 3) hx hb dX1_readCorners_14 (by decide) ?_
      have hPc := hP.sub (ws' := (ceX8_isNumber cyI cyB cyJ cyZ a4 a5 g4_size g4_here g4_behind g4_value g4_digits)) [4] rfl
      have hDc := hD.sub (ws' := (ceX8_isNumber cyI cyB cyJ cyZ a4 a5 g4_size g4_here g4_behind g4_value g4_digits)) [4] (by decide) rfl
      have hFc := va_free (wc := (ceX8_isNumber cyI cyB cyJ cyZ a4 a5 g4_size g4_here g4_behind g4_value g4_digits)) hD hS hA [4] rfl
      refine va_calli (va_runV (As := [.int 3]) (rest := []) ⟨hx, hb, hml, hown, hts⟩ (ctX8_isNumber l dC dI cyI cyB cyJ cyZ _ a4 a5 g4_size g4_here g4_behind g4_value g4_digits 3 _ hw) (cwV 1 hts gX1_readCorners_X8_isNumber rfl rfl rfl (by decide +kernel) ⟨Nat.le_of_ble_eq_true rfl, Nat.le_of_ble_eq_true rfl⟩) ⟨wPre_blind, va_recv hK hPc (ci := 8) (q0 := 0) rfl rfl, fun U hU hW => wPre_of hPc hK hDc hN hU hW⟩ rfl rfl hl.1 rfl (lv_room (Nat.le_of_ble_eq_true rfl)) dX1_readCorners_15 ⟨(Nat.zero_le _), (Nat.zero_le _)⟩) hS (fun q _ h => hFc q h) hFc (fun r2 u1 t H1 locs ht hvm hw hB hz1 hk1 hS => ?_)
      obtain ⟨hP1, hK1, hD1⟩ := hB
      rw [ht] at hP1
      obtain ⟨hP, hD⟩ := va_join (wr := pickW (ceX1_readCorners cyI cyB cyJ cyZ a0 a1 a2 a3 a4 a5 b0_walls g0_ways g0_wallCount g0_texts g4_size f5 f1 f2 f3 g4_here g4_behind g4_digits g4_value) [0, 1, 2, 3, 5]) (w1 := (ceX8_isNumber cyI cyB cyJ cyZ a4 a5 g4_size g4_here g4_behind g4_value g4_digits)) hP hD [4] [0, 1, 2, 3, 5] rfl rfl (by decide) (by decide) hk1 hFc hP1 hD1
      have hP := hP.sub (ws' := (ceX1_readCorners cyI cyB cyJ cyZ a0 a1 a2 a3 a4 a5 b0_walls g0_ways g0_wallCount g0_texts g4_size f5 f1 f2 f3 g4_here g4_behind g4_digits g4_value)) [0, 1, 2, 3, 5, 4] rfl
      have hD := hD.sub (ws' := (ceX1_readCorners cyI cyB cyJ cyZ a0 a1 a2 a3 a4 a5 b0_walls g0_ways g0_wallCount g0_texts g4_size f5 f1 f2 f3 g4_here g4_behind g4_digits g4_value)) [0, 1, 2, 3, 5, 4] (by decide) rfl
      generalize H1 = H at hP hS ⊢
      refine lv_if_ne (tgt := 23) hx hb dX1_readCorners_18 (by decide) (fun hc => ?_) (fun hc => ?_)
      · have hw := hw.1 hc
        refine lv_aload_n hx hb dX1_readCorners_23 rfl (lv_at hl 0 rfl) ?_
        refine va_get (D := (dC, dI)) (ci := 1) (v := .ref a2) (C := RX1) (T := TX1) (N := 7) hx hb hts inX1_readCorners_X1 hown hK hP 0 rfl rfl 0 (by decide) (hts (.fieldLink RX1 9 "LeadPark$Ground" "xs" "[I") (List.mem_of_getElem? (i := 2) rfl)) (fun _ h9 => h9) rfl dX1_readCorners_24 ?_
        refine lv_iload_n hx hb dX1_readCorners_27 rfl (lv_at hl 2 rfl) ?_
        refine lv_bipush (v := 30) hx hb dX1_readCorners_28 (by decide) ?_
        refine lv_imul hx hb dX1_readCorners_30 ?_
        refine lv_iload_n hx hb dX1_readCorners_31 rfl (lv_at hl 3 rfl) ?_
        refine lv_iadd hx hb dX1_readCorners_32 ?_
        refine lv_aload_n hx hb dX1_readCorners_33 rfl (lv_at hl 1 rfl) ?_
        refine va_getN (D := (dC, dI)) (ci := 8) (v := .int g4_value) (C := RX8) (T := TX8) (N := 6) hx hb hts inX1_readCorners_X8 hown hK hP 4 rfl rfl 5 (by decide) (va_Nw.use rfl (hN _ (List.mem_of_getElem? (i := 3) rfl))) (fun _ h9 => h9) rfl dX1_readCorners_34 ?_
        obtain ⟨hi, hw⟩ := hw
        refine va_iast hx hb hK hP hD hS 2 0 rfl rfl hi dX1_readCorners_37 (fun H locs hP hD hS => ?_)
        have hP : va_P (dC, dI) vwCl (ceX1_readCorners cyI cyB cyJ cyZ a0 a1 a2 a3 a4 a5 b0_walls g0_ways g0_wallCount g0_texts g4_size f5 f1 (upd f2 ((x2 * 30) + x3).toNatClampNeg g4_value) f3 g4_here g4_behind g4_digits g4_value) H := hP
        have hD : va_D A (ceX1_readCorners cyI cyB cyJ cyZ a0 a1 a2 a3 a4 a5 b0_walls g0_ways g0_wallCount g0_texts g4_size f5 f1 (upd f2 ((x2 * 30) + x3).toNatClampNeg g4_value) f3 g4_here g4_behind g4_digits g4_value) := hD
        refine lv_aload_n hx hb dX1_readCorners_38 rfl (lv_at hl 1 rfl) ?_
        have hPc := hP.sub (ws' := (ceX8_toNext cyI cyB cyJ cyZ a4 a5 g4_size f5 g4_here g4_behind g4_digits g4_value)) [4, 5] rfl
        have hDc := hD.sub (ws' := (ceX8_toNext cyI cyB cyJ cyZ a4 a5 g4_size f5 g4_here g4_behind g4_digits g4_value)) [4, 5] (by decide) rfl
        have hFc := va_free (wc := (ceX8_toNext cyI cyB cyJ cyZ a4 a5 g4_size f5 g4_here g4_behind g4_digits g4_value)) hD hS hA [4, 5] rfl
        refine va_callv (va_runV (As := []) (rest := []) ⟨hx, hb, hml, hown, hts⟩ (ctX8_toNext l dC dI cyI cyB cyJ cyZ _ a4 a5 g4_size f5 g4_here g4_behind g4_digits g4_value _ hw) (cwV 0 hts gX1_readCorners_X8_toNext rfl rfl rfl (by decide +kernel) ⟨Nat.le_of_ble_eq_true rfl, Nat.le_of_ble_eq_true rfl⟩) ⟨wPre_blind, va_recv hK hPc (ci := 8) (q0 := 0) rfl rfl, fun U hU hW => wPre_of hPc hK hDc hN hU hW⟩ rfl rfl hl.1 rfl (lv_room (Nat.le_of_ble_eq_true rfl)) dX1_readCorners_39 ⟨(Nat.zero_le _), (Nat.zero_le _)⟩) hS (fun q _ h => hFc q h) hFc (fun u3 t H1 locs ht hvm hw hB hz1 hk1 hS => ?_)
        obtain ⟨hP1, hK1, hD1⟩ := hB
        rw [ht] at hP1
        obtain ⟨hP, hD⟩ := va_join (wr := pickW (ceX1_readCorners cyI cyB cyJ cyZ a0 a1 a2 a3 a4 a5 b0_walls g0_ways g0_wallCount g0_texts g4_size f5 f1 (upd f2 ((x2 * 30) + x3).toNatClampNeg g4_value) f3 g4_here g4_behind g4_digits g4_value) [0, 1, 2, 3]) (w1 := (ceX8_toNext cyI cyB cyJ cyZ a4 a5 g4_size f5 u3.1 u3.2.1 u3.2.2.1 u3.2.2.2)) hP hD [4, 5] [0, 1, 2, 3] rfl rfl (by decide) (by decide) hk1 hFc hP1 hD1
        have hP := hP.sub (ws' := (ceX1_readCorners cyI cyB cyJ cyZ a0 a1 a2 a3 a4 a5 b0_walls g0_ways g0_wallCount g0_texts g4_size f5 f1 (upd f2 ((x2 * 30) + x3).toNatClampNeg g4_value) f3 u3.1 u3.2.1 u3.2.2.1 u3.2.2.2)) [0, 1, 2, 3, 4, 5] rfl
        have hD := hD.sub (ws' := (ceX1_readCorners cyI cyB cyJ cyZ a0 a1 a2 a3 a4 a5 b0_walls g0_ways g0_wallCount g0_texts g4_size f5 f1 (upd f2 ((x2 * 30) + x3).toNatClampNeg g4_value) f3 u3.1 u3.2.1 u3.2.2.1 u3.2.2.2)) [0, 1, 2, 3, 4, 5] (by decide) rfl
        generalize H1 = H at hP hS ⊢
        refine lv_aload_n hx hb dX1_readCorners_42 rfl (lv_at hl 1 rfl) ?_
        refine lv_iconst (v := 3) hx hb dX1_readCorners_43 (by decide) ?_
        have hPc := hP.sub (ws' := (ceX8_isNumber cyI cyB cyJ cyZ a4 a5 g4_size u3.1 u3.2.1 u3.2.2.2 u3.2.2.1)) [4] rfl
        have hDc := hD.sub (ws' := (ceX8_isNumber cyI cyB cyJ cyZ a4 a5 g4_size u3.1 u3.2.1 u3.2.2.2 u3.2.2.1)) [4] (by decide) rfl
        have hFc := va_free (wc := (ceX8_isNumber cyI cyB cyJ cyZ a4 a5 g4_size u3.1 u3.2.1 u3.2.2.2 u3.2.2.1)) hD hS hA [4] rfl
        refine va_calli (va_runV (As := [.int 3]) (rest := []) ⟨hx, hb, hml, hown, hts⟩ (ctX8_isNumber l dC dI cyI cyB cyJ cyZ _ a4 a5 g4_size u3.1 u3.2.1 u3.2.2.2 u3.2.2.1 3 _ hw) (cwV 1 hts gX1_readCorners_X8_isNumber rfl rfl rfl (by decide +kernel) ⟨Nat.le_of_ble_eq_true rfl, Nat.le_of_ble_eq_true rfl⟩) ⟨wPre_blind, va_recv hK hPc (ci := 8) (q0 := 0) rfl rfl, fun U hU hW => wPre_of hPc hK hDc hN hU hW⟩ rfl rfl hl.1 rfl (lv_room (Nat.le_of_ble_eq_true rfl)) dX1_readCorners_44 ⟨(Nat.zero_le _), (Nat.zero_le _)⟩) hS (fun q _ h => hFc q h) hFc (fun r5 u4 t H1 locs ht hvm hw hB hz1 hk1 hS => ?_)
        obtain ⟨hP1, hK1, hD1⟩ := hB
        rw [ht] at hP1
        obtain ⟨hP, hD⟩ := va_join (wr := pickW (ceX1_readCorners cyI cyB cyJ cyZ a0 a1 a2 a3 a4 a5 b0_walls g0_ways g0_wallCount g0_texts g4_size f5 f1 (upd f2 ((x2 * 30) + x3).toNatClampNeg g4_value) f3 u3.1 u3.2.1 u3.2.2.1 u3.2.2.2) [0, 1, 2, 3, 5]) (w1 := (ceX8_isNumber cyI cyB cyJ cyZ a4 a5 g4_size u3.1 u3.2.1 u3.2.2.2 u3.2.2.1)) hP hD [4] [0, 1, 2, 3, 5] rfl rfl (by decide) (by decide) hk1 hFc hP1 hD1
        have hP := hP.sub (ws' := (ceX1_readCorners cyI cyB cyJ cyZ a0 a1 a2 a3 a4 a5 b0_walls g0_ways g0_wallCount g0_texts g4_size f5 f1 (upd f2 ((x2 * 30) + x3).toNatClampNeg g4_value) f3 u3.1 u3.2.1 u3.2.2.1 u3.2.2.2)) [0, 1, 2, 3, 5, 4] rfl
        have hD := hD.sub (ws' := (ceX1_readCorners cyI cyB cyJ cyZ a0 a1 a2 a3 a4 a5 b0_walls g0_ways g0_wallCount g0_texts g4_size f5 f1 (upd f2 ((x2 * 30) + x3).toNatClampNeg g4_value) f3 u3.1 u3.2.1 u3.2.2.1 u3.2.2.2)) [0, 1, 2, 3, 5, 4] (by decide) rfl
        generalize H1 = H at hP hS ⊢
        refine lv_if_ne (tgt := 52) hx hb dX1_readCorners_47 (by decide) (fun hc => ?_) (fun hc => ?_)
        · have hw := hw.1 hc
          refine lv_aload_n hx hb dX1_readCorners_52 rfl (lv_at hl 0 rfl) ?_
          refine va_get (D := (dC, dI)) (ci := 1) (v := .ref a3) (C := RX1) (T := TX1) (N := 7) hx hb hts inX1_readCorners_X1 hown hK hP 0 rfl rfl 1 (by decide) (hts (.fieldLink RX1 15 "LeadPark$Ground" "ys" "[I") (List.mem_of_getElem? (i := 3) rfl)) (fun _ h9 => h9) rfl dX1_readCorners_53 ?_
          refine lv_iload_n hx hb dX1_readCorners_56 rfl (lv_at hl 2 rfl) ?_
          refine lv_bipush (v := 30) hx hb dX1_readCorners_57 (by decide) ?_
          refine lv_imul hx hb dX1_readCorners_59 ?_
          refine lv_iload_n hx hb dX1_readCorners_60 rfl (lv_at hl 3 rfl) ?_
          refine lv_iadd hx hb dX1_readCorners_61 ?_
          refine lv_aload_n hx hb dX1_readCorners_62 rfl (lv_at hl 1 rfl) ?_
          refine va_getN (D := (dC, dI)) (ci := 8) (v := .int u3.2.2.2) (C := RX8) (T := TX8) (N := 6) hx hb hts inX1_readCorners_X8 hown hK hP 4 rfl rfl 5 (by decide) (va_Nw.use rfl (hN _ (List.mem_of_getElem? (i := 3) rfl))) (fun _ h9 => h9) rfl dX1_readCorners_63 ?_
          obtain ⟨hi, hw⟩ := hw
          refine va_iast hx hb hK hP hD hS 3 0 rfl rfl hi dX1_readCorners_66 (fun H locs hP hD hS => ?_)
          have hP : va_P (dC, dI) vwCl (ceX1_readCorners cyI cyB cyJ cyZ a0 a1 a2 a3 a4 a5 b0_walls g0_ways g0_wallCount g0_texts g4_size f5 f1 (upd f2 ((x2 * 30) + x3).toNatClampNeg g4_value) (upd f3 ((x2 * 30) + x3).toNatClampNeg u3.2.2.2) u3.1 u3.2.1 u3.2.2.1 u3.2.2.2) H := hP
          have hD : va_D A (ceX1_readCorners cyI cyB cyJ cyZ a0 a1 a2 a3 a4 a5 b0_walls g0_ways g0_wallCount g0_texts g4_size f5 f1 (upd f2 ((x2 * 30) + x3).toNatClampNeg g4_value) (upd f3 ((x2 * 30) + x3).toNatClampNeg u3.2.2.2) u3.1 u3.2.1 u3.2.2.1 u3.2.2.2) := hD
          refine lv_aload_n hx hb dX1_readCorners_67 rfl (lv_at hl 1 rfl) ?_
          have hPc := hP.sub (ws' := (ceX8_toNext cyI cyB cyJ cyZ a4 a5 g4_size f5 u3.1 u3.2.1 u3.2.2.1 u3.2.2.2)) [4, 5] rfl
          have hDc := hD.sub (ws' := (ceX8_toNext cyI cyB cyJ cyZ a4 a5 g4_size f5 u3.1 u3.2.1 u3.2.2.1 u3.2.2.2)) [4, 5] (by decide) rfl
          have hFc := va_free (wc := (ceX8_toNext cyI cyB cyJ cyZ a4 a5 g4_size f5 u3.1 u3.2.1 u3.2.2.1 u3.2.2.2)) hD hS hA [4, 5] rfl
          refine va_callv (va_runV (As := []) (rest := []) ⟨hx, hb, hml, hown, hts⟩ (ctX8_toNext l dC dI cyI cyB cyJ cyZ _ a4 a5 g4_size f5 u3.1 u3.2.1 u3.2.2.1 u3.2.2.2 _ hw) (cwV 0 hts gX1_readCorners_X8_toNext rfl rfl rfl (by decide +kernel) ⟨Nat.le_of_ble_eq_true rfl, Nat.le_of_ble_eq_true rfl⟩) ⟨wPre_blind, va_recv hK hPc (ci := 8) (q0 := 0) rfl rfl, fun U hU hW => wPre_of hPc hK hDc hN hU hW⟩ rfl rfl hl.1 rfl (lv_room (Nat.le_of_ble_eq_true rfl)) dX1_readCorners_68 ⟨(Nat.zero_le _), (Nat.zero_le _)⟩) hS (fun q _ h => hFc q h) hFc (fun u6 t H1 locs ht hvm hw hB hz1 hk1 hS => ?_)
          obtain ⟨hP1, hK1, hD1⟩ := hB
          rw [ht] at hP1
          obtain ⟨hP, hD⟩ := va_join (wr := pickW (ceX1_readCorners cyI cyB cyJ cyZ a0 a1 a2 a3 a4 a5 b0_walls g0_ways g0_wallCount g0_texts g4_size f5 f1 (upd f2 ((x2 * 30) + x3).toNatClampNeg g4_value) (upd f3 ((x2 * 30) + x3).toNatClampNeg u3.2.2.2) u3.1 u3.2.1 u3.2.2.1 u3.2.2.2) [0, 1, 2, 3]) (w1 := (ceX8_toNext cyI cyB cyJ cyZ a4 a5 g4_size f5 u6.1 u6.2.1 u6.2.2.1 u6.2.2.2)) hP hD [4, 5] [0, 1, 2, 3] rfl rfl (by decide) (by decide) hk1 hFc hP1 hD1
          have hP := hP.sub (ws' := (ceX1_readCorners cyI cyB cyJ cyZ a0 a1 a2 a3 a4 a5 b0_walls g0_ways g0_wallCount g0_texts g4_size f5 f1 (upd f2 ((x2 * 30) + x3).toNatClampNeg g4_value) (upd f3 ((x2 * 30) + x3).toNatClampNeg u3.2.2.2) u6.1 u6.2.1 u6.2.2.1 u6.2.2.2)) [0, 1, 2, 3, 4, 5] rfl
          have hD := hD.sub (ws' := (ceX1_readCorners cyI cyB cyJ cyZ a0 a1 a2 a3 a4 a5 b0_walls g0_ways g0_wallCount g0_texts g4_size f5 f1 (upd f2 ((x2 * 30) + x3).toNatClampNeg g4_value) (upd f3 ((x2 * 30) + x3).toNatClampNeg u3.2.2.2) u6.1 u6.2.1 u6.2.2.1 u6.2.2.2)) [0, 1, 2, 3, 4, 5] (by decide) rfl
          generalize H1 = H at hP hS ⊢
          refine lv_aload_n hx hb dX1_readCorners_71 rfl (lv_at hl 0 rfl) ?_
          refine va_get (D := (dC, dI)) (ci := 1) (v := .ref a1) (C := RX1) (T := TX1) (N := 7) hx hb hts inX1_readCorners_X1 hown hK hP 0 rfl rfl 2 (by decide) (hts (.fieldLink RX1 18 "LeadPark$Ground" "counts" "[I") (List.mem_of_getElem? (i := 1) rfl)) (fun _ h9 => h9) rfl dX1_readCorners_72 ?_
          refine lv_iload_n hx hb dX1_readCorners_75 rfl (lv_at hl 2 rfl) ?_
          refine lv_dup2_11 hx hb dX1_readCorners_76 rfl rfl ?_
          obtain ⟨hi, hw⟩ := hw
          refine va_iald hx hb hK hP 1 0 rfl rfl hi dX1_readCorners_77 ?_
          refine lv_iconst (v := 1) hx hb dX1_readCorners_78 (by decide) ?_
          refine lv_iadd hx hb dX1_readCorners_79 ?_
          obtain ⟨hi, hw⟩ := hw
          refine va_iast hx hb hK hP hD hS 1 0 rfl rfl hi dX1_readCorners_80 (fun H locs hP hD hS => ?_)
          have hP : va_P (dC, dI) vwCl (ceX1_readCorners cyI cyB cyJ cyZ a0 a1 a2 a3 a4 a5 b0_walls g0_ways g0_wallCount g0_texts g4_size f5 (upd f1 x2.toNatClampNeg ((f1 x2.toNatClampNeg) + 1)) (upd f2 ((x2 * 30) + x3).toNatClampNeg g4_value) (upd f3 ((x2 * 30) + x3).toNatClampNeg u3.2.2.2) u6.1 u6.2.1 u6.2.2.1 u6.2.2.2) H := hP
          have hD : va_D A (ceX1_readCorners cyI cyB cyJ cyZ a0 a1 a2 a3 a4 a5 b0_walls g0_ways g0_wallCount g0_texts g4_size f5 (upd f1 x2.toNatClampNeg ((f1 x2.toNatClampNeg) + 1)) (upd f2 ((x2 * 30) + x3).toNatClampNeg g4_value) (upd f3 ((x2 * 30) + x3).toNatClampNeg u3.2.2.2) u6.1 u6.2.1 u6.2.2.1 u6.2.2.2) := hD
          refine lv_aload_n hx hb dX1_readCorners_81 rfl (lv_at hl 1 rfl) ?_
          have hPc := hP.sub (ws' := (ceX8_isOver cyI cyB cyJ cyZ a4 a5 u6.2.1 u6.2.2.1 u6.2.2.2 g4_size u6.1)) [4] rfl
          have hDc := hD.sub (ws' := (ceX8_isOver cyI cyB cyJ cyZ a4 a5 u6.2.1 u6.2.2.1 u6.2.2.2 g4_size u6.1)) [4] (by decide) rfl
          have hFc := va_free (wc := (ceX8_isOver cyI cyB cyJ cyZ a4 a5 u6.2.1 u6.2.2.1 u6.2.2.2 g4_size u6.1)) hD hS hA [4] rfl
          refine va_calli (va_runV (As := []) (rest := []) ⟨hx, hb, hml, hown, hts⟩ (ctX8_isOver l dC dI cyI cyB cyJ cyZ _ a4 a5 u6.2.1 u6.2.2.1 u6.2.2.2 g4_size u6.1 _ hw) (cwV 0 hts gX1_readCorners_X8_isOver rfl rfl rfl (by decide +kernel) ⟨Nat.le_of_ble_eq_true rfl, Nat.le_of_ble_eq_true rfl⟩) ⟨wPre_blind, va_recv hK hPc (ci := 8) (q0 := 0) rfl rfl, fun U hU hW => wPre_of hPc hK hDc hN hU hW⟩ rfl rfl hl.1 rfl (lv_room (Nat.le_of_ble_eq_true rfl)) dX1_readCorners_82 ⟨(Nat.zero_le _), (Nat.zero_le _)⟩) hS (fun q _ h => hFc q h) hFc (fun r8 u7 t H1 locs ht hvm hw hB hz1 hk1 hS => ?_)
          obtain ⟨hP1, hK1, hD1⟩ := hB
          rw [ht] at hP1
          obtain ⟨hP, hD⟩ := va_join (wr := pickW (ceX1_readCorners cyI cyB cyJ cyZ a0 a1 a2 a3 a4 a5 b0_walls g0_ways g0_wallCount g0_texts g4_size f5 (upd f1 x2.toNatClampNeg ((f1 x2.toNatClampNeg) + 1)) (upd f2 ((x2 * 30) + x3).toNatClampNeg g4_value) (upd f3 ((x2 * 30) + x3).toNatClampNeg u3.2.2.2) u6.1 u6.2.1 u6.2.2.1 u6.2.2.2) [0, 1, 2, 3, 5]) (w1 := (ceX8_isOver cyI cyB cyJ cyZ a4 a5 u6.2.1 u6.2.2.1 u6.2.2.2 g4_size u6.1)) hP hD [4] [0, 1, 2, 3, 5] rfl rfl (by decide) (by decide) hk1 hFc hP1 hD1
          have hP := hP.sub (ws' := (ceX1_readCorners cyI cyB cyJ cyZ a0 a1 a2 a3 a4 a5 b0_walls g0_ways g0_wallCount g0_texts g4_size f5 (upd f1 x2.toNatClampNeg ((f1 x2.toNatClampNeg) + 1)) (upd f2 ((x2 * 30) + x3).toNatClampNeg g4_value) (upd f3 ((x2 * 30) + x3).toNatClampNeg u3.2.2.2) u6.1 u6.2.1 u6.2.2.1 u6.2.2.2)) [0, 1, 2, 3, 5, 4] rfl
          have hD := hD.sub (ws' := (ceX1_readCorners cyI cyB cyJ cyZ a0 a1 a2 a3 a4 a5 b0_walls g0_ways g0_wallCount g0_texts g4_size f5 (upd f1 x2.toNatClampNeg ((f1 x2.toNatClampNeg) + 1)) (upd f2 ((x2 * 30) + x3).toNatClampNeg g4_value) (upd f3 ((x2 * 30) + x3).toNatClampNeg u3.2.2.2) u6.1 u6.2.1 u6.2.2.1 u6.2.2.2)) [0, 1, 2, 3, 5, 4] (by decide) rfl
          generalize H1 = H at hP hS ⊢
          refine lv_if_ne (tgt := 97) hx hb dX1_readCorners_85 (by decide) (fun hc => ?_) (fun hc => ?_)
          · have hw := hw.1 hc
            refine lv_iconst (v := 1) hx hb dX1_readCorners_97 (by decide) ?_
            rw [hQ]
            exact W.zret (v := 1) (ty := .boolean) hx hb hr rfl (fun t ht hW => ⟨⟨1, ((upd f1 x2.toNatClampNeg ((f1 x2.toNatClampNeg) + 1)), (upd f2 ((x2 * 30) + x3).toNatClampNeg g4_value), (upd f3 ((x2 * 30) + x3).toNatClampNeg u3.2.2.2), u6.1, u6.2.1, u6.2.2.1, u6.2.2.2), rfl, hw, by rw [ht]; exact hP, va_K.moved hW.alike hK, hD⟩, hS.F ht⟩) hS.2.2 dX1_readCorners_98
          · have hw := hw.2 hc
            refine lv_aload_n hx hb dX1_readCorners_88 rfl (lv_at hl 1 rfl) ?_
            refine lv_bipush (v := 59) hx hb dX1_readCorners_89 (by decide) ?_
            have hPc := hP.sub (ws' := (ceX8_isSign cyI cyB cyJ cyZ a4 a5 u6.2.1 u6.2.2.1 u6.2.2.2 g4_size u6.1 f5)) [4, 5] rfl
            have hDc := hD.sub (ws' := (ceX8_isSign cyI cyB cyJ cyZ a4 a5 u6.2.1 u6.2.2.1 u6.2.2.2 g4_size u6.1 f5)) [4, 5] (by decide) rfl
            have hFc := va_free (wc := (ceX8_isSign cyI cyB cyJ cyZ a4 a5 u6.2.1 u6.2.2.1 u6.2.2.2 g4_size u6.1 f5)) hD hS hA [4, 5] rfl
            refine va_calli (va_runV (As := [.int 59]) (rest := []) ⟨hx, hb, hml, hown, hts⟩ (ctX8_isSign l dC dI cyI cyB cyJ cyZ _ a4 a5 u6.2.1 u6.2.2.1 u6.2.2.2 g4_size u6.1 f5 59 _ hw) (cwV 1 hts gX1_readCorners_X8_isSign rfl rfl rfl (by decide +kernel) ⟨Nat.le_of_ble_eq_true rfl, Nat.le_of_ble_eq_true rfl⟩) ⟨wPre_blind, va_recv hK hPc (ci := 8) (q0 := 0) rfl rfl, fun U hU hW => wPre_of hPc hK hDc hN hU hW⟩ rfl rfl hl.1 rfl (lv_room (Nat.le_of_ble_eq_true rfl)) dX1_readCorners_91 ⟨(Nat.zero_le _), (Nat.zero_le _)⟩) hS (fun q _ h => hFc q h) hFc (fun r10 u9 t H1 locs ht hvm hw hB hz1 hk1 hS => ?_)
            obtain ⟨hP1, hK1, hD1⟩ := hB
            rw [ht] at hP1
            obtain ⟨hP, hD⟩ := va_join (wr := pickW (ceX1_readCorners cyI cyB cyJ cyZ a0 a1 a2 a3 a4 a5 b0_walls g0_ways g0_wallCount g0_texts g4_size f5 (upd f1 x2.toNatClampNeg ((f1 x2.toNatClampNeg) + 1)) (upd f2 ((x2 * 30) + x3).toNatClampNeg g4_value) (upd f3 ((x2 * 30) + x3).toNatClampNeg u3.2.2.2) u6.1 u6.2.1 u6.2.2.1 u6.2.2.2) [0, 1, 2, 3]) (w1 := (ceX8_isSign cyI cyB cyJ cyZ a4 a5 u6.2.1 u6.2.2.1 u6.2.2.2 g4_size u6.1 f5)) hP hD [4, 5] [0, 1, 2, 3] rfl rfl (by decide) (by decide) hk1 hFc hP1 hD1
            have hP := hP.sub (ws' := (ceX1_readCorners cyI cyB cyJ cyZ a0 a1 a2 a3 a4 a5 b0_walls g0_ways g0_wallCount g0_texts g4_size f5 (upd f1 x2.toNatClampNeg ((f1 x2.toNatClampNeg) + 1)) (upd f2 ((x2 * 30) + x3).toNatClampNeg g4_value) (upd f3 ((x2 * 30) + x3).toNatClampNeg u3.2.2.2) u6.1 u6.2.1 u6.2.2.1 u6.2.2.2)) [0, 1, 2, 3, 4, 5] rfl
            have hD := hD.sub (ws' := (ceX1_readCorners cyI cyB cyJ cyZ a0 a1 a2 a3 a4 a5 b0_walls g0_ways g0_wallCount g0_texts g4_size f5 (upd f1 x2.toNatClampNeg ((f1 x2.toNatClampNeg) + 1)) (upd f2 ((x2 * 30) + x3).toNatClampNeg g4_value) (upd f3 ((x2 * 30) + x3).toNatClampNeg u3.2.2.2) u6.1 u6.2.1 u6.2.2.1 u6.2.2.2)) [0, 1, 2, 3, 4, 5] (by decide) rfl
            generalize H1 = H at hP hS ⊢
            refine lv_if_eq (tgt := 99) hx hb dX1_readCorners_94 (by decide) (fun hc => ?_) (fun hc => ?_)
            · have hw := hw.1 hc
              obtain ⟨v11, ev11⟩ : ∃ y : Int32, y = x3 + 1 := ⟨_, rfl⟩
              have hw := hw v11 ev11
              refine lv_iinc (v := v11) (lv' := [(3, .int v11), (0, .ref a0), (1, .ref a4), (2, .int x2)]) hx hb dX1_readCorners_99 hl (k := 3) rfl (by rw [ev11]; rfl) (by decide) rfl (fun ls hl => ?_)
              refine lv_goto (tgt := 7) hx hb dX1_readCorners_102 (by decide) ?_
              exact ih (upd f1 x2.toNatClampNeg ((f1 x2.toNatClampNeg) + 1)) (upd f2 ((x2 * 30) + x3).toNatClampNeg g4_value) (upd f3 ((x2 * 30) + x3).toNatClampNeg u3.2.2.2) u6.1 u6.2.1 u6.2.2.1 u6.2.2.2 x2 v11 hw H locs hP hD hS ls (lv_sub hl [1, 2, 3, 0] rfl)
            · have hw := hw.2 hc
              refine lv_iconst (v := 1) hx hb dX1_readCorners_97 (by decide) ?_
              rw [hQ]
              exact W.zret (v := 1) (ty := .boolean) hx hb hr rfl (fun t ht hW => ⟨⟨1, ((upd f1 x2.toNatClampNeg ((f1 x2.toNatClampNeg) + 1)), (upd f2 ((x2 * 30) + x3).toNatClampNeg g4_value), (upd f3 ((x2 * 30) + x3).toNatClampNeg u3.2.2.2), u6.1, u6.2.1, u6.2.2.1, u6.2.2.2), rfl, hw, by rw [ht]; exact hP, va_K.moved hW.alike hK, hD⟩, hS.F ht⟩) hS.2.2 dX1_readCorners_98
        · have hw := hw.2 hc
          refine lv_iconst (v := 0) hx hb dX1_readCorners_50 (by decide) ?_
          rw [hQ]
          exact W.zret (v := 0) (ty := .boolean) hx hb hr rfl (fun t ht hW => ⟨⟨0, (f1, (upd f2 ((x2 * 30) + x3).toNatClampNeg g4_value), f3, u3.1, u3.2.1, u3.2.2.1, u3.2.2.2), rfl, hw, by rw [ht]; exact hP, va_K.moved hW.alike hK, hD⟩, hS.F ht⟩) hS.2.2 dX1_readCorners_51
      · have hw := hw.2 hc
        refine lv_iconst (v := 0) hx hb dX1_readCorners_21 (by decide) ?_
        rw [hQ]
        exact W.zret (v := 0) (ty := .boolean) hx hb hr rfl (fun t ht hW => ⟨⟨0, (f1, f2, f3, g4_here, g4_behind, g4_digits, g4_value), rfl, hw, by rw [ht]; exact hP, va_K.moved hW.alike hK, hD⟩, hS.F ht⟩) hS.2.2 dX1_readCorners_22
set_option maxRecDepth 100000 in
set_option maxHeartbeats 4000000 in
theorem ctX1_readCorners (l : Launch) (dC : Nat → ClassId) (dI : Nat → Nat → Nat) (cyI cyB cyJ cyZ : ClassId) (sz : Nat) (a0 a1 a2 a3 a4 a5 b0_walls : Nat) (g0_ways : Int32) (g0_wallCount : Int32) (g0_texts : Int32) (g4_size : Int32) (f5 : Nat → Int32) (f1 : Nat → Int32) (f2 : Nat → Int32) (f3 : Nat → Int32) (g4_here : Int32) (g4_behind : Int32) (g4_digits : Int32) (g4_value : Int32) (p1 : Int32) (post : Int32 → ((Nat → Int32) × (Nat → Int32) × (Nat → Int32) × Int32 × Int32 × Int32 × Int32) → Prop) (hw : wpX1_readCorners post g4_size f5 f1 f2 f3 g4_here g4_behind g4_digits g4_value p1) : Met l yX1_readCorners wsX1_readCorners rmX1_readCorners (va_Pc [.ref a0, .ref a4, .int p1] (wPre dC dI cyI cyB cyJ cyZ sz (ceX1_readCorners cyI cyB cyJ cyZ a0 a1 a2 a3 a4 a5 b0_walls g0_ways g0_wallCount g0_texts g4_size f5 f1 f2 f3 g4_here g4_behind g4_digits g4_value))) (va_Qi post (fun u : (Nat → Int32) × (Nat → Int32) × (Nat → Int32) × Int32 × Int32 × Int32 × Int32 => wAt dC dI cyI cyB cyJ cyZ (va_A (ceX1_readCorners cyI cyB cyJ cyZ a0 a1 a2 a3 a4 a5 b0_walls g0_ways g0_wallCount g0_texts g4_size f5 f1 f2 f3 g4_here g4_behind g4_digits g4_value) sz) (ceX1_readCorners cyI cyB cyJ cyZ a0 a1 a2 a3 a4 a5 b0_walls g0_ways g0_wallCount g0_texts g4_size f5 u.1 u.2.1 u.2.2.1 u.2.2.2.1 u.2.2.2.2.1 u.2.2.2.2.2.1 u.2.2.2.2.2.2)) (va_A (ceX1_readCorners cyI cyB cyJ cyZ a0 a1 a2 a3 a4 a5 b0_walls g0_ways g0_wallCount g0_texts g4_size f5 f1 f2 f3 g4_here g4_behind g4_digits g4_value) sz)) 0 0 (va_A (ceX1_readCorners cyI cyB cyJ cyZ a0 a1 a2 a3 a4 a5 b0_walls g0_ways g0_wallCount g0_texts g4_size f5 f1 f2 f3 g4_here g4_behind g4_digits g4_value) sz) := by
  refine Met.ofW (cc := cX1_readCorners) (maxL := 4) (ret := (some .boolean)) (by decide) rfl ?_
  intro p e s m args below meth c s₁ B hml hv
  obtain ⟨rfl, hsz, hP, hK, hD0, hN⟩ := hv
  have hx := B.exec
  have hb := B.bytes
  have hr := B.returns
  have hts := atoms_spec (ws := wsX1_readCorners) B.pre
  have hown : s.vm.findClass RX1 = some m.cls := findClass_of_methodNamed B.named
  have hlocks := B.notSynchronized
  subst hsz
  have hD := hD0.self (sz := s.heap.size)
  generalize hAe : va_A (ceX1_readCorners cyI cyB cyJ cyZ a0 a1 a2 a3 a4 a5 b0_walls g0_ways g0_wallCount g0_texts g4_size f5 f1 f2 f3 g4_here g4_behind g4_digits g4_value) s.heap.size = A at hD ⊢
  have hA : ∀ q : Nat, s.heap.size ≤ q → A q := fun q h => by rw [← hAe]; exact Or.inr h
  have hS : va_S A s.heap s.heap [] := va_S.rf
  have C0 : cxM p s m meth c _ wsX1_readCorners RX1 cX1_readCorners 4 (some .boolean) := ⟨hx, hb, hr, hml, hown, hts, hlocks⟩
  have hl := lv_entry ([.ref a0, .ref a4, .int p1]) (n := 4) (Nat.le_of_ble_eq_true rfl)
  rw [lg_entry_eq]
  generalize (lg_sl ([.ref a0, .ref a4, .int p1]) ++ List.replicate (4 - (lg_sl ([.ref a0, .ref a4, .int p1])).length) Slot.unset).toArray = ls at hl ⊢
  have hl : lv_has ls 4 [(0, .ref a0), (1, .ref a4), (2, .int p1)] := hl
  show W p l e rmX1_readCorners s m _ below meth c _ _ _ _ _ _
  refine wq (fun Q hQ => ?_)
  refine lv_aload_n hx hb dX1_readCorners_0 rfl (lv_at hl 0 rfl) ?_
  refine va_get (D := (dC, dI)) (ci := 1) (v := .ref a1) (C := RX1) (T := TX1) (N := 7) hx hb hts inX1_readCorners_X1 hown hK hP 0 rfl rfl 2 (by decide) (hts (.fieldLink RX1 18 "LeadPark$Ground" "counts" "[I") (List.mem_of_getElem? (i := 1) rfl)) (fun _ h9 => h9) rfl dX1_readCorners_1 ?_
  refine lv_iload_n hx hb dX1_readCorners_4 rfl (lv_at hl 2 rfl) ?_
  obtain ⟨hi, hw⟩ := hw
  refine va_iald hx hb hK hP 1 0 rfl rfl hi dX1_readCorners_5 ?_
  refine lv_topi (fun v1 ev1 => ?_)
  have hw := hw v1 ev1
  refine lv_istore_n (lv' := [(3, .int v1), (0, .ref a0), (1, .ref a4), (2, .int p1)]) hx hb dX1_readCorners_6 rfl hl (by decide) rfl (fun ls hl => ?_)
  obtain ⟨nn, hw⟩ := hw
  exact bX1_readCorners_7 C0 hK hN hA hQ nn f1 f2 f3 g4_here g4_behind g4_digits g4_value p1 v1 hw _ _ hP hD hS ls (lv_sub hl [1, 2, 3, 0] rfl)
/-! LeadPark$Ground.readWall (LLeadPark$Tape;)Z -/
abbrev ceX1_readWall (cyI cyB cyJ cyZ : ClassId) (a0 a1 a2 a3 b0_xs b0_ys b0_counts : Nat) (g0_ways : Int32) (g0_texts : Int32) (g2_size : Int32) (f3 : Nat → Int32) (g0_wallCount : Int32) (f1 : Nat → Int32) (g2_here : Int32) (g2_behind : Int32) (g2_digits : Int32) (g2_value : Int32) : va_W := [(a0, .inr (1, [.ref b0_xs, .ref b0_ys, .ref b0_counts, .ref a1, .int g0_ways, .int g0_wallCount, .int g0_texts])), (a1, .inl (cyI, 32, .inl f1)), (a2, .inr (8, [.ref a3, .int g2_size, .int g2_here, .int g2_behind, .int g2_digits, .int g2_value])), (a3, .inl (cyB, 400, .inl f3))]

theorem inX1_readWall_X1 : ∀ w ∈ wsX10, w ∈ wsX1_readWall := fun _ h => List.mem_cons_of_mem _ (List.mem_append_left _ (List.mem_append_right _ h))
theorem inX1_readWall_X8 : ∀ w ∈ wsX80, w ∈ wsX1_readWall := fun _ h => List.mem_cons_of_mem _ (List.mem_append_right _ h)
abbrev rmX1_readWall : Room := { frames := 2, cells := 0, slots := 0, locals := 40 }
set_option maxRecDepth 100000 in
set_option maxHeartbeats 4000000 in
theorem bX1_readWall_2 {p : Program} {l : Launch} {e : Env} {s : State} {m : MethodId} {args : Array Value} {below : List Frame} {meth : Method} {c : Code} {dC : Nat → ClassId} {dI : Nat → Nat → Nat} {cyI cyB cyJ cyZ : ClassId} {A : Nat → Prop} {a0 a1 a2 a3 b0_xs b0_ys b0_counts : Nat} {g0_ways : Int32} {g0_texts : Int32} (C0 : cxM p s m meth c args wsX1_readWall RX1 cX1_readWall 3 (some .boolean)) (hK : va_K (dC, dI) vwCl (tyA cyI cyB cyJ cyZ) s) (hN : nwA s) (hA : ∀ q : Nat, s.heap.size ≤ q → A q) {post : Int32 → (Int32 × (Nat → Int32) × Int32 × Int32 × Int32 × Int32) → Prop} {g2_size : Int32} {f3 : Nat → Int32} {Q : State → Prop} (hQ : Q = MQ below (va_Qi post (fun u : Int32 × (Nat → Int32) × Int32 × Int32 × Int32 × Int32 => wAt dC dI cyI cyB cyJ cyZ A (ceX1_readWall cyI cyB cyJ cyZ a0 a1 a2 a3 b0_xs b0_ys b0_counts g0_ways g0_texts g2_size f3 u.1 u.2.1 u.2.2.1 u.2.2.2.1 u.2.2.2.2.1 u.2.2.2.2.2)) A) args s 0 0 A) : ∀ (n : Nat) (g0_wallCount : Int32) (f1 : Nat → Int32) (g2_here : Int32) (g2_behind : Int32) (g2_digits : Int32) (g2_value : Int32) (x2 : Int32), wpX1_readWall_2 post g2_size f3 n g0_wallCount f1 g2_here g2_behind g2_digits g2_value x2 → AtW p l e rmX1_readWall s m args below meth c dC dI A Q 3 0 0 (ceX1_readWall cyI cyB cyJ cyZ a0 a1 a2 a3 b0_xs b0_ys b0_counts g0_ways g0_texts g2_size f3 g0_wallCount f1 g2_here g2_behind g2_digits g2_value) [(0, .ref a0), (1, .ref a2), (2, .int x2)] 2 [] := by
  intro n
  induction n with
  | zero => intro g0_wallCount f1 g2_here g2_behind g2_digits g2_value x2 hw; exact False.elim hw
  | succ n ih =>
    intro g0_wallCount f1 g2_here g2_behind g2_digits g2_value x2 hw H locs hP hD hS ls hl
    have C1 := C0
    obtain ⟨hx, hb, hr, hml, hown, hts, hlocks⟩ := C1
    refine lv_iload_n hx hb dX1_readWall_2 rfl (lv_at hl 2 rfl) ?_
    refine lv_iconst (v := 4) hx hb dX1_readWall_3 (by decide) ?_
    refine lv_icmp_ge (tgt := 44) hx hb dX1_readWall_4 (by decide) (fun hc => ?_) (fun hc => ?_)
    · have hw := hw.1 hc
      refine lv_aload_n hx hb dX1_readWall_44 rfl (lv_at hl 0 rfl) ?_
      refine lv_dup hx hb dX1_readWall_45 rfl ?_
      refine va_get (D := (dC, dI)) (ci := 1) (v := .int g0_wallCount) (C := RX1) (T := TX1) (N := 7) hx hb hts inX1_readWall_X1 hown hK hP 0 rfl rfl 5 (by decide) (hts (.fieldLink RX1 28 "LeadPark$Ground" "wallCount" "I") (List.mem_of_getElem? (i := 2) rfl)) (fun _ h9 => h9) rfl dX1_readWall_46 ?_
      refine lv_iconst (v := 1) hx hb dX1_readWall_49 (by decide) ?_
      refine lv_iadd hx hb dX1_readWall_50 ?_
      refine lv_topi (fun v1 ev1 => ?_)
      have hw := hw v1 ev1
      refine va_put (D := (dC, dI)) (ci := 1) (v := .int v1) (ty := .int) (C := RX1) (T := TX1) (N := 7) hx hb hts inX1_readWall_X1 tyX1 tyX1_ok nmX1 hown hK hP hD hS 0 rfl rfl 5 (by decide) (hts (.fieldLink RX1 28 "LeadPark$Ground" "wallCount" "I") (List.mem_of_getElem? (i := 2) rfl)) (fun _ h9 => h9) rfl (by decide +kernel) rfl rfl (Nat.le_of_ble_eq_true rfl) dX1_readWall_51 (fun H locs hP hD hS => ?_)
      have hP : va_P (dC, dI) vwCl (ceX1_readWall cyI cyB cyJ cyZ a0 a1 a2 a3 b0_xs b0_ys b0_counts g0_ways g0_texts g2_size f3 v1 f1 g2_here g2_behind g2_digits g2_value) H := hP
      have hD : va_D A (ceX1_readWall cyI cyB cyJ cyZ a0 a1 a2 a3 b0_xs b0_ys b0_counts g0_ways g0_texts g2_size f3 v1 f1 g2_here g2_behind g2_digits g2_value) := hD
      refine lv_iconst (v := 1) hx hb dX1_readWall_54 (by decide) ?_
      rw [hQ]
      exact W.zret (v := 1) (ty := .boolean) hx hb hr rfl (fun t ht hW => ⟨⟨1, (v1, f1, g2_here, g2_behind, g2_digits, g2_value), rfl, hw, by rw [ht]; exact hP, va_K.moved hW.alike hK, hD⟩, hS.F ht⟩) hS.2.2 dX1_readWall_55
    · have hw := hw.2 hc
      refine lv_aload_n hx hb dX1_readWall_7 rfl (lv_at hl 1 rfl) ?_
      refine lv_iconst (v := 3) hx hb dX1_readWall_8 (by decide) ?_
      have hPc := hP.sub (ws' := (ceX8_isNumber cyI cyB cyJ cyZ a2 a3 g2_size g2_here g2_behind g2_value g2_digits)) [2] rfl
      have hDc := hD.sub (ws' := (ceX8_isNumber cyI cyB cyJ cyZ a2 a3 g2_size g2_here g2_behind g2_value g2_digits)) [2] (by decide) rfl
      have hFc := va_free (wc := (ceX8_isNumber cyI cyB cyJ cyZ a2 a3 g2_size g2_here g2_behind g2_value g2_digits)) hD hS hA [2] rfl
      refine va_calli (va_runV (As := [.int 3]) (rest := []) ⟨hx, hb, hml, hown, hts⟩ (ctX8_isNumber l dC dI cyI cyB cyJ cyZ _ a2 a3 g2_size g2_here g2_behind g2_value g2_digits 3 _ hw) (cwV 1 hts gX1_readWall_X8_isNumber rfl rfl rfl (by decide +kernel) ⟨Nat.le_of_ble_eq_true rfl, Nat.le_of_ble_eq_true rfl⟩) ⟨wPre_blind, va_recv hK hPc (ci := 8) (q0 := 0) rfl rfl, fun U hU hW => wPre_of hPc hK hDc hN hU hW⟩ rfl rfl hl.1 rfl (lv_room (Nat.le_of_ble_eq_true rfl)) dX1_readWall_9 ⟨(Nat.zero_le _), (Nat.zero_le _)⟩) hS (fun q _ h => hFc q h) hFc (fun r3 u2 t H1 locs ht hvm hw hB hz1 hk1 hS => ?_)
      obtain ⟨hP1, hK1, hD1⟩ := hB
      rw [ht] at hP1
      obtain ⟨hP, hD⟩ := va_join (wr := pickW (ceX1_readWall cyI cyB cyJ cyZ a0 a1 a2 a3 b0_xs b0_ys b0_counts g0_ways g0_texts g2_size f3 g0_wallCount f1 g2_here g2_behind g2_digits g2_value) [0, 1, 3]) (w1 := (ceX8_isNumber cyI cyB cyJ cyZ a2 a3 g2_size g2_here g2_behind g2_value g2_digits)) hP hD [2] [0, 1, 3] rfl rfl (by decide) (by decide) hk1 hFc hP1 hD1
      have hP := hP.sub (ws' := (ceX1_readWall cyI cyB cyJ cyZ a0 a1 a2 a3 b0_xs b0_ys b0_counts g0_ways g0_texts g2_size f3 g0_wallCount f1 g2_here g2_behind g2_digits g2_value)) [0, 1, 3, 2] rfl
      have hD := hD.sub (ws' := (ceX1_readWall cyI cyB cyJ cyZ a0 a1 a2 a3 b0_xs b0_ys b0_counts g0_ways g0_texts g2_size f3 g0_wallCount f1 g2_here g2_behind g2_digits g2_value)) [0, 1, 3, 2] (by decide) rfl
      generalize H1 = H at hP hS ⊢
      refine lv_if_ne (tgt := 17) hx hb dX1_readWall_12 (by decide) (fun hc => ?_) (fun hc => ?_)
      · have hw := hw.1 hc
        refine lv_aload_n hx hb dX1_readWall_17 rfl (lv_at hl 0 rfl) ?_
        refine va_get (D := (dC, dI)) (ci := 1) (v := .ref a1) (C := RX1) (T := TX1) (N := 7) hx hb hts inX1_readWall_X1 hown hK hP 0 rfl rfl 3 (by decide) (hts (.fieldLink RX1 21 "LeadPark$Ground" "walls" "[I") (List.mem_of_getElem? (i := 1) rfl)) (fun _ h9 => h9) rfl dX1_readWall_18 ?_
        refine lv_aload_n hx hb dX1_readWall_21 rfl (lv_at hl 0 rfl) ?_
        refine va_get (D := (dC, dI)) (ci := 1) (v := .int g0_wallCount) (C := RX1) (T := TX1) (N := 7) hx hb hts inX1_readWall_X1 hown hK hP 0 rfl rfl 5 (by decide) (hts (.fieldLink RX1 28 "LeadPark$Ground" "wallCount" "I") (List.mem_of_getElem? (i := 2) rfl)) (fun _ h9 => h9) rfl dX1_readWall_22 ?_
        refine lv_iconst (v := 4) hx hb dX1_readWall_25 (by decide) ?_
        refine lv_imul hx hb dX1_readWall_26 ?_
        refine lv_iload_n hx hb dX1_readWall_27 rfl (lv_at hl 2 rfl) ?_
        refine lv_iadd hx hb dX1_readWall_28 ?_
        refine lv_aload_n hx hb dX1_readWall_29 rfl (lv_at hl 1 rfl) ?_
        refine va_getN (D := (dC, dI)) (ci := 8) (v := .int g2_value) (C := RX8) (T := TX8) (N := 6) hx hb hts inX1_readWall_X8 hown hK hP 2 rfl rfl 5 (by decide) (va_Nw.use rfl (hN _ (List.mem_of_getElem? (i := 3) rfl))) (fun _ h9 => h9) rfl dX1_readWall_30 ?_
        obtain ⟨hi, hw⟩ := hw
        refine va_iast hx hb hK hP hD hS 1 0 rfl rfl hi dX1_readWall_33 (fun H locs hP hD hS => ?_)
        have hP : va_P (dC, dI) vwCl (ceX1_readWall cyI cyB cyJ cyZ a0 a1 a2 a3 b0_xs b0_ys b0_counts g0_ways g0_texts g2_size f3 g0_wallCount (upd f1 ((g0_wallCount * 4) + x2).toNatClampNeg g2_value) g2_here g2_behind g2_digits g2_value) H := hP
        have hD : va_D A (ceX1_readWall cyI cyB cyJ cyZ a0 a1 a2 a3 b0_xs b0_ys b0_counts g0_ways g0_texts g2_size f3 g0_wallCount (upd f1 ((g0_wallCount * 4) + x2).toNatClampNeg g2_value) g2_here g2_behind g2_digits g2_value) := hD
        refine lv_aload_n hx hb dX1_readWall_34 rfl (lv_at hl 1 rfl) ?_
        have hPc := hP.sub (ws' := (ceX8_toNext cyI cyB cyJ cyZ a2 a3 g2_size f3 g2_here g2_behind g2_digits g2_value)) [2, 3] rfl
        have hDc := hD.sub (ws' := (ceX8_toNext cyI cyB cyJ cyZ a2 a3 g2_size f3 g2_here g2_behind g2_digits g2_value)) [2, 3] (by decide) rfl
        have hFc := va_free (wc := (ceX8_toNext cyI cyB cyJ cyZ a2 a3 g2_size f3 g2_here g2_behind g2_digits g2_value)) hD hS hA [2, 3] rfl
        refine va_callv (va_runV (As := []) (rest := []) ⟨hx, hb, hml, hown, hts⟩ (ctX8_toNext l dC dI cyI cyB cyJ cyZ _ a2 a3 g2_size f3 g2_here g2_behind g2_digits g2_value _ hw) (cwV 0 hts gX1_readWall_X8_toNext rfl rfl rfl (by decide +kernel) ⟨Nat.le_of_ble_eq_true rfl, Nat.le_of_ble_eq_true rfl⟩) ⟨wPre_blind, va_recv hK hPc (ci := 8) (q0 := 0) rfl rfl, fun U hU hW => wPre_of hPc hK hDc hN hU hW⟩ rfl rfl hl.1 rfl (lv_room (Nat.le_of_ble_eq_true rfl)) dX1_readWall_35 ⟨(Nat.zero_le _), (Nat.zero_le _)⟩) hS (fun q _ h => hFc q h) hFc (fun u4 t H1 locs ht hvm hw hB hz1 hk1 hS => ?_)
        obtain ⟨hP1, hK1, hD1⟩ := hB
        rw [ht] at hP1
        obtain ⟨hP, hD⟩ := va_join (wr := pickW (ceX1_readWall cyI cyB cyJ cyZ a0 a1 a2 a3 b0_xs b0_ys b0_counts g0_ways g0_texts g2_size f3 g0_wallCount (upd f1 ((g0_wallCount * 4) + x2).toNatClampNeg g2_value) g2_here g2_behind g2_digits g2_value) [0, 1]) (w1 := (ceX8_toNext cyI cyB cyJ cyZ a2 a3 g2_size f3 u4.1 u4.2.1 u4.2.2.1 u4.2.2.2)) hP hD [2, 3] [0, 1] rfl rfl (by decide) (by decide) hk1 hFc hP1 hD1
        have hP := hP.sub (ws' := (ceX1_readWall cyI cyB cyJ cyZ a0 a1 a2 a3 b0_xs b0_ys b0_counts g0_ways g0_texts g2_size f3 g0_wallCount (upd f1 ((g0_wallCount * 4) + x2).toNatClampNeg g2_value) u4.1 u4.2.1 u4.2.2.1 u4.2.2.2)) [0, 1, 2, 3] rfl
        have hD := hD.sub (ws' := (ceX1_readWall cyI cyB cyJ cyZ a0 a1 a2 a3 b0_xs b0_ys b0_counts g0_ways g0_texts g2_size f3 g0_wallCount (upd f1 ((g0_wallCount * 4) + x2).toNatClampNeg g2_value) u4.1 u4.2.1 u4.2.2.1 u4.2.2.2)) [0, 1, 2, 3] (by decide) rfl
        generalize H1 = H at hP hS ⊢
        obtain ⟨v5, ev5⟩ : ∃ y : Int32, y = x2 + 1 := ⟨_, rfl⟩
        have hw := hw v5 ev5
        refine lv_iinc (v := v5) (lv' := [(2, .int v5), (0, .ref a0), (1, .ref a2)]) hx hb dX1_readWall_38 hl (k := 2) rfl (by rw [ev5]; rfl) (by decide) rfl (fun ls hl => ?_)
        refine lv_goto (tgt := 2) hx hb dX1_readWall_41 (by decide) ?_
        exact ih g0_wallCount (upd f1 ((g0_wallCount * 4) + x2).toNatClampNeg g2_value) u4.1 u4.2.1 u4.2.2.1 u4.2.2.2 v5 hw H locs hP hD hS ls (lv_sub hl [1, 2, 0] rfl)
      · have hw := hw.2 hc
        refine lv_iconst (v := 0) hx hb dX1_readWall_15 (by decide) ?_
        rw [hQ]
        exact W.zret (v := 0) (ty := .boolean) hx hb hr rfl (fun t ht hW => ⟨⟨0, (g0_wallCount, f1, g2_here, g2_behind, g2_digits, g2_value), rfl, hw, by rw [ht]; exact hP, va_K.moved hW.alike hK, hD⟩, hS.F ht⟩) hS.2.2 dX1_readWall_16
set_option maxRecDepth 100000 in
set_option maxHeartbeats 4000000 in
theorem ctX1_readWall (l : Launch) (dC : Nat → ClassId) (dI : Nat → Nat → Nat) (cyI cyB cyJ cyZ : ClassId) (sz : Nat) (a0 a1 a2 a3 b0_xs b0_ys b0_counts : Nat) (g0_ways : Int32) (g0_texts : Int32) (g2_size : Int32) (f3 : Nat → Int32) (g0_wallCount : Int32) (f1 : Nat → Int32) (g2_here : Int32) (g2_behind : Int32) (g2_digits : Int32) (g2_value : Int32) (post : Int32 → (Int32 × (Nat → Int32) × Int32 × Int32 × Int32 × Int32) → Prop) (hw : wpX1_readWall post g2_size f3 g0_wallCount f1 g2_here g2_behind g2_digits g2_value ) : Met l yX1_readWall wsX1_readWall rmX1_readWall (va_Pc [.ref a0, .ref a2] (wPre dC dI cyI cyB cyJ cyZ sz (ceX1_readWall cyI cyB cyJ cyZ a0 a1 a2 a3 b0_xs b0_ys b0_counts g0_ways g0_texts g2_size f3 g0_wallCount f1 g2_here g2_behind g2_digits g2_value))) (va_Qi post (fun u : Int32 × (Nat → Int32) × Int32 × Int32 × Int32 × Int32 => wAt dC dI cyI cyB cyJ cyZ (va_A (ceX1_readWall cyI cyB cyJ cyZ a0 a1 a2 a3 b0_xs b0_ys b0_counts g0_ways g0_texts g2_size f3 g0_wallCount f1 g2_here g2_behind g2_digits g2_value) sz) (ceX1_readWall cyI cyB cyJ cyZ a0 a1 a2 a3 b0_xs b0_ys b0_counts g0_ways g0_texts g2_size f3 u.1 u.2.1 u.2.2.1 u.2.2.2.1 u.2.2.2.2.1 u.2.2.2.2.2)) (va_A (ceX1_readWall cyI cyB cyJ cyZ a0 a1 a2 a3 b0_xs b0_ys b0_counts g0_ways g0_texts g2_size f3 g0_wallCount f1 g2_here g2_behind g2_digits g2_value) sz)) 0 0 (va_A (ceX1_readWall cyI cyB cyJ cyZ a0 a1 a2 a3 b0_xs b0_ys b0_counts g0_ways g0_texts g2_size f3 g0_wallCount f1 g2_here g2_behind g2_digits g2_value) sz) := by
  refine Met.ofW (cc := cX1_readWall) (maxL := 3) (ret := (some .boolean)) (by decide) rfl ?_
  intro p e s m args below meth c s₁ B hml hv
  obtain ⟨rfl, hsz, hP, hK, hD0, hN⟩ := hv
  have hx := B.exec
  have hb := B.bytes
  have hr := B.returns
  have hts := atoms_spec (ws := wsX1_readWall) B.pre
  have hown : s.vm.findClass RX1 = some m.cls := findClass_of_methodNamed B.named
  have hlocks := B.notSynchronized
  subst hsz
  have hD := hD0.self (sz := s.heap.size)
  generalize hAe : va_A (ceX1_readWall cyI cyB cyJ cyZ a0 a1 a2 a3 b0_xs b0_ys b0_counts g0_ways g0_texts g2_size f3 g0_wallCount f1 g2_here g2_behind g2_digits g2_value) s.heap.size = A at hD ⊢
  have hA : ∀ q : Nat, s.heap.size ≤ q → A q := fun q h => by rw [← hAe]; exact Or.inr h
  have hS : va_S A s.heap s.heap [] := va_S.rf
  have C0 : cxM p s m meth c _ wsX1_readWall RX1 cX1_readWall 3 (some .boolean) := ⟨hx, hb, hr, hml, hown, hts, hlocks⟩
  have hl := lv_entry ([.ref a0, .ref a2]) (n := 3) (Nat.le_of_ble_eq_true rfl)
  rw [lg_entry_eq]
  generalize (lg_sl ([.ref a0, .ref a2]) ++ List.replicate (3 - (lg_sl ([.ref a0, .ref a2])).length) Slot.unset).toArray = ls at hl ⊢
  have hl : lv_has ls 3 [(0, .ref a0), (1, .ref a2)] := hl
  show W p l e rmX1_readWall s m _ below meth c _ _ _ _ _ _
  refine wq (fun Q hQ => ?_)
  refine lv_iconst (v := 0) hx hb dX1_readWall_0 (by decide) ?_
  refine lv_istore_n (lv' := [(2, .int 0), (0, .ref a0), (1, .ref a2)]) hx hb dX1_readWall_1 rfl hl (by decide) rfl (fun ls hl => ?_)
  obtain ⟨nn, hw⟩ := hw
  exact bX1_readWall_2 C0 hK hN hA hQ nn g0_wallCount f1 g2_here g2_behind g2_digits g2_value 0 hw _ _ hP hD hS ls (lv_sub hl [1, 2, 0] rfl)
/-! LeadPark$Ground.readLine (LLeadPark$Tape;)Z -/
abbrev ceX1_readLine (cyI cyB cyJ cyZ : ClassId) (a0 a1 a2 a3 a4 a5 a6 : Nat) (g0_texts : Int32) (g5_size : Int32) (f6 : Nat → Int32) (g0_ways : Int32) (g0_wallCount : Int32) (f1 : Nat → Int32) (f2 : Nat → Int32) (f3 : Nat → Int32) (f4 : Nat → Int32) (g5_here : Int32) (g5_behind : Int32) (g5_digits : Int32) (g5_value : Int32) : va_W := [(a0, .inr (1, [.ref a2, .ref a3, .ref a1, .ref a4, .int g0_ways, .int g0_wallCount, .int g0_texts])), (a1, .inl (cyI, 12, .inl f1)), (a2, .inl (cyI, 360, .inl f2)), (a3, .inl (cyI, 360, .inl f3)), (a4, .inl (cyI, 32, .inl f4)), (a5, .inr (8, [.ref a6, .int g5_size, .int g5_here, .int g5_behind, .int g5_digits, .int g5_value])), (a6, .inl (cyB, 400, .inl f6))]

theorem inX1_readLine_X1 : ∀ w ∈ wsX10, w ∈ wsX1_readLine := fun _ h => List.mem_cons_of_mem _ (List.mem_append_left _ (List.mem_append_right _ h))
theorem inX1_readLine_X8 : ∀ w ∈ wsX80, w ∈ wsX1_readLine := fun _ h => List.mem_cons_of_mem _ (List.mem_append_right _ h)
abbrev rmX1_readLine : Room := { frames := 5, cells := 0, slots := 0, locals := 107 }
set_option maxRecDepth 100000 in
set_option maxHeartbeats 4000000 in
theorem bX1_readLine_54 {p : Program} {l : Launch} {e : Env} {s : State} {m : MethodId} {args : Array Value} {below : List Frame} {meth : Method} {c : Code} {dC : Nat → ClassId} {dI : Nat → Nat → Nat} {cyI cyB cyJ cyZ : ClassId} {A : Nat → Prop} {a0 a1 a2 a3 a4 a5 a6 : Nat} {g0_texts : Int32} {adS : Nat → Nat} (C0 : cxM p s m meth c args wsX1_readLine RX1 cX1_readLine 3 (some .boolean)) (hK : va_K (dC, dI) vwCl (tyA cyI cyB cyJ cyZ) s) (hN : nwA s) (hA : ∀ q : Nat, s.heap.size ≤ q → A q) (hXs : (txA adS) A s s.heap) {post : Int32 → (Int32 × Int32 × (Nat → Int32) × (Nat → Int32) × (Nat → Int32) × (Nat → Int32) × Int32 × Int32 × Int32 × Int32) → Prop} {g5_size : Int32} {f6 : Nat → Int32} {Q : State → Prop} (hQ : Q = MQ below (va_Qi post (fun u : Int32 × Int32 × (Nat → Int32) × (Nat → Int32) × (Nat → Int32) × (Nat → Int32) × Int32 × Int32 × Int32 × Int32 => wAt dC dI cyI cyB cyJ cyZ A (ceX1_readLine cyI cyB cyJ cyZ a0 a1 a2 a3 a4 a5 a6 g0_texts g5_size f6 u.1 u.2.1 u.2.2.1 u.2.2.2.1 u.2.2.2.2.1 u.2.2.2.2.2.1 u.2.2.2.2.2.2.1 u.2.2.2.2.2.2.2.1 u.2.2.2.2.2.2.2.2.1 u.2.2.2.2.2.2.2.2.2)) A) args s 0 0 A) : ∀ (g0_ways : Int32) (g0_wallCount : Int32) (f1 : Nat → Int32) (f2 : Nat → Int32) (f3 : Nat → Int32) (f4 : Nat → Int32) (g5_here : Int32) (g5_behind : Int32) (g5_digits : Int32) (g5_value : Int32), wpX1_readLine_54 post g5_size f6 g0_ways g0_wallCount f1 f2 f3 f4 g5_here g5_behind g5_digits g5_value → AtW p l e rmX1_readLine s m args below meth c dC dI A Q 3 0 0 (ceX1_readLine cyI cyB cyJ cyZ a0 a1 a2 a3 a4 a5 a6 g0_texts g5_size f6 g0_ways g0_wallCount f1 f2 f3 f4 g5_here g5_behind g5_digits g5_value) [(0, .ref a0), (1, .ref a5)] 54 [] := by
  intro g0_ways g0_wallCount f1 f2 f3 f4 g5_here g5_behind g5_digits g5_value hw H locs hP hD hS ls hl
  have C1 := C0
  obtain ⟨hx, hb, hr, hml, hown, hts, hlocks⟩ := C1
  refine lv_aload_n hx hb dX1_readLine_54 rfl (lv_at hl 1 rfl) ?_
  refine va_ldcS hx hb hown (hXs.2 1 _ rfl).1 dX1_readLine_55 ?_
  have hPc := hP.sub (ws' := (ceX8_isWord cyI cyB cyJ cyZ a5 a6 g5_size g5_digits g5_value g5_here g5_behind f6)) [5, 6] rfl
  have hDc := hD.sub (ws' := (ceX8_isWord cyI cyB cyJ cyZ a5 a6 g5_size g5_digits g5_value g5_here g5_behind f6)) [5, 6] (by decide) rfl
  have hFc := va_free (wc := (ceX8_isWord cyI cyB cyJ cyZ a5 a6 g5_size g5_digits g5_value g5_here g5_behind f6)) hD hS hA [5, 6] rfl
  refine va_calli (va_runV (As := [.ref (adS 1)]) (rest := []) ⟨hx, hb, hml, hown, hts⟩ (ctX8_isWord l dC dI cyI cyB cyJ cyZ _ a5 a6 g5_size g5_digits g5_value g5_here g5_behind f6 _ [109, 111, 114, 101] (adS 1) hw) (cwV 1 hts gX1_readLine_X8_isWord rfl rfl rfl (by decide +kernel) ⟨Nat.le_of_ble_eq_true rfl, Nat.le_of_ble_eq_true rfl⟩) ⟨wPreX_blind (xOk_txS [109, 111, 114, 101] (adS 1)), va_recv hK hPc (ci := 8) (q0 := 0) rfl rfl, fun U hU hW => wPreX_of (xOk_txS [109, 111, 114, 101] (adS 1)) hPc hK hDc hN ⟨hXs.1, (hXs.2 1 _ rfl).2⟩ hS hFc hU hW⟩ rfl rfl hl.1 rfl (lv_room (Nat.le_of_ble_eq_true rfl)) dX1_readLine_57 ⟨(Nat.zero_le _), (Nat.zero_le _)⟩) hS (fun q _ h => hFc q h) hFc (fun r2 u1 t H1 locs ht hvm hw hB hz1 hk1 hS => ?_)
  obtain ⟨hP1, hK1, hD1⟩ := hB
  rw [ht] at hP1
  obtain ⟨hP, hD⟩ := va_join (wr := pickW (ceX1_readLine cyI cyB cyJ cyZ a0 a1 a2 a3 a4 a5 a6 g0_texts g5_size f6 g0_ways g0_wallCount f1 f2 f3 f4 g5_here g5_behind g5_digits g5_value) [0, 1, 2, 3, 4]) (w1 := (ceX8_isWord cyI cyB cyJ cyZ a5 a6 g5_size g5_digits g5_value g5_here g5_behind f6)) hP hD [5, 6] [0, 1, 2, 3, 4] rfl rfl (by decide) (by decide) hk1 hFc hP1 hD1
  have hP := hP.sub (ws' := (ceX1_readLine cyI cyB cyJ cyZ a0 a1 a2 a3 a4 a5 a6 g0_texts g5_size f6 g0_ways g0_wallCount f1 f2 f3 f4 g5_here g5_behind g5_digits g5_value)) [0, 1, 2, 3, 4, 5, 6] rfl
  have hD := hD.sub (ws' := (ceX1_readLine cyI cyB cyJ cyZ a0 a1 a2 a3 a4 a5 a6 g0_texts g5_size f6 g0_ways g0_wallCount f1 f2 f3 f4 g5_here g5_behind g5_digits g5_value)) [0, 1, 2, 3, 4, 5, 6] (by decide) rfl
  generalize H1 = H at hP hS ⊢
  refine lv_if_eq (tgt := 104) hx hb dX1_readLine_60 (by decide) (fun hc => ?_) (fun hc => ?_)
  · have hw := hw.1 hc
    refine lv_aload_n hx hb dX1_readLine_104 rfl (lv_at hl 1 rfl) ?_
    refine va_ldcS hx hb hown (hXs.2 2 _ rfl).1 dX1_readLine_105 ?_
    have hPc := hP.sub (ws' := (ceX8_isWord cyI cyB cyJ cyZ a5 a6 g5_size g5_digits g5_value g5_here g5_behind f6)) [5, 6] rfl
    have hDc := hD.sub (ws' := (ceX8_isWord cyI cyB cyJ cyZ a5 a6 g5_size g5_digits g5_value g5_here g5_behind f6)) [5, 6] (by decide) rfl
    have hFc := va_free (wc := (ceX8_isWord cyI cyB cyJ cyZ a5 a6 g5_size g5_digits g5_value g5_here g5_behind f6)) hD hS hA [5, 6] rfl
    refine va_calli (va_runV (As := [.ref (adS 2)]) (rest := []) ⟨hx, hb, hml, hown, hts⟩ (ctX8_isWord l dC dI cyI cyB cyJ cyZ _ a5 a6 g5_size g5_digits g5_value g5_here g5_behind f6 _ [119, 97, 108, 108] (adS 2) hw) (cwV 1 hts gX1_readLine_X8_isWord rfl rfl rfl (by decide +kernel) ⟨Nat.le_of_ble_eq_true rfl, Nat.le_of_ble_eq_true rfl⟩) ⟨wPreX_blind (xOk_txS [119, 97, 108, 108] (adS 2)), va_recv hK hPc (ci := 8) (q0 := 0) rfl rfl, fun U hU hW => wPreX_of (xOk_txS [119, 97, 108, 108] (adS 2)) hPc hK hDc hN ⟨hXs.1, (hXs.2 2 _ rfl).2⟩ hS hFc hU hW⟩ rfl rfl hl.1 rfl (lv_room (Nat.le_of_ble_eq_true rfl)) dX1_readLine_107 ⟨(Nat.zero_le _), (Nat.zero_le _)⟩) hS (fun q _ h => hFc q h) hFc (fun r4 u3 t H1 locs ht hvm hw hB hz1 hk1 hS => ?_)
    obtain ⟨hP1, hK1, hD1⟩ := hB
    rw [ht] at hP1
    obtain ⟨hP, hD⟩ := va_join (wr := pickW (ceX1_readLine cyI cyB cyJ cyZ a0 a1 a2 a3 a4 a5 a6 g0_texts g5_size f6 g0_ways g0_wallCount f1 f2 f3 f4 g5_here g5_behind g5_digits g5_value) [0, 1, 2, 3, 4]) (w1 := (ceX8_isWord cyI cyB cyJ cyZ a5 a6 g5_size g5_digits g5_value g5_here g5_behind f6)) hP hD [5, 6] [0, 1, 2, 3, 4] rfl rfl (by decide) (by decide) hk1 hFc hP1 hD1
    have hP := hP.sub (ws' := (ceX1_readLine cyI cyB cyJ cyZ a0 a1 a2 a3 a4 a5 a6 g0_texts g5_size f6 g0_ways g0_wallCount f1 f2 f3 f4 g5_here g5_behind g5_digits g5_value)) [0, 1, 2, 3, 4, 5, 6] rfl
    have hD := hD.sub (ws' := (ceX1_readLine cyI cyB cyJ cyZ a0 a1 a2 a3 a4 a5 a6 g0_texts g5_size f6 g0_ways g0_wallCount f1 f2 f3 f4 g5_here g5_behind g5_digits g5_value)) [0, 1, 2, 3, 4, 5, 6] (by decide) rfl
    generalize H1 = H at hP hS ⊢
    refine lv_if_eq (tgt := 132) hx hb dX1_readLine_110 (by decide) (fun hc => ?_) (fun hc => ?_)
    · have hw := hw.1 hc
      refine lv_iconst (v := 0) hx hb dX1_readLine_132 (by decide) ?_
      rw [hQ]
      exact W.zret (v := 0) (ty := .boolean) hx hb hr rfl (fun t ht hW => ⟨⟨0, (g0_ways, g0_wallCount, f1, f2, f3, f4, g5_here, g5_behind, g5_digits, g5_value), rfl, hw, by rw [ht]; exact hP, va_K.moved hW.alike hK, hD⟩, hS.F ht⟩) hS.2.2 dX1_readLine_133
    · have hw := hw.2 hc
      refine lv_aload_n hx hb dX1_readLine_113 rfl (lv_at hl 0 rfl) ?_
      refine va_get (D := (dC, dI)) (ci := 1) (v := .int g0_wallCount) (C := RX1) (T := TX1) (N := 7) hx hb hts inX1_readLine_X1 hown hK hP 0 rfl rfl 5 (by decide) (hts (.fieldLink RX1 28 "LeadPark$Ground" "wallCount" "I") (List.mem_of_getElem? (i := 3) rfl)) (fun _ h9 => h9) rfl dX1_readLine_114 ?_
      refine lv_bipush (v := 8) hx hb dX1_readLine_117 (by decide) ?_
      refine lv_icmp_ge (tgt := 132) hx hb dX1_readLine_119 (by decide) (fun hc => ?_) (fun hc => ?_)
      · have hw := hw.1 hc
        refine lv_iconst (v := 0) hx hb dX1_readLine_132 (by decide) ?_
        rw [hQ]
        exact W.zret (v := 0) (ty := .boolean) hx hb hr rfl (fun t ht hW => ⟨⟨0, (g0_ways, g0_wallCount, f1, f2, f3, f4, g5_here, g5_behind, g5_digits, g5_value), rfl, hw, by rw [ht]; exact hP, va_K.moved hW.alike hK, hD⟩, hS.F ht⟩) hS.2.2 dX1_readLine_133
      · have hw := hw.2 hc
        refine lv_aload_n hx hb dX1_readLine_122 rfl (lv_at hl 1 rfl) ?_
        have hPc := hP.sub (ws' := (ceX8_toNext cyI cyB cyJ cyZ a5 a6 g5_size f6 g5_here g5_behind g5_digits g5_value)) [5, 6] rfl
        have hDc := hD.sub (ws' := (ceX8_toNext cyI cyB cyJ cyZ a5 a6 g5_size f6 g5_here g5_behind g5_digits g5_value)) [5, 6] (by decide) rfl
        have hFc := va_free (wc := (ceX8_toNext cyI cyB cyJ cyZ a5 a6 g5_size f6 g5_here g5_behind g5_digits g5_value)) hD hS hA [5, 6] rfl
        refine va_callv (va_runV (As := []) (rest := []) ⟨hx, hb, hml, hown, hts⟩ (ctX8_toNext l dC dI cyI cyB cyJ cyZ _ a5 a6 g5_size f6 g5_here g5_behind g5_digits g5_value _ hw) (cwV 0 hts gX1_readLine_X8_toNext rfl rfl rfl (by decide +kernel) ⟨Nat.le_of_ble_eq_true rfl, Nat.le_of_ble_eq_true rfl⟩) ⟨wPre_blind, va_recv hK hPc (ci := 8) (q0 := 0) rfl rfl, fun U hU hW => wPre_of hPc hK hDc hN hU hW⟩ rfl rfl hl.1 rfl (lv_room (Nat.le_of_ble_eq_true rfl)) dX1_readLine_123 ⟨(Nat.zero_le _), (Nat.zero_le _)⟩) hS (fun q _ h => hFc q h) hFc (fun u5 t H1 locs ht hvm hw hB hz1 hk1 hS => ?_)
        obtain ⟨hP1, hK1, hD1⟩ := hB
        rw [ht] at hP1
        obtain ⟨hP, hD⟩ := va_join (wr := pickW (ceX1_readLine cyI cyB cyJ cyZ a0 a1 a2 a3 a4 a5 a6 g0_texts g5_size f6 g0_ways g0_wallCount f1 f2 f3 f4 g5_here g5_behind g5_digits g5_value) [0, 1, 2, 3, 4]) (w1 := (ceX8_toNext cyI cyB cyJ cyZ a5 a6 g5_size f6 u5.1 u5.2.1 u5.2.2.1 u5.2.2.2)) hP hD [5, 6] [0, 1, 2, 3, 4] rfl rfl (by decide) (by decide) hk1 hFc hP1 hD1
        have hP := hP.sub (ws' := (ceX1_readLine cyI cyB cyJ cyZ a0 a1 a2 a3 a4 a5 a6 g0_texts g5_size f6 g0_ways g0_wallCount f1 f2 f3 f4 u5.1 u5.2.1 u5.2.2.1 u5.2.2.2)) [0, 1, 2, 3, 4, 5, 6] rfl
        have hD := hD.sub (ws' := (ceX1_readLine cyI cyB cyJ cyZ a0 a1 a2 a3 a4 a5 a6 g0_texts g5_size f6 g0_ways g0_wallCount f1 f2 f3 f4 u5.1 u5.2.1 u5.2.2.1 u5.2.2.2)) [0, 1, 2, 3, 4, 5, 6] (by decide) rfl
        generalize H1 = H at hP hS ⊢
        refine lv_aload_n hx hb dX1_readLine_126 rfl (lv_at hl 0 rfl) ?_
        refine lv_aload_n hx hb dX1_readLine_127 rfl (lv_at hl 1 rfl) ?_
        have hPc := hP.sub (ws' := (ceX1_readWall cyI cyB cyJ cyZ a0 a4 a5 a6 a2 a3 a1 g0_ways g0_texts g5_size f6 g0_wallCount f4 u5.1 u5.2.1 u5.2.2.1 u5.2.2.2)) [0, 4, 5, 6] rfl
        have hDc := hD.sub (ws' := (ceX1_readWall cyI cyB cyJ cyZ a0 a4 a5 a6 a2 a3 a1 g0_ways g0_texts g5_size f6 g0_wallCount f4 u5.1 u5.2.1 u5.2.2.1 u5.2.2.2)) [0, 4, 5, 6] (by decide) rfl
        have hFc := va_free (wc := (ceX1_readWall cyI cyB cyJ cyZ a0 a4 a5 a6 a2 a3 a1 g0_ways g0_texts g5_size f6 g0_wallCount f4 u5.1 u5.2.1 u5.2.2.1 u5.2.2.2)) hD hS hA [0, 4, 5, 6] rfl
        refine va_calli (va_runV (As := [.ref a5]) (rest := []) ⟨hx, hb, hml, hown, hts⟩ (ctX1_readWall l dC dI cyI cyB cyJ cyZ _ a0 a4 a5 a6 a2 a3 a1 g0_ways g0_texts g5_size f6 g0_wallCount f4 u5.1 u5.2.1 u5.2.2.1 u5.2.2.2 _ hw) (cwV 1 hts gX1_readLine_X1_readWall rfl rfl rfl (by decide +kernel) ⟨Nat.le_of_ble_eq_true rfl, Nat.le_of_ble_eq_true rfl⟩) ⟨wPre_blind, va_recv hK hPc (ci := 1) (q0 := 0) rfl rfl, fun U hU hW => wPre_of hPc hK hDc hN hU hW⟩ rfl rfl hl.1 rfl (lv_room (Nat.le_of_ble_eq_true rfl)) dX1_readLine_128 ⟨(Nat.zero_le _), (Nat.zero_le _)⟩) hS (fun q _ h => hFc q h) hFc (fun r7 u6 t H1 locs ht hvm hw hB hz1 hk1 hS => ?_)
        obtain ⟨hP1, hK1, hD1⟩ := hB
        rw [ht] at hP1
        obtain ⟨hP, hD⟩ := va_join (wr := pickW (ceX1_readLine cyI cyB cyJ cyZ a0 a1 a2 a3 a4 a5 a6 g0_texts g5_size f6 g0_ways g0_wallCount f1 f2 f3 f4 u5.1 u5.2.1 u5.2.2.1 u5.2.2.2) [1, 2, 3]) (w1 := (ceX1_readWall cyI cyB cyJ cyZ a0 a4 a5 a6 a2 a3 a1 g0_ways g0_texts g5_size f6 u6.1 u6.2.1 u6.2.2.1 u6.2.2.2.1 u6.2.2.2.2.1 u6.2.2.2.2.2)) hP hD [0, 4, 5, 6] [1, 2, 3] rfl rfl (by decide) (by decide) hk1 hFc hP1 hD1
        have hP := hP.sub (ws' := (ceX1_readLine cyI cyB cyJ cyZ a0 a1 a2 a3 a4 a5 a6 g0_texts g5_size f6 g0_ways u6.1 f1 f2 f3 u6.2.1 u6.2.2.1 u6.2.2.2.1 u6.2.2.2.2.1 u6.2.2.2.2.2)) [3, 0, 1, 2, 4, 5, 6] rfl
        have hD := hD.sub (ws' := (ceX1_readLine cyI cyB cyJ cyZ a0 a1 a2 a3 a4 a5 a6 g0_texts g5_size f6 g0_ways u6.1 f1 f2 f3 u6.2.1 u6.2.2.1 u6.2.2.2.1 u6.2.2.2.2.1 u6.2.2.2.2.2)) [3, 0, 1, 2, 4, 5, 6] (by decide) rfl
        generalize H1 = H at hP hS ⊢
        rw [hQ]
        obtain ⟨hz, hw⟩ := hw
        exact W.zret (v := r7) (ty := .boolean) hx hb hr (zb_n hz) (fun t ht hW => ⟨⟨r7, (g0_ways, u6.1, f1, f2, f3, u6.2.1, u6.2.2.1, u6.2.2.2.1, u6.2.2.2.2.1, u6.2.2.2.2.2), rfl, hw, by rw [ht]; exact hP, va_K.moved hW.alike hK, hD⟩, hS.F ht⟩) hS.2.2 dX1_readLine_131
  · have hw := hw.2 hc
    refine lv_aload_n hx hb dX1_readLine_63 rfl (lv_at hl 1 rfl) ?_
    have hPc := hP.sub (ws' := (ceX8_toNext cyI cyB cyJ cyZ a5 a6 g5_size f6 g5_here g5_behind g5_digits g5_value)) [5, 6] rfl
    have hDc := hD.sub (ws' := (ceX8_toNext cyI cyB cyJ cyZ a5 a6 g5_size f6 g5_here g5_behind g5_digits g5_value)) [5, 6] (by decide) rfl
    have hFc := va_free (wc := (ceX8_toNext cyI cyB cyJ cyZ a5 a6 g5_size f6 g5_here g5_behind g5_digits g5_value)) hD hS hA [5, 6] rfl
    refine va_callv (va_runV (As := []) (rest := []) ⟨hx, hb, hml, hown, hts⟩ (ctX8_toNext l dC dI cyI cyB cyJ cyZ _ a5 a6 g5_size f6 g5_here g5_behind g5_digits g5_value _ hw) (cwV 0 hts gX1_readLine_X8_toNext rfl rfl rfl (by decide +kernel) ⟨Nat.le_of_ble_eq_true rfl, Nat.le_of_ble_eq_true rfl⟩) ⟨wPre_blind, va_recv hK hPc (ci := 8) (q0 := 0) rfl rfl, fun U hU hW => wPre_of hPc hK hDc hN hU hW⟩ rfl rfl hl.1 rfl (lv_room (Nat.le_of_ble_eq_true rfl)) dX1_readLine_64 ⟨(Nat.zero_le _), (Nat.zero_le _)⟩) hS (fun q _ h => hFc q h) hFc (fun u8 t H1 locs ht hvm hw hB hz1 hk1 hS => ?_)
    obtain ⟨hP1, hK1, hD1⟩ := hB
    rw [ht] at hP1
    obtain ⟨hP, hD⟩ := va_join (wr := pickW (ceX1_readLine cyI cyB cyJ cyZ a0 a1 a2 a3 a4 a5 a6 g0_texts g5_size f6 g0_ways g0_wallCount f1 f2 f3 f4 g5_here g5_behind g5_digits g5_value) [0, 1, 2, 3, 4]) (w1 := (ceX8_toNext cyI cyB cyJ cyZ a5 a6 g5_size f6 u8.1 u8.2.1 u8.2.2.1 u8.2.2.2)) hP hD [5, 6] [0, 1, 2, 3, 4] rfl rfl (by decide) (by decide) hk1 hFc hP1 hD1
    have hP := hP.sub (ws' := (ceX1_readLine cyI cyB cyJ cyZ a0 a1 a2 a3 a4 a5 a6 g0_texts g5_size f6 g0_ways g0_wallCount f1 f2 f3 f4 u8.1 u8.2.1 u8.2.2.1 u8.2.2.2)) [0, 1, 2, 3, 4, 5, 6] rfl
    have hD := hD.sub (ws' := (ceX1_readLine cyI cyB cyJ cyZ a0 a1 a2 a3 a4 a5 a6 g0_texts g5_size f6 g0_ways g0_wallCount f1 f2 f3 f4 u8.1 u8.2.1 u8.2.2.1 u8.2.2.2)) [0, 1, 2, 3, 4, 5, 6] (by decide) rfl
    generalize H1 = H at hP hS ⊢
    refine lv_aload_n hx hb dX1_readLine_67 rfl (lv_at hl 1 rfl) ?_
    refine lv_iconst (v := 3) hx hb dX1_readLine_68 (by decide) ?_
    have hPc := hP.sub (ws' := (ceX8_isNumber cyI cyB cyJ cyZ a5 a6 g5_size u8.1 u8.2.1 u8.2.2.2 u8.2.2.1)) [5] rfl
    have hDc := hD.sub (ws' := (ceX8_isNumber cyI cyB cyJ cyZ a5 a6 g5_size u8.1 u8.2.1 u8.2.2.2 u8.2.2.1)) [5] (by decide) rfl
    have hFc := va_free (wc := (ceX8_isNumber cyI cyB cyJ cyZ a5 a6 g5_size u8.1 u8.2.1 u8.2.2.2 u8.2.2.1)) hD hS hA [5] rfl
    refine va_calli (va_runV (As := [.int 3]) (rest := []) ⟨hx, hb, hml, hown, hts⟩ (ctX8_isNumber l dC dI cyI cyB cyJ cyZ _ a5 a6 g5_size u8.1 u8.2.1 u8.2.2.2 u8.2.2.1 3 _ hw) (cwV 1 hts gX1_readLine_X8_isNumber rfl rfl rfl (by decide +kernel) ⟨Nat.le_of_ble_eq_true rfl, Nat.le_of_ble_eq_true rfl⟩) ⟨wPre_blind, va_recv hK hPc (ci := 8) (q0 := 0) rfl rfl, fun U hU hW => wPre_of hPc hK hDc hN hU hW⟩ rfl rfl hl.1 rfl (lv_room (Nat.le_of_ble_eq_true rfl)) dX1_readLine_69 ⟨(Nat.zero_le _), (Nat.zero_le _)⟩) hS (fun q _ h => hFc q h) hFc (fun r10 u9 t H1 locs ht hvm hw hB hz1 hk1 hS => ?_)
    obtain ⟨hP1, hK1, hD1⟩ := hB
    rw [ht] at hP1
    obtain ⟨hP, hD⟩ := va_join (wr := pickW (ceX1_readLine cyI cyB cyJ cyZ a0 a1 a2 a3 a4 a5 a6 g0_texts g5_size f6 g0_ways g0_wallCount f1 f2 f3 f4 u8.1 u8.2.1 u8.2.2.1 u8.2.2.2) [0, 1, 2, 3, 4, 6]) (w1 := (ceX8_isNumber cyI cyB cyJ cyZ a5 a6 g5_size u8.1 u8.2.1 u8.2.2.2 u8.2.2.1)) hP hD [5] [0, 1, 2, 3, 4, 6] rfl rfl (by decide) (by decide) hk1 hFc hP1 hD1
    have hP := hP.sub (ws' := (ceX1_readLine cyI cyB cyJ cyZ a0 a1 a2 a3 a4 a5 a6 g0_texts g5_size f6 g0_ways g0_wallCount f1 f2 f3 f4 u8.1 u8.2.1 u8.2.2.1 u8.2.2.2)) [0, 1, 2, 3, 4, 6, 5] rfl
    have hD := hD.sub (ws' := (ceX1_readLine cyI cyB cyJ cyZ a0 a1 a2 a3 a4 a5 a6 g0_texts g5_size f6 g0_ways g0_wallCount f1 f2 f3 f4 u8.1 u8.2.1 u8.2.2.1 u8.2.2.2)) [0, 1, 2, 3, 4, 6, 5] (by decide) rfl
    generalize H1 = H at hP hS ⊢
    refine lv_if_eq (tgt := 86) hx hb dX1_readLine_72 (by decide) (fun hc => ?_) (fun hc => ?_)
    · have hw := hw.1 hc
      refine lv_iconst (v := 0) hx hb dX1_readLine_86 (by decide) ?_
      rw [hQ]
      exact W.zret (v := 0) (ty := .boolean) hx hb hr rfl (fun t ht hW => ⟨⟨0, (g0_ways, g0_wallCount, f1, f2, f3, f4, u8.1, u8.2.1, u8.2.2.1, u8.2.2.2), rfl, hw, by rw [ht]; exact hP, va_K.moved hW.alike hK, hD⟩, hS.F ht⟩) hS.2.2 dX1_readLine_87
    · have hw := hw.2 hc
      refine lv_aload_n hx hb dX1_readLine_75 rfl (lv_at hl 0 rfl) ?_
      refine lv_aload_n hx hb dX1_readLine_76 rfl (lv_at hl 1 rfl) ?_
      refine va_getN (D := (dC, dI)) (ci := 8) (v := .int u8.2.2.2) (C := RX8) (T := TX8) (N := 6) hx hb hts inX1_readLine_X8 hown hK hP 5 rfl rfl 5 (by decide) (va_Nw.use rfl (hN _ (List.mem_of_getElem? (i := 3) rfl))) (fun _ h9 => h9) rfl dX1_readLine_77 ?_
      have hPc := hP.sub (ws' := (ceX1_hasWay cyI cyB cyJ cyZ a0 a2 a3 a1 a4 g0_wallCount g0_texts g0_ways)) [0] rfl
      have hDc := hD.sub (ws' := (ceX1_hasWay cyI cyB cyJ cyZ a0 a2 a3 a1 a4 g0_wallCount g0_texts g0_ways)) [0] (by decide) rfl
      have hFc := va_free (wc := (ceX1_hasWay cyI cyB cyJ cyZ a0 a2 a3 a1 a4 g0_wallCount g0_texts g0_ways)) hD hS hA [0] rfl
      refine va_calli (va_runV (As := [.int u8.2.2.2]) (rest := []) ⟨hx, hb, hml, hown, hts⟩ (ctX1_hasWay l dC dI cyI cyB cyJ cyZ _ a0 a2 a3 a1 a4 g0_wallCount g0_texts g0_ways u8.2.2.2 _ hw) (cwV 1 hts gX1_readLine_X1_hasWay rfl rfl rfl (by decide +kernel) ⟨Nat.le_of_ble_eq_true rfl, Nat.le_of_ble_eq_true rfl⟩) ⟨wPre_blind, va_recv hK hPc (ci := 1) (q0 := 0) rfl rfl, fun U hU hW => wPre_of hPc hK hDc hN hU hW⟩ rfl rfl hl.1 rfl (lv_room (Nat.le_of_ble_eq_true rfl)) dX1_readLine_80 ⟨(Nat.zero_le _), (Nat.zero_le _)⟩) hS (fun q _ h => hFc q h) hFc (fun r12 u11 t H1 locs ht hvm hw hB hz1 hk1 hS => ?_)
      obtain ⟨hP1, hK1, hD1⟩ := hB
      rw [ht] at hP1
      obtain ⟨hP, hD⟩ := va_join (wr := pickW (ceX1_readLine cyI cyB cyJ cyZ a0 a1 a2 a3 a4 a5 a6 g0_texts g5_size f6 g0_ways g0_wallCount f1 f2 f3 f4 u8.1 u8.2.1 u8.2.2.1 u8.2.2.2) [1, 2, 3, 4, 5, 6]) (w1 := (ceX1_hasWay cyI cyB cyJ cyZ a0 a2 a3 a1 a4 g0_wallCount g0_texts g0_ways)) hP hD [0] [1, 2, 3, 4, 5, 6] rfl rfl (by decide) (by decide) hk1 hFc hP1 hD1
      have hP := hP.sub (ws' := (ceX1_readLine cyI cyB cyJ cyZ a0 a1 a2 a3 a4 a5 a6 g0_texts g5_size f6 g0_ways g0_wallCount f1 f2 f3 f4 u8.1 u8.2.1 u8.2.2.1 u8.2.2.2)) [6, 0, 1, 2, 3, 4, 5] rfl
      have hD := hD.sub (ws' := (ceX1_readLine cyI cyB cyJ cyZ a0 a1 a2 a3 a4 a5 a6 g0_texts g5_size f6 g0_ways g0_wallCount f1 f2 f3 f4 u8.1 u8.2.1 u8.2.2.1 u8.2.2.2)) [6, 0, 1, 2, 3, 4, 5] (by decide) rfl
      generalize H1 = H at hP hS ⊢
      refine lv_if_ne (tgt := 88) hx hb dX1_readLine_83 (by decide) (fun hc => ?_) (fun hc => ?_)
      · have hw := hw.1 hc
        refine lv_aload_n hx hb dX1_readLine_88 rfl (lv_at hl 1 rfl) ?_
        refine va_getN (D := (dC, dI)) (ci := 8) (v := .int u8.2.2.2) (C := RX8) (T := TX8) (N := 6) hx hb hts inX1_readLine_X8 hown hK hP 5 rfl rfl 5 (by decide) (va_Nw.use rfl (hN _ (List.mem_of_getElem? (i := 3) rfl))) (fun _ h9 => h9) rfl dX1_readLine_89 ?_
        refine lv_istore_n (lv' := [(2, .int u8.2.2.2), (0, .ref a0), (1, .ref a5)]) hx hb dX1_readLine_92 rfl hl (by decide) rfl (fun ls hl => ?_)
        refine lv_aload_n hx hb dX1_readLine_93 rfl (lv_at hl 2 rfl) ?_
        have hPc := hP.sub (ws' := (ceX8_toNext cyI cyB cyJ cyZ a5 a6 g5_size f6 u8.1 u8.2.1 u8.2.2.1 u8.2.2.2)) [5, 6] rfl
        have hDc := hD.sub (ws' := (ceX8_toNext cyI cyB cyJ cyZ a5 a6 g5_size f6 u8.1 u8.2.1 u8.2.2.1 u8.2.2.2)) [5, 6] (by decide) rfl
        have hFc := va_free (wc := (ceX8_toNext cyI cyB cyJ cyZ a5 a6 g5_size f6 u8.1 u8.2.1 u8.2.2.1 u8.2.2.2)) hD hS hA [5, 6] rfl
        refine va_callv (va_runV (As := []) (rest := []) ⟨hx, hb, hml, hown, hts⟩ (ctX8_toNext l dC dI cyI cyB cyJ cyZ _ a5 a6 g5_size f6 u8.1 u8.2.1 u8.2.2.1 u8.2.2.2 _ hw) (cwV 0 hts gX1_readLine_X8_toNext rfl rfl rfl (by decide +kernel) ⟨Nat.le_of_ble_eq_true rfl, Nat.le_of_ble_eq_true rfl⟩) ⟨wPre_blind, va_recv hK hPc (ci := 8) (q0 := 0) rfl rfl, fun U hU hW => wPre_of hPc hK hDc hN hU hW⟩ rfl rfl hl.1 rfl (lv_room (Nat.le_of_ble_eq_true rfl)) dX1_readLine_94 ⟨(Nat.zero_le _), (Nat.zero_le _)⟩) hS (fun q _ h => hFc q h) hFc (fun u13 t H1 locs ht hvm hw hB hz1 hk1 hS => ?_)
        obtain ⟨hP1, hK1, hD1⟩ := hB
        rw [ht] at hP1
        obtain ⟨hP, hD⟩ := va_join (wr := pickW (ceX1_readLine cyI cyB cyJ cyZ a0 a1 a2 a3 a4 a5 a6 g0_texts g5_size f6 g0_ways g0_wallCount f1 f2 f3 f4 u8.1 u8.2.1 u8.2.2.1 u8.2.2.2) [0, 1, 2, 3, 4]) (w1 := (ceX8_toNext cyI cyB cyJ cyZ a5 a6 g5_size f6 u13.1 u13.2.1 u13.2.2.1 u13.2.2.2)) hP hD [5, 6] [0, 1, 2, 3, 4] rfl rfl (by decide) (by decide) hk1 hFc hP1 hD1
        have hP := hP.sub (ws' := (ceX1_readLine cyI cyB cyJ cyZ a0 a1 a2 a3 a4 a5 a6 g0_texts g5_size f6 g0_ways g0_wallCount f1 f2 f3 f4 u13.1 u13.2.1 u13.2.2.1 u13.2.2.2)) [0, 1, 2, 3, 4, 5, 6] rfl
        have hD := hD.sub (ws' := (ceX1_readLine cyI cyB cyJ cyZ a0 a1 a2 a3 a4 a5 a6 g0_texts g5_size f6 g0_ways g0_wallCount f1 f2 f3 f4 u13.1 u13.2.1 u13.2.2.1 u13.2.2.2)) [0, 1, 2, 3, 4, 5, 6] (by decide) rfl
        generalize H1 = H at hP hS ⊢
        refine lv_aload_n hx hb dX1_readLine_97 rfl (lv_at hl 1 rfl) ?_
        refine lv_aload_n hx hb dX1_readLine_98 rfl (lv_at hl 2 rfl) ?_
        refine lv_iload_n hx hb dX1_readLine_99 rfl (lv_at hl 0 rfl) ?_
        have hPc := hP.sub (ws' := (ceX1_readCorners cyI cyB cyJ cyZ a0 a1 a2 a3 a5 a6 a4 g0_ways g0_wallCount g0_texts g5_size f6 f1 f2 f3 u13.1 u13.2.1 u13.2.2.1 u13.2.2.2)) [0, 1, 2, 3, 5, 6] rfl
        have hDc := hD.sub (ws' := (ceX1_readCorners cyI cyB cyJ cyZ a0 a1 a2 a3 a5 a6 a4 g0_ways g0_wallCount g0_texts g5_size f6 f1 f2 f3 u13.1 u13.2.1 u13.2.2.1 u13.2.2.2)) [0, 1, 2, 3, 5, 6] (by decide) rfl
        have hFc := va_free (wc := (ceX1_readCorners cyI cyB cyJ cyZ a0 a1 a2 a3 a5 a6 a4 g0_ways g0_wallCount g0_texts g5_size f6 f1 f2 f3 u13.1 u13.2.1 u13.2.2.1 u13.2.2.2)) hD hS hA [0, 1, 2, 3, 5, 6] rfl
        refine va_calli (va_runV (As := [.ref a5, .int u8.2.2.2]) (rest := []) ⟨hx, hb, hml, hown, hts⟩ (ctX1_readCorners l dC dI cyI cyB cyJ cyZ _ a0 a1 a2 a3 a5 a6 a4 g0_ways g0_wallCount g0_texts g5_size f6 f1 f2 f3 u13.1 u13.2.1 u13.2.2.1 u13.2.2.2 u8.2.2.2 _ hw) (cwV 2 hts gX1_readLine_X1_readCorners rfl rfl rfl (by decide +kernel) ⟨Nat.le_of_ble_eq_true rfl, Nat.le_of_ble_eq_true rfl⟩) ⟨wPre_blind, va_recv hK hPc (ci := 1) (q0 := 0) rfl rfl, fun U hU hW => wPre_of hPc hK hDc hN hU hW⟩ rfl rfl hl.1 rfl (lv_room (Nat.le_of_ble_eq_true rfl)) dX1_readLine_100 ⟨(Nat.zero_le _), (Nat.zero_le _)⟩) hS (fun q _ h => hFc q h) hFc (fun r15 u14 t H1 locs ht hvm hw hB hz1 hk1 hS => ?_)
        obtain ⟨hP1, hK1, hD1⟩ := hB
        rw [ht] at hP1
        obtain ⟨hP, hD⟩ := va_join (wr := pickW (ceX1_readLine cyI cyB cyJ cyZ a0 a1 a2 a3 a4 a5 a6 g0_texts g5_size f6 g0_ways g0_wallCount f1 f2 f3 f4 u13.1 u13.2.1 u13.2.2.1 u13.2.2.2) [4]) (w1 := (ceX1_readCorners cyI cyB cyJ cyZ a0 a1 a2 a3 a5 a6 a4 g0_ways g0_wallCount g0_texts g5_size f6 u14.1 u14.2.1 u14.2.2.1 u14.2.2.2.1 u14.2.2.2.2.1 u14.2.2.2.2.2.1 u14.2.2.2.2.2.2)) hP hD [0, 1, 2, 3, 5, 6] [4] rfl rfl (by decide) (by decide) hk1 hFc hP1 hD1
        have hP := hP.sub (ws' := (ceX1_readLine cyI cyB cyJ cyZ a0 a1 a2 a3 a4 a5 a6 g0_texts g5_size f6 g0_ways g0_wallCount u14.1 u14.2.1 u14.2.2.1 f4 u14.2.2.2.1 u14.2.2.2.2.1 u14.2.2.2.2.2.1 u14.2.2.2.2.2.2)) [1, 2, 3, 4, 0, 5, 6] rfl
        have hD := hD.sub (ws' := (ceX1_readLine cyI cyB cyJ cyZ a0 a1 a2 a3 a4 a5 a6 g0_texts g5_size f6 g0_ways g0_wallCount u14.1 u14.2.1 u14.2.2.1 f4 u14.2.2.2.1 u14.2.2.2.2.1 u14.2.2.2.2.2.1 u14.2.2.2.2.2.2)) [1, 2, 3, 4, 0, 5, 6] (by decide) rfl
        generalize H1 = H at hP hS ⊢
        rw [hQ]
        obtain ⟨hz, hw⟩ := hw
        exact W.zret (v := r15) (ty := .boolean) hx hb hr (zb_n hz) (fun t ht hW => ⟨⟨r15, (g0_ways, g0_wallCount, u14.1, u14.2.1, u14.2.2.1, f4, u14.2.2.2.1, u14.2.2.2.2.1, u14.2.2.2.2.2.1, u14.2.2.2.2.2.2), rfl, hw, by rw [ht]; exact hP, va_K.moved hW.alike hK, hD⟩, hS.F ht⟩) hS.2.2 dX1_readLine_103
      · have hw := hw.2 hc
        refine lv_iconst (v := 0) hx hb dX1_readLine_86 (by decide) ?_
        rw [hQ]
        exact W.zret (v := 0) (ty := .boolean) hx hb hr rfl (fun t ht hW => ⟨⟨0, (g0_ways, g0_wallCount, f1, f2, f3, f4, u8.1, u8.2.1, u8.2.2.1, u8.2.2.2), rfl, hw, by rw [ht]; exact hP, va_K.moved hW.alike hK, hD⟩, hS.F ht⟩) hS.2.2 dX1_readLine_87
set_option maxRecDepth 100000 in
set_option maxHeartbeats 4000000 in
theorem ctX1_readLine (l : Launch) (dC : Nat → ClassId) (dI : Nat → Nat → Nat) (cyI cyB cyJ cyZ : ClassId) (sz : Nat) (a0 a1 a2 a3 a4 a5 a6 : Nat) (g0_texts : Int32) (g5_size : Int32) (f6 : Nat → Int32) (g0_ways : Int32) (g0_wallCount : Int32) (f1 : Nat → Int32) (f2 : Nat → Int32) (f3 : Nat → Int32) (f4 : Nat → Int32) (g5_here : Int32) (g5_behind : Int32) (g5_digits : Int32) (g5_value : Int32) (post : Int32 → (Int32 × Int32 × (Nat → Int32) × (Nat → Int32) × (Nat → Int32) × (Nat → Int32) × Int32 × Int32 × Int32 × Int32) → Prop) (adS : Nat → Nat) (hw : wpX1_readLine post g5_size f6 g0_ways g0_wallCount f1 f2 f3 f4 g5_here g5_behind g5_digits g5_value ) : Met l yX1_readLine wsX1_readLine rmX1_readLine (va_Pc [.ref a0, .ref a5] (wPreX dC dI cyI cyB cyJ cyZ sz (ceX1_readLine cyI cyB cyJ cyZ a0 a1 a2 a3 a4 a5 a6 g0_texts g5_size f6 g0_ways g0_wallCount f1 f2 f3 f4 g5_here g5_behind g5_digits g5_value) (txA adS))) (va_Qi post (fun u : Int32 × Int32 × (Nat → Int32) × (Nat → Int32) × (Nat → Int32) × (Nat → Int32) × Int32 × Int32 × Int32 × Int32 => wAt dC dI cyI cyB cyJ cyZ (va_A (ceX1_readLine cyI cyB cyJ cyZ a0 a1 a2 a3 a4 a5 a6 g0_texts g5_size f6 g0_ways g0_wallCount f1 f2 f3 f4 g5_here g5_behind g5_digits g5_value) sz) (ceX1_readLine cyI cyB cyJ cyZ a0 a1 a2 a3 a4 a5 a6 g0_texts g5_size f6 u.1 u.2.1 u.2.2.1 u.2.2.2.1 u.2.2.2.2.1 u.2.2.2.2.2.1 u.2.2.2.2.2.2.1 u.2.2.2.2.2.2.2.1 u.2.2.2.2.2.2.2.2.1 u.2.2.2.2.2.2.2.2.2)) (va_A (ceX1_readLine cyI cyB cyJ cyZ a0 a1 a2 a3 a4 a5 a6 g0_texts g5_size f6 g0_ways g0_wallCount f1 f2 f3 f4 g5_here g5_behind g5_digits g5_value) sz)) 0 0 (va_A (ceX1_readLine cyI cyB cyJ cyZ a0 a1 a2 a3 a4 a5 a6 g0_texts g5_size f6 g0_ways g0_wallCount f1 f2 f3 f4 g5_here g5_behind g5_digits g5_value) sz) := by
  refine Met.ofW (cc := cX1_readLine) (maxL := 3) (ret := (some .boolean)) (by decide) rfl ?_
  intro p e s m args below meth c s₁ B hml hv
  obtain ⟨rfl, ⟨hsz, hP, hK, hD0, hN⟩, hXs⟩ := hv
  have hx := B.exec
  have hb := B.bytes
  have hr := B.returns
  have hts := atoms_spec (ws := wsX1_readLine) B.pre
  have hown : s.vm.findClass RX1 = some m.cls := findClass_of_methodNamed B.named
  have hlocks := B.notSynchronized
  subst hsz
  have hD := hD0.self (sz := s.heap.size)
  generalize hAe : va_A (ceX1_readLine cyI cyB cyJ cyZ a0 a1 a2 a3 a4 a5 a6 g0_texts g5_size f6 g0_ways g0_wallCount f1 f2 f3 f4 g5_here g5_behind g5_digits g5_value) s.heap.size = A at hD hXs ⊢
  have hA : ∀ q : Nat, s.heap.size ≤ q → A q := fun q h => by rw [← hAe]; exact Or.inr h
  have hS : va_S A s.heap s.heap [] := va_S.rf
  have C0 : cxM p s m meth c _ wsX1_readLine RX1 cX1_readLine 3 (some .boolean) := ⟨hx, hb, hr, hml, hown, hts, hlocks⟩
  have hl := lv_entry ([.ref a0, .ref a5]) (n := 3) (Nat.le_of_ble_eq_true rfl)
  rw [lg_entry_eq]
  generalize (lg_sl ([.ref a0, .ref a5]) ++ List.replicate (3 - (lg_sl ([.ref a0, .ref a5])).length) Slot.unset).toArray = ls at hl ⊢
  have hl : lv_has ls 3 [(0, .ref a0), (1, .ref a5)] := hl
  show W p l e rmX1_readLine s m _ below meth c _ _ _ _ _ _
  refine wq (fun Q hQ => ?_)
  refine lv_aload_n hx hb dX1_readLine_0 rfl (lv_at hl 1 rfl) ?_
  refine va_ldcS hx hb hown (hXs.2 0 _ rfl).1 dX1_readLine_1 ?_
  have hPc := hP.sub (ws' := (ceX8_isWord cyI cyB cyJ cyZ a5 a6 g5_size g5_digits g5_value g5_here g5_behind f6)) [5, 6] rfl
  have hDc := hD.sub (ws' := (ceX8_isWord cyI cyB cyJ cyZ a5 a6 g5_size g5_digits g5_value g5_here g5_behind f6)) [5, 6] (by decide) rfl
  have hFc := va_free (wc := (ceX8_isWord cyI cyB cyJ cyZ a5 a6 g5_size g5_digits g5_value g5_here g5_behind f6)) hD hS hA [5, 6] rfl
  refine va_calli (va_runV (As := [.ref (adS 0)]) (rest := []) ⟨hx, hb, hml, hown, hts⟩ (ctX8_isWord l dC dI cyI cyB cyJ cyZ _ a5 a6 g5_size g5_digits g5_value g5_here g5_behind f6 _ [119, 97, 121] (adS 0) hw) (cwV 1 hts gX1_readLine_X8_isWord rfl rfl rfl (by decide +kernel) ⟨Nat.le_of_ble_eq_true rfl, Nat.le_of_ble_eq_true rfl⟩) ⟨wPreX_blind (xOk_txS [119, 97, 121] (adS 0)), va_recv hK hPc (ci := 8) (q0 := 0) rfl rfl, fun U hU hW => wPreX_of (xOk_txS [119, 97, 121] (adS 0)) hPc hK hDc hN ⟨hXs.1, (hXs.2 0 _ rfl).2⟩ hS hFc hU hW⟩ rfl rfl hl.1 rfl (lv_room (Nat.le_of_ble_eq_true rfl)) dX1_readLine_3 ⟨(Nat.zero_le _), (Nat.zero_le _)⟩) hS (fun q _ h => hFc q h) hFc (fun r2 u1 t H1 locs ht hvm hw hB hz1 hk1 hS => ?_)
  obtain ⟨hP1, hK1, hD1⟩ := hB
  rw [ht] at hP1
  obtain ⟨hP, hD⟩ := va_join (wr := pickW (ceX1_readLine cyI cyB cyJ cyZ a0 a1 a2 a3 a4 a5 a6 g0_texts g5_size f6 g0_ways g0_wallCount f1 f2 f3 f4 g5_here g5_behind g5_digits g5_value) [0, 1, 2, 3, 4]) (w1 := (ceX8_isWord cyI cyB cyJ cyZ a5 a6 g5_size g5_digits g5_value g5_here g5_behind f6)) hP hD [5, 6] [0, 1, 2, 3, 4] rfl rfl (by decide) (by decide) hk1 hFc hP1 hD1
  have hP := hP.sub (ws' := (ceX1_readLine cyI cyB cyJ cyZ a0 a1 a2 a3 a4 a5 a6 g0_texts g5_size f6 g0_ways g0_wallCount f1 f2 f3 f4 g5_here g5_behind g5_digits g5_value)) [0, 1, 2, 3, 4, 5, 6] rfl
  have hD := hD.sub (ws' := (ceX1_readLine cyI cyB cyJ cyZ a0 a1 a2 a3 a4 a5 a6 g0_texts g5_size f6 g0_ways g0_wallCount f1 f2 f3 f4 g5_here g5_behind g5_digits g5_value)) [0, 1, 2, 3, 4, 5, 6] (by decide) rfl
  generalize H1 = H at hP hS ⊢
  refine lv_if_eq (tgt := 54) hx hb dX1_readLine_6 (by decide) (fun hc => ?_) (fun hc => ?_)
  · have hw := hw.1 hc
    exact bX1_readLine_54 C0 hK hN hA hXs hQ g0_ways g0_wallCount f1 f2 f3 f4 g5_here g5_behind g5_digits g5_value hw _ _ hP hD hS ls (lv_sub hl [0, 1] rfl)
  · have hw := hw.2 hc
    refine lv_aload_n hx hb dX1_readLine_9 rfl (lv_at hl 0 rfl) ?_
    refine va_get (D := (dC, dI)) (ci := 1) (v := .int g0_ways) (C := RX1) (T := TX1) (N := 7) hx hb hts inX1_readLine_X1 hown hK hP 0 rfl rfl 4 (by decide) (hts (.fieldLink RX1 24 "LeadPark$Ground" "ways" "I") (List.mem_of_getElem? (i := 1) rfl)) (fun _ h9 => h9) rfl dX1_readLine_10 ?_
    refine lv_bipush (v := 12) hx hb dX1_readLine_13 (by decide) ?_
    refine lv_icmp_ge (tgt := 54) hx hb dX1_readLine_15 (by decide) (fun hc => ?_) (fun hc => ?_)
    · have hw := hw.1 hc
      exact bX1_readLine_54 C0 hK hN hA hXs hQ g0_ways g0_wallCount f1 f2 f3 f4 g5_here g5_behind g5_digits g5_value hw _ _ hP hD hS ls (lv_sub hl [0, 1] rfl)
    · have hw := hw.2 hc
      refine lv_aload_n hx hb dX1_readLine_18 rfl (lv_at hl 1 rfl) ?_
      have hPc := hP.sub (ws' := (ceX8_toNext cyI cyB cyJ cyZ a5 a6 g5_size f6 g5_here g5_behind g5_digits g5_value)) [5, 6] rfl
      have hDc := hD.sub (ws' := (ceX8_toNext cyI cyB cyJ cyZ a5 a6 g5_size f6 g5_here g5_behind g5_digits g5_value)) [5, 6] (by decide) rfl
      have hFc := va_free (wc := (ceX8_toNext cyI cyB cyJ cyZ a5 a6 g5_size f6 g5_here g5_behind g5_digits g5_value)) hD hS hA [5, 6] rfl
      refine va_callv (va_runV (As := []) (rest := []) ⟨hx, hb, hml, hown, hts⟩ (ctX8_toNext l dC dI cyI cyB cyJ cyZ _ a5 a6 g5_size f6 g5_here g5_behind g5_digits g5_value _ hw) (cwV 0 hts gX1_readLine_X8_toNext rfl rfl rfl (by decide +kernel) ⟨Nat.le_of_ble_eq_true rfl, Nat.le_of_ble_eq_true rfl⟩) ⟨wPre_blind, va_recv hK hPc (ci := 8) (q0 := 0) rfl rfl, fun U hU hW => wPre_of hPc hK hDc hN hU hW⟩ rfl rfl hl.1 rfl (lv_room (Nat.le_of_ble_eq_true rfl)) dX1_readLine_19 ⟨(Nat.zero_le _), (Nat.zero_le _)⟩) hS (fun q _ h => hFc q h) hFc (fun u3 t H1 locs ht hvm hw hB hz1 hk1 hS => ?_)
      obtain ⟨hP1, hK1, hD1⟩ := hB
      rw [ht] at hP1
      obtain ⟨hP, hD⟩ := va_join (wr := pickW (ceX1_readLine cyI cyB cyJ cyZ a0 a1 a2 a3 a4 a5 a6 g0_texts g5_size f6 g0_ways g0_wallCount f1 f2 f3 f4 g5_here g5_behind g5_digits g5_value) [0, 1, 2, 3, 4]) (w1 := (ceX8_toNext cyI cyB cyJ cyZ a5 a6 g5_size f6 u3.1 u3.2.1 u3.2.2.1 u3.2.2.2)) hP hD [5, 6] [0, 1, 2, 3, 4] rfl rfl (by decide) (by decide) hk1 hFc hP1 hD1
      have hP := hP.sub (ws' := (ceX1_readLine cyI cyB cyJ cyZ a0 a1 a2 a3 a4 a5 a6 g0_texts g5_size f6 g0_ways g0_wallCount f1 f2 f3 f4 u3.1 u3.2.1 u3.2.2.1 u3.2.2.2)) [0, 1, 2, 3, 4, 5, 6] rfl
      have hD := hD.sub (ws' := (ceX1_readLine cyI cyB cyJ cyZ a0 a1 a2 a3 a4 a5 a6 g0_texts g5_size f6 g0_ways g0_wallCount f1 f2 f3 f4 u3.1 u3.2.1 u3.2.2.1 u3.2.2.2)) [0, 1, 2, 3, 4, 5, 6] (by decide) rfl
      generalize H1 = H at hP hS ⊢
      refine lv_aload_n hx hb dX1_readLine_22 rfl (lv_at hl 0 rfl) ?_
      refine va_get (D := (dC, dI)) (ci := 1) (v := .ref a1) (C := RX1) (T := TX1) (N := 7) hx hb hts inX1_readLine_X1 hown hK hP 0 rfl rfl 2 (by decide) (hts (.fieldLink RX1 18 "LeadPark$Ground" "counts" "[I") (List.mem_of_getElem? (i := 2) rfl)) (fun _ h9 => h9) rfl dX1_readLine_23 ?_
      refine lv_aload_n hx hb dX1_readLine_26 rfl (lv_at hl 0 rfl) ?_
      refine va_get (D := (dC, dI)) (ci := 1) (v := .int g0_ways) (C := RX1) (T := TX1) (N := 7) hx hb hts inX1_readLine_X1 hown hK hP 0 rfl rfl 4 (by decide) (hts (.fieldLink RX1 24 "LeadPark$Ground" "ways" "I") (List.mem_of_getElem? (i := 1) rfl)) (fun _ h9 => h9) rfl dX1_readLine_27 ?_
      refine lv_iconst (v := 0) hx hb dX1_readLine_30 (by decide) ?_
      obtain ⟨hi, hw⟩ := hw
      refine va_iast hx hb hK hP hD hS 1 0 rfl rfl hi dX1_readLine_31 (fun H locs hP hD hS => ?_)
      have hP : va_P (dC, dI) vwCl (ceX1_readLine cyI cyB cyJ cyZ a0 a1 a2 a3 a4 a5 a6 g0_texts g5_size f6 g0_ways g0_wallCount (upd f1 g0_ways.toNatClampNeg 0) f2 f3 f4 u3.1 u3.2.1 u3.2.2.1 u3.2.2.2) H := hP
      have hD : va_D A (ceX1_readLine cyI cyB cyJ cyZ a0 a1 a2 a3 a4 a5 a6 g0_texts g5_size f6 g0_ways g0_wallCount (upd f1 g0_ways.toNatClampNeg 0) f2 f3 f4 u3.1 u3.2.1 u3.2.2.1 u3.2.2.2) := hD
      refine lv_aload_n hx hb dX1_readLine_32 rfl (lv_at hl 0 rfl) ?_
      refine lv_dup hx hb dX1_readLine_33 rfl ?_
      refine va_get (D := (dC, dI)) (ci := 1) (v := .int g0_ways) (C := RX1) (T := TX1) (N := 7) hx hb hts inX1_readLine_X1 hown hK hP 0 rfl rfl 4 (by decide) (hts (.fieldLink RX1 24 "LeadPark$Ground" "ways" "I") (List.mem_of_getElem? (i := 1) rfl)) (fun _ h9 => h9) rfl dX1_readLine_34 ?_
      refine lv_iconst (v := 1) hx hb dX1_readLine_37 (by decide) ?_
      refine lv_iadd hx hb dX1_readLine_38 ?_
      refine lv_topi (fun v4 ev4 => ?_)
      have hw := hw v4 ev4
      refine va_put (D := (dC, dI)) (ci := 1) (v := .int v4) (ty := .int) (C := RX1) (T := TX1) (N := 7) hx hb hts inX1_readLine_X1 tyX1 tyX1_ok nmX1 hown hK hP hD hS 0 rfl rfl 4 (by decide) (hts (.fieldLink RX1 24 "LeadPark$Ground" "ways" "I") (List.mem_of_getElem? (i := 1) rfl)) (fun _ h9 => h9) rfl (by decide +kernel) rfl rfl (Nat.le_of_ble_eq_true rfl) dX1_readLine_39 (fun H locs hP hD hS => ?_)
      have hP : va_P (dC, dI) vwCl (ceX1_readLine cyI cyB cyJ cyZ a0 a1 a2 a3 a4 a5 a6 g0_texts g5_size f6 v4 g0_wallCount (upd f1 g0_ways.toNatClampNeg 0) f2 f3 f4 u3.1 u3.2.1 u3.2.2.1 u3.2.2.2) H := hP
      have hD : va_D A (ceX1_readLine cyI cyB cyJ cyZ a0 a1 a2 a3 a4 a5 a6 g0_texts g5_size f6 v4 g0_wallCount (upd f1 g0_ways.toNatClampNeg 0) f2 f3 f4 u3.1 u3.2.1 u3.2.2.1 u3.2.2.2) := hD
      refine lv_aload_n hx hb dX1_readLine_42 rfl (lv_at hl 0 rfl) ?_
      refine lv_aload_n hx hb dX1_readLine_43 rfl (lv_at hl 1 rfl) ?_
      refine lv_aload_n hx hb dX1_readLine_44 rfl (lv_at hl 0 rfl) ?_
      refine va_get (D := (dC, dI)) (ci := 1) (v := .int v4) (C := RX1) (T := TX1) (N := 7) hx hb hts inX1_readLine_X1 hown hK hP 0 rfl rfl 4 (by decide) (hts (.fieldLink RX1 24 "LeadPark$Ground" "ways" "I") (List.mem_of_getElem? (i := 1) rfl)) (fun _ h9 => h9) rfl dX1_readLine_45 ?_
      refine lv_iconst (v := 1) hx hb dX1_readLine_48 (by decide) ?_
      refine lv_isub hx hb dX1_readLine_49 ?_
      have hPc := hP.sub (ws' := (ceX1_readCorners cyI cyB cyJ cyZ a0 a1 a2 a3 a5 a6 a4 v4 g0_wallCount g0_texts g5_size f6 (upd f1 g0_ways.toNatClampNeg 0) f2 f3 u3.1 u3.2.1 u3.2.2.1 u3.2.2.2)) [0, 1, 2, 3, 5, 6] rfl
      have hDc := hD.sub (ws' := (ceX1_readCorners cyI cyB cyJ cyZ a0 a1 a2 a3 a5 a6 a4 v4 g0_wallCount g0_texts g5_size f6 (upd f1 g0_ways.toNatClampNeg 0) f2 f3 u3.1 u3.2.1 u3.2.2.1 u3.2.2.2)) [0, 1, 2, 3, 5, 6] (by decide) rfl
      have hFc := va_free (wc := (ceX1_readCorners cyI cyB cyJ cyZ a0 a1 a2 a3 a5 a6 a4 v4 g0_wallCount g0_texts g5_size f6 (upd f1 g0_ways.toNatClampNeg 0) f2 f3 u3.1 u3.2.1 u3.2.2.1 u3.2.2.2)) hD hS hA [0, 1, 2, 3, 5, 6] rfl
      refine va_calli (va_runV (As := [.ref a5, .int (v4 - 1)]) (rest := []) ⟨hx, hb, hml, hown, hts⟩ (ctX1_readCorners l dC dI cyI cyB cyJ cyZ _ a0 a1 a2 a3 a5 a6 a4 v4 g0_wallCount g0_texts g5_size f6 (upd f1 g0_ways.toNatClampNeg 0) f2 f3 u3.1 u3.2.1 u3.2.2.1 u3.2.2.2 (v4 - 1) _ hw) (cwV 2 hts gX1_readLine_X1_readCorners rfl rfl rfl (by decide +kernel) ⟨Nat.le_of_ble_eq_true rfl, Nat.le_of_ble_eq_true rfl⟩) ⟨wPre_blind, va_recv hK hPc (ci := 1) (q0 := 0) rfl rfl, fun U hU hW => wPre_of hPc hK hDc hN hU hW⟩ rfl rfl hl.1 rfl (lv_room (Nat.le_of_ble_eq_true rfl)) dX1_readLine_50 ⟨(Nat.zero_le _), (Nat.zero_le _)⟩) hS (fun q _ h => hFc q h) hFc (fun r6 u5 t H1 locs ht hvm hw hB hz1 hk1 hS => ?_)
      obtain ⟨hP1, hK1, hD1⟩ := hB
      rw [ht] at hP1
      obtain ⟨hP, hD⟩ := va_join (wr := pickW (ceX1_readLine cyI cyB cyJ cyZ a0 a1 a2 a3 a4 a5 a6 g0_texts g5_size f6 v4 g0_wallCount (upd f1 g0_ways.toNatClampNeg 0) f2 f3 f4 u3.1 u3.2.1 u3.2.2.1 u3.2.2.2) [4]) (w1 := (ceX1_readCorners cyI cyB cyJ cyZ a0 a1 a2 a3 a5 a6 a4 v4 g0_wallCount g0_texts g5_size f6 u5.1 u5.2.1 u5.2.2.1 u5.2.2.2.1 u5.2.2.2.2.1 u5.2.2.2.2.2.1 u5.2.2.2.2.2.2)) hP hD [0, 1, 2, 3, 5, 6] [4] rfl rfl (by decide) (by decide) hk1 hFc hP1 hD1
      have hP := hP.sub (ws' := (ceX1_readLine cyI cyB cyJ cyZ a0 a1 a2 a3 a4 a5 a6 g0_texts g5_size f6 v4 g0_wallCount u5.1 u5.2.1 u5.2.2.1 f4 u5.2.2.2.1 u5.2.2.2.2.1 u5.2.2.2.2.2.1 u5.2.2.2.2.2.2)) [1, 2, 3, 4, 0, 5, 6] rfl
      have hD := hD.sub (ws' := (ceX1_readLine cyI cyB cyJ cyZ a0 a1 a2 a3 a4 a5 a6 g0_texts g5_size f6 v4 g0_wallCount u5.1 u5.2.1 u5.2.2.1 f4 u5.2.2.2.1 u5.2.2.2.2.1 u5.2.2.2.2.2.1 u5.2.2.2.2.2.2)) [1, 2, 3, 4, 0, 5, 6] (by decide) rfl
      generalize H1 = H at hP hS ⊢
      rw [hQ]
      obtain ⟨hz, hw⟩ := hw
      exact W.zret (v := r6) (ty := .boolean) hx hb hr (zb_n hz) (fun t ht hW => ⟨⟨r6, (v4, g0_wallCount, u5.1, u5.2.1, u5.2.2.1, f4, u5.2.2.2.1, u5.2.2.2.2.1, u5.2.2.2.2.2.1, u5.2.2.2.2.2.2), rfl, hw, by rw [ht]; exact hP, va_K.moved hW.alike hK, hD⟩, hS.F ht⟩) hS.2.2 dX1_readLine_53
/-! LeadPark$Ground.readText (LLeadPark$Tape;)Z -/
abbrev ceX1_readText (cyI cyB cyJ cyZ : ClassId) (a0 a1 a2 a3 a4 a5 a6 : Nat) (g0_texts : Int32) (g5_size : Int32) (f6 : Nat → Int32) (g0_ways : Int32) (g0_wallCount : Int32) (f1 : Nat → Int32) (f2 : Nat → Int32) (f3 : Nat → Int32) (f4 : Nat → Int32) (g5_here : Int32) (g5_behind : Int32) (g5_digits : Int32) (g5_value : Int32) : va_W := [(a0, .inr (1, [.ref a2, .ref a3, .ref a1, .ref a4, .int g0_ways, .int g0_wallCount, .int g0_texts])), (a1, .inl (cyI, 12, .inl f1)), (a2, .inl (cyI, 360, .inl f2)), (a3, .inl (cyI, 360, .inl f3)), (a4, .inl (cyI, 32, .inl f4)), (a5, .inr (8, [.ref a6, .int g5_size, .int g5_here, .int g5_behind, .int g5_digits, .int g5_value])), (a6, .inl (cyB, 400, .inl f6))]

abbrev rmX1_readText : Room := { frames := 6, cells := 0, slots := 0, locals := 129 }
set_option maxRecDepth 100000 in
set_option maxHeartbeats 4000000 in
theorem bX1_readText_15 {p : Program} {l : Launch} {e : Env} {s : State} {m : MethodId} {args : Array Value} {below : List Frame} {meth : Method} {c : Code} {dC : Nat → ClassId} {dI : Nat → Nat → Nat} {cyI cyB cyJ cyZ : ClassId} {A : Nat → Prop} {a0 a1 a2 a3 a4 a5 a6 : Nat} {g0_texts : Int32} {adS : Nat → Nat} (C0 : cxM p s m meth c args wsX1_readText RX1 cX1_readText 3 (some .boolean)) (hK : va_K (dC, dI) vwCl (tyA cyI cyB cyJ cyZ) s) (hN : nwA s) (hA : ∀ q : Nat, s.heap.size ≤ q → A q) (hXs : (txA adS) A s s.heap) {post : Int32 → (Int32 × Int32 × (Nat → Int32) × (Nat → Int32) × (Nat → Int32) × (Nat → Int32) × Int32 × Int32 × Int32 × Int32) → Prop} {g5_size : Int32} {f6 : Nat → Int32} {Q : State → Prop} (hQ : Q = MQ below (va_Qi post (fun u : Int32 × Int32 × (Nat → Int32) × (Nat → Int32) × (Nat → Int32) × (Nat → Int32) × Int32 × Int32 × Int32 × Int32 => wAt dC dI cyI cyB cyJ cyZ A (ceX1_readText cyI cyB cyJ cyZ a0 a1 a2 a3 a4 a5 a6 g0_texts g5_size f6 u.1 u.2.1 u.2.2.1 u.2.2.2.1 u.2.2.2.2.1 u.2.2.2.2.2.1 u.2.2.2.2.2.2.1 u.2.2.2.2.2.2.2.1 u.2.2.2.2.2.2.2.2.1 u.2.2.2.2.2.2.2.2.2)) A) args s 0 0 A) : ∀ (n : Nat) (g0_ways : Int32) (g0_wallCount : Int32) (f1 : Nat → Int32) (f2 : Nat → Int32) (f3 : Nat → Int32) (f4 : Nat → Int32) (g5_here : Int32) (g5_behind : Int32) (g5_digits : Int32) (g5_value : Int32) (x2 : Int32), wpX1_readText_15 post g5_size f6 n g0_ways g0_wallCount f1 f2 f3 f4 g5_here g5_behind g5_digits g5_value x2 → AtW p l e rmX1_readText s m args below meth c dC dI A Q 3 0 0 (ceX1_readText cyI cyB cyJ cyZ a0 a1 a2 a3 a4 a5 a6 g0_texts g5_size f6 g0_ways g0_wallCount f1 f2 f3 f4 g5_here g5_behind g5_digits g5_value) [(0, .ref a0), (1, .ref a5), (2, .int x2)] 15 [] := by
  intro n
  induction n with
  | zero => intro g0_ways g0_wallCount f1 f2 f3 f4 g5_here g5_behind g5_digits g5_value x2 hw; exact False.elim hw
  | succ n ih =>
    intro g0_ways g0_wallCount f1 f2 f3 f4 g5_here g5_behind g5_digits g5_value x2 hw H locs hP hD hS ls hl
    have C1 := C0
    obtain ⟨hx, hb, hr, hml, hown, hts, hlocks⟩ := C1
    refine lv_iload_n hx hb dX1_readText_15 rfl (lv_at hl 2 rfl) ?_
    refine lv_bipush (v := 14) hx hb dX1_readText_16 (by decide) ?_
    refine lv_icmp_ge (tgt := 61) hx hb dX1_readText_18 (by decide) (fun hc => ?_) (fun hc => ?_)
    · have hw := hw.1 hc
      refine lv_iconst (v := 0) hx hb dX1_readText_61 (by decide) ?_
      rw [hQ]
      exact W.zret (v := 0) (ty := .boolean) hx hb hr rfl (fun t ht hW => ⟨⟨0, (g0_ways, g0_wallCount, f1, f2, f3, f4, g5_here, g5_behind, g5_digits, g5_value), rfl, hw, by rw [ht]; exact hP, va_K.moved hW.alike hK, hD⟩, hS.F ht⟩) hS.2.2 dX1_readText_62
    · have hw := hw.2 hc
      refine lv_aload_n hx hb dX1_readText_21 rfl (lv_at hl 0 rfl) ?_
      refine lv_aload_n hx hb dX1_readText_22 rfl (lv_at hl 1 rfl) ?_
      have hPc := hP.sub (ws' := (ceX1_readLine cyI cyB cyJ cyZ a0 a1 a2 a3 a4 a5 a6 g0_texts g5_size f6 g0_ways g0_wallCount f1 f2 f3 f4 g5_here g5_behind g5_digits g5_value)) [0, 1, 2, 3, 4, 5, 6] rfl
      have hDc := hD.sub (ws' := (ceX1_readLine cyI cyB cyJ cyZ a0 a1 a2 a3 a4 a5 a6 g0_texts g5_size f6 g0_ways g0_wallCount f1 f2 f3 f4 g5_here g5_behind g5_digits g5_value)) [0, 1, 2, 3, 4, 5, 6] (by decide) rfl
      have hFc := va_free (wc := (ceX1_readLine cyI cyB cyJ cyZ a0 a1 a2 a3 a4 a5 a6 g0_texts g5_size f6 g0_ways g0_wallCount f1 f2 f3 f4 g5_here g5_behind g5_digits g5_value)) hD hS hA [0, 1, 2, 3, 4, 5, 6] rfl
      refine va_calli (va_runV (As := [.ref a5]) (rest := []) ⟨hx, hb, hml, hown, hts⟩ (ctX1_readLine l dC dI cyI cyB cyJ cyZ _ a0 a1 a2 a3 a4 a5 a6 g0_texts g5_size f6 g0_ways g0_wallCount f1 f2 f3 f4 g5_here g5_behind g5_digits g5_value _ adS hw) (cwV 1 hts gX1_readText_X1_readLine rfl rfl rfl (by decide +kernel) ⟨Nat.le_of_ble_eq_true rfl, Nat.le_of_ble_eq_true rfl⟩) ⟨wPreX_blind (xOk_txA adS), va_recv hK hPc (ci := 1) (q0 := 0) rfl rfl, fun U hU hW => wPreX_of (xOk_txA adS) hPc hK hDc hN hXs hS hFc hU hW⟩ rfl rfl hl.1 rfl (lv_room (Nat.le_of_ble_eq_true rfl)) dX1_readText_23 ⟨(Nat.zero_le _), (Nat.zero_le _)⟩) hS (fun q _ h => hFc q h) hFc (fun r2 u1 t H1 locs ht hvm hw hB hz1 hk1 hS => ?_)
      obtain ⟨hP1, hK1, hD1⟩ := hB
      rw [ht] at hP1
      obtain ⟨hP, hD⟩ := va_join (wr := pickW (ceX1_readText cyI cyB cyJ cyZ a0 a1 a2 a3 a4 a5 a6 g0_texts g5_size f6 g0_ways g0_wallCount f1 f2 f3 f4 g5_here g5_behind g5_digits g5_value) []) (w1 := (ceX1_readLine cyI cyB cyJ cyZ a0 a1 a2 a3 a4 a5 a6 g0_texts g5_size f6 u1.1 u1.2.1 u1.2.2.1 u1.2.2.2.1 u1.2.2.2.2.1 u1.2.2.2.2.2.1 u1.2.2.2.2.2.2.1 u1.2.2.2.2.2.2.2.1 u1.2.2.2.2.2.2.2.2.1 u1.2.2.2.2.2.2.2.2.2)) hP hD [0, 1, 2, 3, 4, 5, 6] [] rfl rfl (by decide) (by decide) hk1 hFc hP1 hD1
      have hP := hP.sub (ws' := (ceX1_readText cyI cyB cyJ cyZ a0 a1 a2 a3 a4 a5 a6 g0_texts g5_size f6 u1.1 u1.2.1 u1.2.2.1 u1.2.2.2.1 u1.2.2.2.2.1 u1.2.2.2.2.2.1 u1.2.2.2.2.2.2.1 u1.2.2.2.2.2.2.2.1 u1.2.2.2.2.2.2.2.2.1 u1.2.2.2.2.2.2.2.2.2)) [0, 1, 2, 3, 4, 5, 6] rfl
      have hD := hD.sub (ws' := (ceX1_readText cyI cyB cyJ cyZ a0 a1 a2 a3 a4 a5 a6 g0_texts g5_size f6 u1.1 u1.2.1 u1.2.2.1 u1.2.2.2.1 u1.2.2.2.2.1 u1.2.2.2.2.2.1 u1.2.2.2.2.2.2.1 u1.2.2.2.2.2.2.2.1 u1.2.2.2.2.2.2.2.2.1 u1.2.2.2.2.2.2.2.2.2)) [0, 1, 2, 3, 4, 5, 6] (by decide) rfl
      generalize H1 = H at hP hS ⊢
      refine lv_if_ne (tgt := 31) hx hb dX1_readText_26 (by decide) (fun hc => ?_) (fun hc => ?_)
      · have hw := hw.1 hc
        refine lv_aload_n hx hb dX1_readText_31 rfl (lv_at hl 1 rfl) ?_
        have hPc := hP.sub (ws' := (ceX8_isOver cyI cyB cyJ cyZ a5 a6 u1.2.2.2.2.2.2.2.1 u1.2.2.2.2.2.2.2.2.1 u1.2.2.2.2.2.2.2.2.2 g5_size u1.2.2.2.2.2.2.1)) [5] rfl
        have hDc := hD.sub (ws' := (ceX8_isOver cyI cyB cyJ cyZ a5 a6 u1.2.2.2.2.2.2.2.1 u1.2.2.2.2.2.2.2.2.1 u1.2.2.2.2.2.2.2.2.2 g5_size u1.2.2.2.2.2.2.1)) [5] (by decide) rfl
        have hFc := va_free (wc := (ceX8_isOver cyI cyB cyJ cyZ a5 a6 u1.2.2.2.2.2.2.2.1 u1.2.2.2.2.2.2.2.2.1 u1.2.2.2.2.2.2.2.2.2 g5_size u1.2.2.2.2.2.2.1)) hD hS hA [5] rfl
        refine va_calli (va_runV (As := []) (rest := []) ⟨hx, hb, hml, hown, hts⟩ (ctX8_isOver l dC dI cyI cyB cyJ cyZ _ a5 a6 u1.2.2.2.2.2.2.2.1 u1.2.2.2.2.2.2.2.2.1 u1.2.2.2.2.2.2.2.2.2 g5_size u1.2.2.2.2.2.2.1 _ hw) (cwV 0 hts gX1_readText_X8_isOver rfl rfl rfl (by decide +kernel) ⟨Nat.le_of_ble_eq_true rfl, Nat.le_of_ble_eq_true rfl⟩) ⟨wPre_blind, va_recv hK hPc (ci := 8) (q0 := 0) rfl rfl, fun U hU hW => wPre_of hPc hK hDc hN hU hW⟩ rfl rfl hl.1 rfl (lv_room (Nat.le_of_ble_eq_true rfl)) dX1_readText_32 ⟨(Nat.zero_le _), (Nat.zero_le _)⟩) hS (fun q _ h => hFc q h) hFc (fun r4 u3 t H1 locs ht hvm hw hB hz1 hk1 hS => ?_)
        obtain ⟨hP1, hK1, hD1⟩ := hB
        rw [ht] at hP1
        obtain ⟨hP, hD⟩ := va_join (wr := pickW (ceX1_readText cyI cyB cyJ cyZ a0 a1 a2 a3 a4 a5 a6 g0_texts g5_size f6 u1.1 u1.2.1 u1.2.2.1 u1.2.2.2.1 u1.2.2.2.2.1 u1.2.2.2.2.2.1 u1.2.2.2.2.2.2.1 u1.2.2.2.2.2.2.2.1 u1.2.2.2.2.2.2.2.2.1 u1.2.2.2.2.2.2.2.2.2) [0, 1, 2, 3, 4, 6]) (w1 := (ceX8_isOver cyI cyB cyJ cyZ a5 a6 u1.2.2.2.2.2.2.2.1 u1.2.2.2.2.2.2.2.2.1 u1.2.2.2.2.2.2.2.2.2 g5_size u1.2.2.2.2.2.2.1)) hP hD [5] [0, 1, 2, 3, 4, 6] rfl rfl (by decide) (by decide) hk1 hFc hP1 hD1
        have hP := hP.sub (ws' := (ceX1_readText cyI cyB cyJ cyZ a0 a1 a2 a3 a4 a5 a6 g0_texts g5_size f6 u1.1 u1.2.1 u1.2.2.1 u1.2.2.2.1 u1.2.2.2.2.1 u1.2.2.2.2.2.1 u1.2.2.2.2.2.2.1 u1.2.2.2.2.2.2.2.1 u1.2.2.2.2.2.2.2.2.1 u1.2.2.2.2.2.2.2.2.2)) [0, 1, 2, 3, 4, 6, 5] rfl
        have hD := hD.sub (ws' := (ceX1_readText cyI cyB cyJ cyZ a0 a1 a2 a3 a4 a5 a6 g0_texts g5_size f6 u1.1 u1.2.1 u1.2.2.1 u1.2.2.2.1 u1.2.2.2.2.1 u1.2.2.2.2.2.1 u1.2.2.2.2.2.2.1 u1.2.2.2.2.2.2.2.1 u1.2.2.2.2.2.2.2.2.1 u1.2.2.2.2.2.2.2.2.2)) [0, 1, 2, 3, 4, 6, 5] (by decide) rfl
        generalize H1 = H at hP hS ⊢
        refine lv_if_eq (tgt := 40) hx hb dX1_readText_35 (by decide) (fun hc => ?_) (fun hc => ?_)
        · have hw := hw.1 hc
          refine lv_aload_n hx hb dX1_readText_40 rfl (lv_at hl 1 rfl) ?_
          refine lv_bipush (v := 59) hx hb dX1_readText_41 (by decide) ?_
          have hPc := hP.sub (ws' := (ceX8_isSign cyI cyB cyJ cyZ a5 a6 u1.2.2.2.2.2.2.2.1 u1.2.2.2.2.2.2.2.2.1 u1.2.2.2.2.2.2.2.2.2 g5_size u1.2.2.2.2.2.2.1 f6)) [5, 6] rfl
          have hDc := hD.sub (ws' := (ceX8_isSign cyI cyB cyJ cyZ a5 a6 u1.2.2.2.2.2.2.2.1 u1.2.2.2.2.2.2.2.2.1 u1.2.2.2.2.2.2.2.2.2 g5_size u1.2.2.2.2.2.2.1 f6)) [5, 6] (by decide) rfl
          have hFc := va_free (wc := (ceX8_isSign cyI cyB cyJ cyZ a5 a6 u1.2.2.2.2.2.2.2.1 u1.2.2.2.2.2.2.2.2.1 u1.2.2.2.2.2.2.2.2.2 g5_size u1.2.2.2.2.2.2.1 f6)) hD hS hA [5, 6] rfl
          refine va_calli (va_runV (As := [.int 59]) (rest := []) ⟨hx, hb, hml, hown, hts⟩ (ctX8_isSign l dC dI cyI cyB cyJ cyZ _ a5 a6 u1.2.2.2.2.2.2.2.1 u1.2.2.2.2.2.2.2.2.1 u1.2.2.2.2.2.2.2.2.2 g5_size u1.2.2.2.2.2.2.1 f6 59 _ hw) (cwV 1 hts gX1_readText_X8_isSign rfl rfl rfl (by decide +kernel) ⟨Nat.le_of_ble_eq_true rfl, Nat.le_of_ble_eq_true rfl⟩) ⟨wPre_blind, va_recv hK hPc (ci := 8) (q0 := 0) rfl rfl, fun U hU hW => wPre_of hPc hK hDc hN hU hW⟩ rfl rfl hl.1 rfl (lv_room (Nat.le_of_ble_eq_true rfl)) dX1_readText_43 ⟨(Nat.zero_le _), (Nat.zero_le _)⟩) hS (fun q _ h => hFc q h) hFc (fun r6 u5 t H1 locs ht hvm hw hB hz1 hk1 hS => ?_)
          obtain ⟨hP1, hK1, hD1⟩ := hB
          rw [ht] at hP1
          obtain ⟨hP, hD⟩ := va_join (wr := pickW (ceX1_readText cyI cyB cyJ cyZ a0 a1 a2 a3 a4 a5 a6 g0_texts g5_size f6 u1.1 u1.2.1 u1.2.2.1 u1.2.2.2.1 u1.2.2.2.2.1 u1.2.2.2.2.2.1 u1.2.2.2.2.2.2.1 u1.2.2.2.2.2.2.2.1 u1.2.2.2.2.2.2.2.2.1 u1.2.2.2.2.2.2.2.2.2) [0, 1, 2, 3, 4]) (w1 := (ceX8_isSign cyI cyB cyJ cyZ a5 a6 u1.2.2.2.2.2.2.2.1 u1.2.2.2.2.2.2.2.2.1 u1.2.2.2.2.2.2.2.2.2 g5_size u1.2.2.2.2.2.2.1 f6)) hP hD [5, 6] [0, 1, 2, 3, 4] rfl rfl (by decide) (by decide) hk1 hFc hP1 hD1
          have hP := hP.sub (ws' := (ceX1_readText cyI cyB cyJ cyZ a0 a1 a2 a3 a4 a5 a6 g0_texts g5_size f6 u1.1 u1.2.1 u1.2.2.1 u1.2.2.2.1 u1.2.2.2.2.1 u1.2.2.2.2.2.1 u1.2.2.2.2.2.2.1 u1.2.2.2.2.2.2.2.1 u1.2.2.2.2.2.2.2.2.1 u1.2.2.2.2.2.2.2.2.2)) [0, 1, 2, 3, 4, 5, 6] rfl
          have hD := hD.sub (ws' := (ceX1_readText cyI cyB cyJ cyZ a0 a1 a2 a3 a4 a5 a6 g0_texts g5_size f6 u1.1 u1.2.1 u1.2.2.1 u1.2.2.2.1 u1.2.2.2.2.1 u1.2.2.2.2.2.1 u1.2.2.2.2.2.2.1 u1.2.2.2.2.2.2.2.1 u1.2.2.2.2.2.2.2.2.1 u1.2.2.2.2.2.2.2.2.2)) [0, 1, 2, 3, 4, 5, 6] (by decide) rfl
          generalize H1 = H at hP hS ⊢
          refine lv_if_ne (tgt := 51) hx hb dX1_readText_46 (by decide) (fun hc => ?_) (fun hc => ?_)
          · have hw := hw.1 hc
            refine lv_aload_n hx hb dX1_readText_51 rfl (lv_at hl 1 rfl) ?_
            have hPc := hP.sub (ws' := (ceX8_toNext cyI cyB cyJ cyZ a5 a6 g5_size f6 u1.2.2.2.2.2.2.1 u1.2.2.2.2.2.2.2.1 u1.2.2.2.2.2.2.2.2.1 u1.2.2.2.2.2.2.2.2.2)) [5, 6] rfl
            have hDc := hD.sub (ws' := (ceX8_toNext cyI cyB cyJ cyZ a5 a6 g5_size f6 u1.2.2.2.2.2.2.1 u1.2.2.2.2.2.2.2.1 u1.2.2.2.2.2.2.2.2.1 u1.2.2.2.2.2.2.2.2.2)) [5, 6] (by decide) rfl
            have hFc := va_free (wc := (ceX8_toNext cyI cyB cyJ cyZ a5 a6 g5_size f6 u1.2.2.2.2.2.2.1 u1.2.2.2.2.2.2.2.1 u1.2.2.2.2.2.2.2.2.1 u1.2.2.2.2.2.2.2.2.2)) hD hS hA [5, 6] rfl
            refine va_callv (va_runV (As := []) (rest := []) ⟨hx, hb, hml, hown, hts⟩ (ctX8_toNext l dC dI cyI cyB cyJ cyZ _ a5 a6 g5_size f6 u1.2.2.2.2.2.2.1 u1.2.2.2.2.2.2.2.1 u1.2.2.2.2.2.2.2.2.1 u1.2.2.2.2.2.2.2.2.2 _ hw) (cwV 0 hts gX1_readText_X8_toNext rfl rfl rfl (by decide +kernel) ⟨Nat.le_of_ble_eq_true rfl, Nat.le_of_ble_eq_true rfl⟩) ⟨wPre_blind, va_recv hK hPc (ci := 8) (q0 := 0) rfl rfl, fun U hU hW => wPre_of hPc hK hDc hN hU hW⟩ rfl rfl hl.1 rfl (lv_room (Nat.le_of_ble_eq_true rfl)) dX1_readText_52 ⟨(Nat.zero_le _), (Nat.zero_le _)⟩) hS (fun q _ h => hFc q h) hFc (fun u7 t H1 locs ht hvm hw hB hz1 hk1 hS => ?_)
            obtain ⟨hP1, hK1, hD1⟩ := hB
            rw [ht] at hP1
            obtain ⟨hP, hD⟩ := va_join (wr := pickW (ceX1_readText cyI cyB cyJ cyZ a0 a1 a2 a3 a4 a5 a6 g0_texts g5_size f6 u1.1 u1.2.1 u1.2.2.1 u1.2.2.2.1 u1.2.2.2.2.1 u1.2.2.2.2.2.1 u1.2.2.2.2.2.2.1 u1.2.2.2.2.2.2.2.1 u1.2.2.2.2.2.2.2.2.1 u1.2.2.2.2.2.2.2.2.2) [0, 1, 2, 3, 4]) (w1 := (ceX8_toNext cyI cyB cyJ cyZ a5 a6 g5_size f6 u7.1 u7.2.1 u7.2.2.1 u7.2.2.2)) hP hD [5, 6] [0, 1, 2, 3, 4] rfl rfl (by decide) (by decide) hk1 hFc hP1 hD1
            have hP := hP.sub (ws' := (ceX1_readText cyI cyB cyJ cyZ a0 a1 a2 a3 a4 a5 a6 g0_texts g5_size f6 u1.1 u1.2.1 u1.2.2.1 u1.2.2.2.1 u1.2.2.2.2.1 u1.2.2.2.2.2.1 u7.1 u7.2.1 u7.2.2.1 u7.2.2.2)) [0, 1, 2, 3, 4, 5, 6] rfl
            have hD := hD.sub (ws' := (ceX1_readText cyI cyB cyJ cyZ a0 a1 a2 a3 a4 a5 a6 g0_texts g5_size f6 u1.1 u1.2.1 u1.2.2.1 u1.2.2.2.1 u1.2.2.2.2.1 u1.2.2.2.2.2.1 u7.1 u7.2.1 u7.2.2.1 u7.2.2.2)) [0, 1, 2, 3, 4, 5, 6] (by decide) rfl
            generalize H1 = H at hP hS ⊢
            obtain ⟨v8, ev8⟩ : ∃ y : Int32, y = x2 + 1 := ⟨_, rfl⟩
            have hw := hw v8 ev8
            refine lv_iinc (v := v8) (lv' := [(2, .int v8), (0, .ref a0), (1, .ref a5)]) hx hb dX1_readText_55 hl (k := 2) rfl (by rw [ev8]; rfl) (by decide) rfl (fun ls hl => ?_)
            refine lv_goto (tgt := 15) hx hb dX1_readText_58 (by decide) ?_
            exact ih u1.1 u1.2.1 u1.2.2.1 u1.2.2.2.1 u1.2.2.2.2.1 u1.2.2.2.2.2.1 u7.1 u7.2.1 u7.2.2.1 u7.2.2.2 v8 hw H locs hP hD hS ls (lv_sub hl [1, 2, 0] rfl)
          · have hw := hw.2 hc
            refine lv_iconst (v := 0) hx hb dX1_readText_49 (by decide) ?_
            rw [hQ]
            exact W.zret (v := 0) (ty := .boolean) hx hb hr rfl (fun t ht hW => ⟨⟨0, (u1.1, u1.2.1, u1.2.2.1, u1.2.2.2.1, u1.2.2.2.2.1, u1.2.2.2.2.2.1, u1.2.2.2.2.2.2.1, u1.2.2.2.2.2.2.2.1, u1.2.2.2.2.2.2.2.2.1, u1.2.2.2.2.2.2.2.2.2), rfl, hw, by rw [ht]; exact hP, va_K.moved hW.alike hK, hD⟩, hS.F ht⟩) hS.2.2 dX1_readText_50
        · have hw := hw.2 hc
          refine lv_iconst (v := 1) hx hb dX1_readText_38 (by decide) ?_
          rw [hQ]
          exact W.zret (v := 1) (ty := .boolean) hx hb hr rfl (fun t ht hW => ⟨⟨1, (u1.1, u1.2.1, u1.2.2.1, u1.2.2.2.1, u1.2.2.2.2.1, u1.2.2.2.2.2.1, u1.2.2.2.2.2.2.1, u1.2.2.2.2.2.2.2.1, u1.2.2.2.2.2.2.2.2.1, u1.2.2.2.2.2.2.2.2.2), rfl, hw, by rw [ht]; exact hP, va_K.moved hW.alike hK, hD⟩, hS.F ht⟩) hS.2.2 dX1_readText_39
      · have hw := hw.2 hc
        refine lv_iconst (v := 0) hx hb dX1_readText_29 (by decide) ?_
        rw [hQ]
        exact W.zret (v := 0) (ty := .boolean) hx hb hr rfl (fun t ht hW => ⟨⟨0, (u1.1, u1.2.1, u1.2.2.1, u1.2.2.2.1, u1.2.2.2.2.1, u1.2.2.2.2.2.1, u1.2.2.2.2.2.2.1, u1.2.2.2.2.2.2.2.1, u1.2.2.2.2.2.2.2.2.1, u1.2.2.2.2.2.2.2.2.2), rfl, hw, by rw [ht]; exact hP, va_K.moved hW.alike hK, hD⟩, hS.F ht⟩) hS.2.2 dX1_readText_30
set_option maxRecDepth 100000 in
set_option maxHeartbeats 4000000 in
theorem ctX1_readText (l : Launch) (dC : Nat → ClassId) (dI : Nat → Nat → Nat) (cyI cyB cyJ cyZ : ClassId) (sz : Nat) (a0 a1 a2 a3 a4 a5 a6 : Nat) (g0_texts : Int32) (g5_size : Int32) (f6 : Nat → Int32) (g0_ways : Int32) (g0_wallCount : Int32) (f1 : Nat → Int32) (f2 : Nat → Int32) (f3 : Nat → Int32) (f4 : Nat → Int32) (g5_here : Int32) (g5_behind : Int32) (g5_digits : Int32) (g5_value : Int32) (post : Int32 → (Int32 × Int32 × (Nat → Int32) × (Nat → Int32) × (Nat → Int32) × (Nat → Int32) × Int32 × Int32 × Int32 × Int32) → Prop) (adS : Nat → Nat) (hw : wpX1_readText post g5_size f6 g0_ways g0_wallCount f1 f2 f3 f4 g5_here g5_behind g5_digits g5_value ) : Met l yX1_readText wsX1_readText rmX1_readText (va_Pc [.ref a0, .ref a5] (wPreX dC dI cyI cyB cyJ cyZ sz (ceX1_readText cyI cyB cyJ cyZ a0 a1 a2 a3 a4 a5 a6 g0_texts g5_size f6 g0_ways g0_wallCount f1 f2 f3 f4 g5_here g5_behind g5_digits g5_value) (txA adS))) (va_Qi post (fun u : Int32 × Int32 × (Nat → Int32) × (Nat → Int32) × (Nat → Int32) × (Nat → Int32) × Int32 × Int32 × Int32 × Int32 => wAt dC dI cyI cyB cyJ cyZ (va_A (ceX1_readText cyI cyB cyJ cyZ a0 a1 a2 a3 a4 a5 a6 g0_texts g5_size f6 g0_ways g0_wallCount f1 f2 f3 f4 g5_here g5_behind g5_digits g5_value) sz) (ceX1_readText cyI cyB cyJ cyZ a0 a1 a2 a3 a4 a5 a6 g0_texts g5_size f6 u.1 u.2.1 u.2.2.1 u.2.2.2.1 u.2.2.2.2.1 u.2.2.2.2.2.1 u.2.2.2.2.2.2.1 u.2.2.2.2.2.2.2.1 u.2.2.2.2.2.2.2.2.1 u.2.2.2.2.2.2.2.2.2)) (va_A (ceX1_readText cyI cyB cyJ cyZ a0 a1 a2 a3 a4 a5 a6 g0_texts g5_size f6 g0_ways g0_wallCount f1 f2 f3 f4 g5_here g5_behind g5_digits g5_value) sz)) 0 0 (va_A (ceX1_readText cyI cyB cyJ cyZ a0 a1 a2 a3 a4 a5 a6 g0_texts g5_size f6 g0_ways g0_wallCount f1 f2 f3 f4 g5_here g5_behind g5_digits g5_value) sz) := by
  refine Met.ofW (cc := cX1_readText) (maxL := 3) (ret := (some .boolean)) (by decide) rfl ?_
  intro p e s m args below meth c s₁ B hml hv
  obtain ⟨rfl, ⟨hsz, hP, hK, hD0, hN⟩, hXs⟩ := hv
  have hx := B.exec
  have hb := B.bytes
  have hr := B.returns
  have hts := atoms_spec (ws := wsX1_readText) B.pre
  have hown : s.vm.findClass RX1 = some m.cls := findClass_of_methodNamed B.named
  have hlocks := B.notSynchronized
  subst hsz
  have hD := hD0.self (sz := s.heap.size)
  generalize hAe : va_A (ceX1_readText cyI cyB cyJ cyZ a0 a1 a2 a3 a4 a5 a6 g0_texts g5_size f6 g0_ways g0_wallCount f1 f2 f3 f4 g5_here g5_behind g5_digits g5_value) s.heap.size = A at hD hXs ⊢
  have hA : ∀ q : Nat, s.heap.size ≤ q → A q := fun q h => by rw [← hAe]; exact Or.inr h
  have hS : va_S A s.heap s.heap [] := va_S.rf
  have C0 : cxM p s m meth c _ wsX1_readText RX1 cX1_readText 3 (some .boolean) := ⟨hx, hb, hr, hml, hown, hts, hlocks⟩
  have hl := lv_entry ([.ref a0, .ref a5]) (n := 3) (Nat.le_of_ble_eq_true rfl)
  rw [lg_entry_eq]
  generalize (lg_sl ([.ref a0, .ref a5]) ++ List.replicate (3 - (lg_sl ([.ref a0, .ref a5])).length) Slot.unset).toArray = ls at hl ⊢
  have hl : lv_has ls 3 [(0, .ref a0), (1, .ref a5)] := hl
  show W p l e rmX1_readText s m _ below meth c _ _ _ _ _ _
  refine wq (fun Q hQ => ?_)
  refine lv_aload_n hx hb dX1_readText_0 rfl (lv_at hl 1 rfl) ?_
  have hPc := hP.sub (ws' := (ceX8_toFirst cyI cyB cyJ cyZ a5 a6 g5_size f6 g5_here g5_behind g5_digits g5_value)) [5, 6] rfl
  have hDc := hD.sub (ws' := (ceX8_toFirst cyI cyB cyJ cyZ a5 a6 g5_size f6 g5_here g5_behind g5_digits g5_value)) [5, 6] (by decide) rfl
  have hFc := va_free (wc := (ceX8_toFirst cyI cyB cyJ cyZ a5 a6 g5_size f6 g5_here g5_behind g5_digits g5_value)) hD hS hA [5, 6] rfl
  refine va_callv (va_runV (As := []) (rest := []) ⟨hx, hb, hml, hown, hts⟩ (ctX8_toFirst l dC dI cyI cyB cyJ cyZ _ a5 a6 g5_size f6 g5_here g5_behind g5_digits g5_value _ hw) (cwV 0 hts gX1_readText_X8_toFirst rfl rfl rfl (by decide +kernel) ⟨Nat.le_of_ble_eq_true rfl, Nat.le_of_ble_eq_true rfl⟩) ⟨wPre_blind, va_recv hK hPc (ci := 8) (q0 := 0) rfl rfl, fun U hU hW => wPre_of hPc hK hDc hN hU hW⟩ rfl rfl hl.1 rfl (lv_room (Nat.le_of_ble_eq_true rfl)) dX1_readText_1 ⟨(Nat.zero_le _), (Nat.zero_le _)⟩) hS (fun q _ h => hFc q h) hFc (fun u1 t H1 locs ht hvm hw hB hz1 hk1 hS => ?_)
  obtain ⟨hP1, hK1, hD1⟩ := hB
  rw [ht] at hP1
  obtain ⟨hP, hD⟩ := va_join (wr := pickW (ceX1_readText cyI cyB cyJ cyZ a0 a1 a2 a3 a4 a5 a6 g0_texts g5_size f6 g0_ways g0_wallCount f1 f2 f3 f4 g5_here g5_behind g5_digits g5_value) [0, 1, 2, 3, 4]) (w1 := (ceX8_toFirst cyI cyB cyJ cyZ a5 a6 g5_size f6 u1.1 u1.2.1 u1.2.2.1 u1.2.2.2)) hP hD [5, 6] [0, 1, 2, 3, 4] rfl rfl (by decide) (by decide) hk1 hFc hP1 hD1
  have hP := hP.sub (ws' := (ceX1_readText cyI cyB cyJ cyZ a0 a1 a2 a3 a4 a5 a6 g0_texts g5_size f6 g0_ways g0_wallCount f1 f2 f3 f4 u1.1 u1.2.1 u1.2.2.1 u1.2.2.2)) [0, 1, 2, 3, 4, 5, 6] rfl
  have hD := hD.sub (ws' := (ceX1_readText cyI cyB cyJ cyZ a0 a1 a2 a3 a4 a5 a6 g0_texts g5_size f6 g0_ways g0_wallCount f1 f2 f3 f4 u1.1 u1.2.1 u1.2.2.1 u1.2.2.2)) [0, 1, 2, 3, 4, 5, 6] (by decide) rfl
  generalize H1 = H at hP hS ⊢
  refine lv_aload_n hx hb dX1_readText_4 rfl (lv_at hl 1 rfl) ?_
  have hPc := hP.sub (ws' := (ceX8_isOver cyI cyB cyJ cyZ a5 a6 u1.2.1 u1.2.2.1 u1.2.2.2 g5_size u1.1)) [5] rfl
  have hDc := hD.sub (ws' := (ceX8_isOver cyI cyB cyJ cyZ a5 a6 u1.2.1 u1.2.2.1 u1.2.2.2 g5_size u1.1)) [5] (by decide) rfl
  have hFc := va_free (wc := (ceX8_isOver cyI cyB cyJ cyZ a5 a6 u1.2.1 u1.2.2.1 u1.2.2.2 g5_size u1.1)) hD hS hA [5] rfl
  refine va_calli (va_runV (As := []) (rest := []) ⟨hx, hb, hml, hown, hts⟩ (ctX8_isOver l dC dI cyI cyB cyJ cyZ _ a5 a6 u1.2.1 u1.2.2.1 u1.2.2.2 g5_size u1.1 _ hw) (cwV 0 hts gX1_readText_X8_isOver rfl rfl rfl (by decide +kernel) ⟨Nat.le_of_ble_eq_true rfl, Nat.le_of_ble_eq_true rfl⟩) ⟨wPre_blind, va_recv hK hPc (ci := 8) (q0 := 0) rfl rfl, fun U hU hW => wPre_of hPc hK hDc hN hU hW⟩ rfl rfl hl.1 rfl (lv_room (Nat.le_of_ble_eq_true rfl)) dX1_readText_5 ⟨(Nat.zero_le _), (Nat.zero_le _)⟩) hS (fun q _ h => hFc q h) hFc (fun r3 u2 t H1 locs ht hvm hw hB hz1 hk1 hS => ?_)
  obtain ⟨hP1, hK1, hD1⟩ := hB
  rw [ht] at hP1
  obtain ⟨hP, hD⟩ := va_join (wr := pickW (ceX1_readText cyI cyB cyJ cyZ a0 a1 a2 a3 a4 a5 a6 g0_texts g5_size f6 g0_ways g0_wallCount f1 f2 f3 f4 u1.1 u1.2.1 u1.2.2.1 u1.2.2.2) [0, 1, 2, 3, 4, 6]) (w1 := (ceX8_isOver cyI cyB cyJ cyZ a5 a6 u1.2.1 u1.2.2.1 u1.2.2.2 g5_size u1.1)) hP hD [5] [0, 1, 2, 3, 4, 6] rfl rfl (by decide) (by decide) hk1 hFc hP1 hD1
  have hP := hP.sub (ws' := (ceX1_readText cyI cyB cyJ cyZ a0 a1 a2 a3 a4 a5 a6 g0_texts g5_size f6 g0_ways g0_wallCount f1 f2 f3 f4 u1.1 u1.2.1 u1.2.2.1 u1.2.2.2)) [0, 1, 2, 3, 4, 6, 5] rfl
  have hD := hD.sub (ws' := (ceX1_readText cyI cyB cyJ cyZ a0 a1 a2 a3 a4 a5 a6 g0_texts g5_size f6 g0_ways g0_wallCount f1 f2 f3 f4 u1.1 u1.2.1 u1.2.2.1 u1.2.2.2)) [0, 1, 2, 3, 4, 6, 5] (by decide) rfl
  generalize H1 = H at hP hS ⊢
  refine lv_if_eq (tgt := 13) hx hb dX1_readText_8 (by decide) (fun hc => ?_) (fun hc => ?_)
  · have hw := hw.1 hc
    refine lv_iconst (v := 0) hx hb dX1_readText_13 (by decide) ?_
    refine lv_istore_n (lv' := [(2, .int 0), (0, .ref a0), (1, .ref a5)]) hx hb dX1_readText_14 rfl hl (by decide) rfl (fun ls hl => ?_)
    obtain ⟨nn, hw⟩ := hw
    exact bX1_readText_15 C0 hK hN hA hXs hQ nn g0_ways g0_wallCount f1 f2 f3 f4 u1.1 u1.2.1 u1.2.2.1 u1.2.2.2 0 hw _ _ hP hD hS ls (lv_sub hl [1, 2, 0] rfl)
  · have hw := hw.2 hc
    refine lv_iconst (v := 1) hx hb dX1_readText_11 (by decide) ?_
    rw [hQ]
    exact W.zret (v := 1) (ty := .boolean) hx hb hr rfl (fun t ht hW => ⟨⟨1, (g0_ways, g0_wallCount, f1, f2, f3, f4, u1.1, u1.2.1, u1.2.2.1, u1.2.2.2), rfl, hw, by rw [ht]; exact hP, va_K.moved hW.alike hK, hD⟩, hS.F ht⟩) hS.2.2 dX1_readText_12
