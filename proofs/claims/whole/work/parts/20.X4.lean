/-! LeadPark$Pack.measureBetween (LLeadPark$Ground;IIZ)V -/
abbrev ceX4_measureBetween (cyI cyB cyJ cyZ : ClassId) (a0 a1 a2 a3 a4 b0_toOne b0_toOther b0_evenLayer b0_oddLayer b2_counts b2_walls : Nat) (g2_ways : Int32) (g2_wallCount : Int32) (g2_texts : Int32) (g0_ones : Int32) (g0_others : Int32) (f3 : Nat → Int32) (f4 : Nat → Int32) (f1 : Nat → Int32) : va_W := [(a0, .inr (4, [.ref b0_toOne, .ref b0_toOther, .ref a1, .ref b0_evenLayer, .ref b0_oddLayer, .int g0_ones, .int g0_others])), (a1, .inl (cyI, 900, .inl f1)), (a2, .inr (1, [.ref a3, .ref a4, .ref b2_counts, .ref b2_walls, .int g2_ways, .int g2_wallCount, .int g2_texts])), (a3, .inl (cyI, 360, .inl f3)), (a4, .inl (cyI, 360, .inl f4))]

theorem inX4_measureBetween_X4 : ∀ w ∈ wsX40, w ∈ wsX4_measureBetween := fun _ h => List.mem_cons_of_mem _ (List.mem_append_left _ (List.mem_append_right _ h))
abbrev rmX4_measureBetween : Room := { frames := 1, cells := 0, slots := 0, locals := 28 }
set_option maxRecDepth 100000 in
set_option maxHeartbeats 4000000 in
theorem bX4_measureBetween_55 {p : Program} {l : Launch} {e : Env} {s : State} {m : MethodId} {args : Array Value} {below : List Frame} {meth : Method} {c : Code} {dC : Nat → ClassId} {dI : Nat → Nat → Nat} {cyI cyB cyJ cyZ : ClassId} {A : Nat → Prop} {a0 a1 a2 a3 a4 b0_toOne b0_toOther b0_evenLayer b0_oddLayer b2_counts b2_walls : Nat} {g2_ways : Int32} {g2_wallCount : Int32} {g2_texts : Int32} (C0 : cxM p s m meth c args wsX4_measureBetween RX4 cX4_measureBetween 7 none) (hK : va_K (dC, dI) vwCl (tyA cyI cyB cyJ cyZ) s) (hN : nwA s) (hA : ∀ q : Nat, s.heap.size ≤ q → A q) {post : ((Nat → Int32)) → Prop} {g0_ones : Int32} {g0_others : Int32} {f3 : Nat → Int32} {f4 : Nat → Int32} {k15 : (Nat → Int32) → Int32 → Int32 → Int32 → Int32 → Int32 → Prop} {k3 : (Nat → Int32) → Int32 → Int32 → Int32 → Int32 → Prop} {Q : State → Prop} (hQ : Q = MQ below (va_Qv post (fun u : (Nat → Int32) => wAt dC dI cyI cyB cyJ cyZ A (ceX4_measureBetween cyI cyB cyJ cyZ a0 a1 a2 a3 a4 b0_toOne b0_toOther b0_evenLayer b0_oddLayer b2_counts b2_walls g2_ways g2_wallCount g2_texts g0_ones g0_others f3 f4 u)) A) args s 0 0 A) (hk15 : ∀ (f1 : Nat → Int32) (x2 : Int32) (x3 : Int32) (x4 : Int32) (x5 : Int32) (x6 : Int32), k15 f1 x2 x3 x4 x5 x6 → AtW p l e rmX4_measureBetween s m args below meth c dC dI A Q 7 0 0 (ceX4_measureBetween cyI cyB cyJ cyZ a0 a1 a2 a3 a4 b0_toOne b0_toOther b0_evenLayer b0_oddLayer b2_counts b2_walls g2_ways g2_wallCount g2_texts g0_ones g0_others f3 f4 f1) [(0, .ref a0), (1, .ref a2), (2, .int x2), (3, .int x3), (4, .int x4), (5, .int x5), (6, .int x6)] 15 []) (hk3 : ∀ (f1 : Nat → Int32) (x2 : Int32) (x3 : Int32) (x4 : Int32) (x5 : Int32), k3 f1 x2 x3 x4 x5 → AtW p l e rmX4_measureBetween s m args below meth c dC dI A Q 7 0 0 (ceX4_measureBetween cyI cyB cyJ cyZ a0 a1 a2 a3 a4 b0_toOne b0_toOther b0_evenLayer b0_oddLayer b2_counts b2_walls g2_ways g2_wallCount g2_texts g0_ones g0_others f3 f4 f1) [(0, .ref a0), (1, .ref a2), (2, .int x2), (3, .int x3), (4, .int x4), (5, .int x5)] 3 []) : ∀ (f1 : Nat → Int32) (x2 : Int32) (x3 : Int32) (x4 : Int32) (x5 : Int32) (x6 : Int32) (s1 : Int32) (s2 : Int32), wpX4_measureBetween_55 k15 k3 post g0_ones g0_others f3 f4 f1 x2 x3 x4 x5 x6 s1 s2 → AtW p l e rmX4_measureBetween s m args below meth c dC dI A Q 7 0 0 (ceX4_measureBetween cyI cyB cyJ cyZ a0 a1 a2 a3 a4 b0_toOne b0_toOther b0_evenLayer b0_oddLayer b2_counts b2_walls g2_ways g2_wallCount g2_texts g0_ones g0_others f3 f4 f1) [(0, .ref a0), (1, .ref a2), (2, .int x2), (3, .int x3), (4, .int x4), (5, .int x5), (6, .int x6)] 55 [.int s2, .int s1, .ref a1] := by
  intro f1 x2 x3 x4 x5 x6 s1 s2 hw H locs hP hD hS ls hl
  have C1 := C0
  obtain ⟨hx, hb, hr, hml, hown, hts, hlocks⟩ := C1
  obtain ⟨hi, hw⟩ := hw
  refine va_iast hx hb hK hP hD hS 1 0 rfl rfl hi dX4_measureBetween_55 (fun H locs hP hD hS => ?_)
  have hP : va_P (dC, dI) vwCl (ceX4_measureBetween cyI cyB cyJ cyZ a0 a1 a2 a3 a4 b0_toOne b0_toOther b0_evenLayer b0_oddLayer b2_counts b2_walls g2_ways g2_wallCount g2_texts g0_ones g0_others f3 f4 (upd f1 s1.toNatClampNeg s2)) H := hP
  have hD : va_D A (ceX4_measureBetween cyI cyB cyJ cyZ a0 a1 a2 a3 a4 b0_toOne b0_toOther b0_evenLayer b0_oddLayer b2_counts b2_walls g2_ways g2_wallCount g2_texts g0_ones g0_others f3 f4 (upd f1 s1.toNatClampNeg s2)) := hD
  obtain ⟨v1, ev1⟩ : ∃ y : Int32, y = x6 + 1 := ⟨_, rfl⟩
  have hw := hw v1 ev1
  refine lv_iinc (v := v1) (lv' := [(6, .int v1), (0, .ref a0), (1, .ref a2), (2, .int x2), (3, .int x3), (4, .int x4), (5, .int x5)]) hx hb dX4_measureBetween_56 hl (k := 6) rfl (by rw [ev1]; rfl) (by decide) rfl (fun ls hl => ?_)
  refine lv_goto (tgt := 15) hx hb dX4_measureBetween_59 (by decide) ?_
  exact hk15 (upd f1 s1.toNatClampNeg s2) x2 x3 x4 x5 v1 hw H locs hP hD hS ls (lv_sub hl [1, 2, 3, 4, 5, 6, 0] rfl)
set_option maxRecDepth 100000 in
set_option maxHeartbeats 4000000 in
theorem bX4_measureBetween_15 {p : Program} {l : Launch} {e : Env} {s : State} {m : MethodId} {args : Array Value} {below : List Frame} {meth : Method} {c : Code} {dC : Nat → ClassId} {dI : Nat → Nat → Nat} {cyI cyB cyJ cyZ : ClassId} {A : Nat → Prop} {a0 a1 a2 a3 a4 b0_toOne b0_toOther b0_evenLayer b0_oddLayer b2_counts b2_walls : Nat} {g2_ways : Int32} {g2_wallCount : Int32} {g2_texts : Int32} (C0 : cxM p s m meth c args wsX4_measureBetween RX4 cX4_measureBetween 7 none) (hK : va_K (dC, dI) vwCl (tyA cyI cyB cyJ cyZ) s) (hN : nwA s) (hA : ∀ q : Nat, s.heap.size ≤ q → A q) {post : ((Nat → Int32)) → Prop} {g0_ones : Int32} {g0_others : Int32} {f3 : Nat → Int32} {f4 : Nat → Int32} {k3 : (Nat → Int32) → Int32 → Int32 → Int32 → Int32 → Prop} {Q : State → Prop} (hQ : Q = MQ below (va_Qv post (fun u : (Nat → Int32) => wAt dC dI cyI cyB cyJ cyZ A (ceX4_measureBetween cyI cyB cyJ cyZ a0 a1 a2 a3 a4 b0_toOne b0_toOther b0_evenLayer b0_oddLayer b2_counts b2_walls g2_ways g2_wallCount g2_texts g0_ones g0_others f3 f4 u)) A) args s 0 0 A) (hk3 : ∀ (f1 : Nat → Int32) (x2 : Int32) (x3 : Int32) (x4 : Int32) (x5 : Int32), k3 f1 x2 x3 x4 x5 → AtW p l e rmX4_measureBetween s m args below meth c dC dI A Q 7 0 0 (ceX4_measureBetween cyI cyB cyJ cyZ a0 a1 a2 a3 a4 b0_toOne b0_toOther b0_evenLayer b0_oddLayer b2_counts b2_walls g2_ways g2_wallCount g2_texts g0_ones g0_others f3 f4 f1) [(0, .ref a0), (1, .ref a2), (2, .int x2), (3, .int x3), (4, .int x4), (5, .int x5)] 3 []) : ∀ (n : Nat) (f1 : Nat → Int32) (x2 : Int32) (x3 : Int32) (x4 : Int32) (x5 : Int32) (x6 : Int32), wpX4_measureBetween_15 k3 post g0_ones g0_others f3 f4 n f1 x2 x3 x4 x5 x6 → AtW p l e rmX4_measureBetween s m args below meth c dC dI A Q 7 0 0 (ceX4_measureBetween cyI cyB cyJ cyZ a0 a1 a2 a3 a4 b0_toOne b0_toOther b0_evenLayer b0_oddLayer b2_counts b2_walls g2_ways g2_wallCount g2_texts g0_ones g0_others f3 f4 f1) [(0, .ref a0), (1, .ref a2), (2, .int x2), (3, .int x3), (4, .int x4), (5, .int x5), (6, .int x6)] 15 [] := by
  intro n
  induction n with
  | zero => intro f1 x2 x3 x4 x5 x6 hw; exact False.elim hw
  | succ n ih =>
    intro f1 x2 x3 x4 x5 x6 hw H locs hP hD hS ls hl
    have C1 := C0
    obtain ⟨hx, hb, hr, hml, hown, hts, hlocks⟩ := C1
    refine lv_iload hx hb dX4_measureBetween_15 (lv_at hl 6 rfl) ?_
    refine lv_aload_n hx hb dX4_measureBetween_17 rfl (lv_at hl 0 rfl) ?_
    refine va_get (D := (dC, dI)) (ci := 4) (v := .int g0_others) (C := RX4) (T := TX4) (N := 7) hx hb hts inX4_measureBetween_X4 hown hK hP 0 rfl rfl 6 (by decide) (hts (.fieldLink RX4 31 "LeadPark$Pack" "others" "I") (List.mem_of_getElem? (i := 2) rfl)) (fun _ h9 => h9) rfl dX4_measureBetween_18 ?_
    refine lv_icmp_ge (tgt := 62) hx hb dX4_measureBetween_21 (by decide) (fun hc => ?_) (fun hc => ?_)
    · have hw := hw.1 hc
      obtain ⟨v1, ev1⟩ : ∃ y : Int32, y = x5 + 1 := ⟨_, rfl⟩
      have hw := hw v1 ev1
      refine lv_iinc (v := v1) (lv' := [(5, .int v1), (0, .ref a0), (1, .ref a2), (2, .int x2), (3, .int x3), (4, .int x4), (6, .int x6)]) hx hb dX4_measureBetween_62 hl (k := 5) rfl (by rw [ev1]; rfl) (by decide) rfl (fun ls hl => ?_)
      refine lv_goto (tgt := 3) hx hb dX4_measureBetween_65 (by decide) ?_
      exact hk3 f1 x2 x3 x4 v1 hw H locs hP hD hS ls (lv_sub hl [1, 2, 3, 4, 5, 0] rfl)
    · have hw := hw.2 hc
      refine lv_aload_n hx hb dX4_measureBetween_24 rfl (lv_at hl 0 rfl) ?_
      refine va_get (D := (dC, dI)) (ci := 4) (v := .ref a1) (C := RX4) (T := TX4) (N := 7) hx hb hts inX4_measureBetween_X4 hown hK hP 0 rfl rfl 2 (by decide) (hts (.fieldLink RX4 18 "LeadPark$Pack" "between" "[I") (List.mem_of_getElem? (i := 3) rfl)) (fun _ h9 => h9) rfl dX4_measureBetween_25 ?_
      refine lv_iload hx hb dX4_measureBetween_28 (lv_at hl 5 rfl) ?_
      refine lv_bipush (v := 30) hx hb dX4_measureBetween_30 (by decide) ?_
      refine lv_imul hx hb dX4_measureBetween_32 ?_
      refine lv_iload hx hb dX4_measureBetween_33 (lv_at hl 6 rfl) ?_
      refine lv_iadd hx hb dX4_measureBetween_35 ?_
      refine lv_iload hx hb dX4_measureBetween_36 (lv_at hl 4 rfl) ?_
      refine lv_if_eq (tgt := 54) hx hb dX4_measureBetween_38 (by decide) (fun hc => ?_) (fun hc => ?_)
      · have hw := hw.1 hc
        refine lv_iconst (v := 0) hx hb dX4_measureBetween_54 (by decide) ?_
        exact bX4_measureBetween_55 C0 hK hN hA hQ ih hk3 f1 x2 x3 x4 x5 x6 ((x5 * 30) + x6) 0 hw _ _ hP hD hS ls (lv_sub hl [0, 1, 2, 3, 4, 5, 6] rfl)
      · have hw := hw.2 hc
        refine lv_aload_n hx hb dX4_measureBetween_41 rfl (lv_at hl 1 rfl) ?_
        refine lv_iload_n hx hb dX4_measureBetween_42 rfl (lv_at hl 2 rfl) ?_
        refine lv_iload hx hb dX4_measureBetween_43 (lv_at hl 5 rfl) ?_
        refine lv_iload_n hx hb dX4_measureBetween_45 rfl (lv_at hl 3 rfl) ?_
        refine lv_iload hx hb dX4_measureBetween_46 (lv_at hl 6 rfl) ?_
        have hPc := hP.sub (ws' := (ceX1_distance cyI cyB cyJ cyZ a2 a3 a4 b2_counts b2_walls g2_ways g2_wallCount g2_texts f3 f4)) [2, 3, 4] rfl
        have hDc := hD.sub (ws' := (ceX1_distance cyI cyB cyJ cyZ a2 a3 a4 b2_counts b2_walls g2_ways g2_wallCount g2_texts f3 f4)) [2, 3, 4] (by decide) rfl
        have hFc := va_free (wc := (ceX1_distance cyI cyB cyJ cyZ a2 a3 a4 b2_counts b2_walls g2_ways g2_wallCount g2_texts f3 f4)) hD hS hA [2, 3, 4] rfl
        refine va_calli (va_runV (As := [.int x2, .int x5, .int x3, .int x6]) (rest := [.int ((x5 * 30) + x6), .ref a1]) ⟨hx, hb, hml, hown, hts⟩ (ctX1_distance l dC dI cyI cyB cyJ cyZ _ a2 a3 a4 b2_counts b2_walls g2_ways g2_wallCount g2_texts f3 f4 x2 x5 x3 x6 _ hw) (cwV 4 hts gX4_measureBetween_X1_distance rfl rfl rfl (by decide +kernel) ⟨Nat.le_of_ble_eq_true rfl, Nat.le_of_ble_eq_true rfl⟩) ⟨wPre_blind, va_recv hK hPc (ci := 1) (q0 := 0) rfl rfl, fun U hU hW => wPre_of hPc hK hDc hN hU hW⟩ rfl rfl hl.1 rfl (lv_room (Nat.le_of_ble_eq_true rfl)) dX4_measureBetween_48 ⟨(Nat.zero_le _), (Nat.zero_le _)⟩) hS (fun q _ h => hFc q h) hFc (fun r3 u2 t H1 locs ht hvm hw hB hz1 hk1 hS => ?_)
        obtain ⟨hP1, hK1, hD1⟩ := hB
        rw [ht] at hP1
        obtain ⟨hP, hD⟩ := va_join (wr := pickW (ceX4_measureBetween cyI cyB cyJ cyZ a0 a1 a2 a3 a4 b0_toOne b0_toOther b0_evenLayer b0_oddLayer b2_counts b2_walls g2_ways g2_wallCount g2_texts g0_ones g0_others f3 f4 f1) [0, 1]) (w1 := (ceX1_distance cyI cyB cyJ cyZ a2 a3 a4 b2_counts b2_walls g2_ways g2_wallCount g2_texts f3 f4)) hP hD [2, 3, 4] [0, 1] rfl rfl (by decide) (by decide) hk1 hFc hP1 hD1
        have hP := hP.sub (ws' := (ceX4_measureBetween cyI cyB cyJ cyZ a0 a1 a2 a3 a4 b0_toOne b0_toOther b0_evenLayer b0_oddLayer b2_counts b2_walls g2_ways g2_wallCount g2_texts g0_ones g0_others f3 f4 f1)) [0, 1, 2, 3, 4] rfl
        have hD := hD.sub (ws' := (ceX4_measureBetween cyI cyB cyJ cyZ a0 a1 a2 a3 a4 b0_toOne b0_toOther b0_evenLayer b0_oddLayer b2_counts b2_walls g2_ways g2_wallCount g2_texts g0_ones g0_others f3 f4 f1)) [0, 1, 2, 3, 4] (by decide) rfl
        generalize H1 = H at hP hS ⊢
        refine lv_goto (tgt := 55) hx hb dX4_measureBetween_51 (by decide) ?_
        exact bX4_measureBetween_55 C0 hK hN hA hQ ih hk3 f1 x2 x3 x4 x5 x6 ((x5 * 30) + x6) r3 hw _ _ hP hD hS ls (lv_sub hl [0, 1, 2, 3, 4, 5, 6] rfl)
set_option maxRecDepth 100000 in
set_option maxHeartbeats 4000000 in
theorem bX4_measureBetween_3 {p : Program} {l : Launch} {e : Env} {s : State} {m : MethodId} {args : Array Value} {below : List Frame} {meth : Method} {c : Code} {dC : Nat → ClassId} {dI : Nat → Nat → Nat} {cyI cyB cyJ cyZ : ClassId} {A : Nat → Prop} {a0 a1 a2 a3 a4 b0_toOne b0_toOther b0_evenLayer b0_oddLayer b2_counts b2_walls : Nat} {g2_ways : Int32} {g2_wallCount : Int32} {g2_texts : Int32} (C0 : cxM p s m meth c args wsX4_measureBetween RX4 cX4_measureBetween 7 none) (hK : va_K (dC, dI) vwCl (tyA cyI cyB cyJ cyZ) s) (hN : nwA s) (hA : ∀ q : Nat, s.heap.size ≤ q → A q) {post : ((Nat → Int32)) → Prop} {g0_ones : Int32} {g0_others : Int32} {f3 : Nat → Int32} {f4 : Nat → Int32} {Q : State → Prop} (hQ : Q = MQ below (va_Qv post (fun u : (Nat → Int32) => wAt dC dI cyI cyB cyJ cyZ A (ceX4_measureBetween cyI cyB cyJ cyZ a0 a1 a2 a3 a4 b0_toOne b0_toOther b0_evenLayer b0_oddLayer b2_counts b2_walls g2_ways g2_wallCount g2_texts g0_ones g0_others f3 f4 u)) A) args s 0 0 A) : ∀ (n : Nat) (f1 : Nat → Int32) (x2 : Int32) (x3 : Int32) (x4 : Int32) (x5 : Int32), wpX4_measureBetween_3 post g0_ones g0_others f3 f4 n f1 x2 x3 x4 x5 → AtW p l e rmX4_measureBetween s m args below meth c dC dI A Q 7 0 0 (ceX4_measureBetween cyI cyB cyJ cyZ a0 a1 a2 a3 a4 b0_toOne b0_toOther b0_evenLayer b0_oddLayer b2_counts b2_walls g2_ways g2_wallCount g2_texts g0_ones g0_others f3 f4 f1) [(0, .ref a0), (1, .ref a2), (2, .int x2), (3, .int x3), (4, .int x4), (5, .int x5)] 3 [] := by
  intro n
  induction n with
  | zero => intro f1 x2 x3 x4 x5 hw; exact False.elim hw
  | succ n ih =>
    intro f1 x2 x3 x4 x5 hw H locs hP hD hS ls hl
    have C1 := C0
    obtain ⟨hx, hb, hr, hml, hown, hts, hlocks⟩ := C1
    refine lv_iload hx hb dX4_measureBetween_3 (lv_at hl 5 rfl) ?_
    refine lv_aload_n hx hb dX4_measureBetween_5 rfl (lv_at hl 0 rfl) ?_
    refine va_get (D := (dC, dI)) (ci := 4) (v := .int g0_ones) (C := RX4) (T := TX4) (N := 7) hx hb hts inX4_measureBetween_X4 hown hK hP 0 rfl rfl 5 (by decide) (hts (.fieldLink RX4 27 "LeadPark$Pack" "ones" "I") (List.mem_of_getElem? (i := 1) rfl)) (fun _ h9 => h9) rfl dX4_measureBetween_6 ?_
    refine lv_icmp_ge (tgt := 68) hx hb dX4_measureBetween_9 (by decide) (fun hc => ?_) (fun hc => ?_)
    · have hw := hw.1 hc
      rw [hQ]
      exact W.vret hx hb hr (fun t ht hW => ⟨⟨(f1), rfl, hw, by rw [ht]; exact hP, va_K.moved hW.alike hK, hD⟩, hS.F ht⟩) hS.2.2 dX4_measureBetween_68
    · have hw := hw.2 hc
      refine lv_iconst (v := 0) hx hb dX4_measureBetween_12 (by decide) ?_
      refine lv_istore (lv' := [(6, .int 0), (0, .ref a0), (1, .ref a2), (2, .int x2), (3, .int x3), (4, .int x4), (5, .int x5)]) hx hb dX4_measureBetween_13 hl (by decide) rfl (fun ls hl => ?_)
      obtain ⟨nn, hw⟩ := hw
      exact bX4_measureBetween_15 C0 hK hN hA hQ ih nn f1 x2 x3 x4 x5 0 hw _ _ hP hD hS ls (lv_sub hl [1, 2, 3, 4, 5, 6, 0] rfl)
set_option maxRecDepth 100000 in
set_option maxHeartbeats 4000000 in
theorem ctX4_measureBetween (l : Launch) (dC : Nat → ClassId) (dI : Nat → Nat → Nat) (cyI cyB cyJ cyZ : ClassId) (sz : Nat) (a0 a1 a2 a3 a4 b0_toOne b0_toOther b0_evenLayer b0_oddLayer b2_counts b2_walls : Nat) (g2_ways : Int32) (g2_wallCount : Int32) (g2_texts : Int32) (g0_ones : Int32) (g0_others : Int32) (f3 : Nat → Int32) (f4 : Nat → Int32) (f1 : Nat → Int32) (p1 : Int32) (p2 : Int32) (p3 : Int32) (post : ((Nat → Int32)) → Prop) (hw : wpX4_measureBetween post g0_ones g0_others f3 f4 f1 p1 p2 p3) : Met l yX4_measureBetween wsX4_measureBetween rmX4_measureBetween (va_Pc [.ref a0, .ref a2, .int p1, .int p2, .int p3] (wPre dC dI cyI cyB cyJ cyZ sz (ceX4_measureBetween cyI cyB cyJ cyZ a0 a1 a2 a3 a4 b0_toOne b0_toOther b0_evenLayer b0_oddLayer b2_counts b2_walls g2_ways g2_wallCount g2_texts g0_ones g0_others f3 f4 f1))) (va_Qv post (fun u : (Nat → Int32) => wAt dC dI cyI cyB cyJ cyZ (va_A (ceX4_measureBetween cyI cyB cyJ cyZ a0 a1 a2 a3 a4 b0_toOne b0_toOther b0_evenLayer b0_oddLayer b2_counts b2_walls g2_ways g2_wallCount g2_texts g0_ones g0_others f3 f4 f1) sz) (ceX4_measureBetween cyI cyB cyJ cyZ a0 a1 a2 a3 a4 b0_toOne b0_toOther b0_evenLayer b0_oddLayer b2_counts b2_walls g2_ways g2_wallCount g2_texts g0_ones g0_others f3 f4 u)) (va_A (ceX4_measureBetween cyI cyB cyJ cyZ a0 a1 a2 a3 a4 b0_toOne b0_toOther b0_evenLayer b0_oddLayer b2_counts b2_walls g2_ways g2_wallCount g2_texts g0_ones g0_others f3 f4 f1) sz)) 0 0 (va_A (ceX4_measureBetween cyI cyB cyJ cyZ a0 a1 a2 a3 a4 b0_toOne b0_toOther b0_evenLayer b0_oddLayer b2_counts b2_walls g2_ways g2_wallCount g2_texts g0_ones g0_others f3 f4 f1) sz) := by
  refine Met.ofW (cc := cX4_measureBetween) (maxL := 7) (ret := none) (by decide) rfl ?_
  intro p e s m args below meth c s₁ B hml hv
  obtain ⟨rfl, hsz, hP, hK, hD0, hN⟩ := hv
  have hx := B.exec
  have hb := B.bytes
  have hr := B.returns
  have hts := atoms_spec (ws := wsX4_measureBetween) B.pre
  have hown : s.vm.findClass RX4 = some m.cls := findClass_of_methodNamed B.named
  have hlocks := B.notSynchronized
  subst hsz
  have hD := hD0.self (sz := s.heap.size)
  generalize hAe : va_A (ceX4_measureBetween cyI cyB cyJ cyZ a0 a1 a2 a3 a4 b0_toOne b0_toOther b0_evenLayer b0_oddLayer b2_counts b2_walls g2_ways g2_wallCount g2_texts g0_ones g0_others f3 f4 f1) s.heap.size = A at hD ⊢
  have hA : ∀ q : Nat, s.heap.size ≤ q → A q := fun q h => by rw [← hAe]; exact Or.inr h
  have hS : va_S A s.heap s.heap [] := va_S.rf
  have C0 : cxM p s m meth c _ wsX4_measureBetween RX4 cX4_measureBetween 7 none := ⟨hx, hb, hr, hml, hown, hts, hlocks⟩
  have hl := lv_entry ([.ref a0, .ref a2, .int p1, .int p2, .int p3]) (n := 7) (Nat.le_of_ble_eq_true rfl)
  rw [lg_entry_eq]
  generalize (lg_sl ([.ref a0, .ref a2, .int p1, .int p2, .int p3]) ++ List.replicate (7 - (lg_sl ([.ref a0, .ref a2, .int p1, .int p2, .int p3])).length) Slot.unset).toArray = ls at hl ⊢
  have hl : lv_has ls 7 [(0, .ref a0), (1, .ref a2), (2, .int p1), (3, .int p2), (4, .int p3)] := hl
  show W p l e rmX4_measureBetween s m _ below meth c _ _ _ _ _ _
  refine wq (fun Q hQ => ?_)
  refine lv_iconst (v := 0) hx hb dX4_measureBetween_0 (by decide) ?_
  refine lv_istore (lv' := [(5, .int 0), (0, .ref a0), (1, .ref a2), (2, .int p1), (3, .int p2), (4, .int p3)]) hx hb dX4_measureBetween_1 hl (by decide) rfl (fun ls hl => ?_)
  obtain ⟨nn, hw⟩ := hw
  exact bX4_measureBetween_3 C0 hK hN hA hQ nn f1 p1 p2 p3 0 hw _ _ hP hD hS ls (lv_sub hl [1, 2, 3, 4, 5, 0] rfl)
/-! LeadPark$Pack.measure (LLeadPark$Scene;III[IZ)V -/
abbrev ceX4_measure (cyI cyB cyJ cyZ : ClassId) (a0 a1 a2 a3 a4 a5 a6 a7 a8 a9 b0_marks b0_stroll n9 : Nat) (g0_drawSeed : Int32) (g1_ways : Int32) (g1_texts : Int32) (g6_lines : Int32) (g1_wallCount : Int32) (f2 : Nat → Int32) (f3 : Nat → Int32) (f4 : Nat → Int32) (f5 : Nat → Int32) (g6_size : Int32) (f8 : Nat → Int32) (f7 : Nat → Int32) (f9 : Nat → Int32) : va_W := [(a0, .inr (6, [.ref a1, .ref a6, .ref b0_marks, .ref b0_stroll, .int g0_drawSeed])), (a1, .inr (1, [.ref a3, .ref a4, .ref a2, .ref a5, .int g1_ways, .int g1_wallCount, .int g1_texts])), (a2, .inl (cyI, 12, .inl f2)), (a3, .inl (cyI, 360, .inl f3)), (a4, .inl (cyI, 360, .inl f4)), (a5, .inl (cyI, 32, .inl f5)), (a6, .inr (2, [.ref a8, .ref a7, .int g6_size, .int g6_lines])), (a7, .inl (cyI, 7, .inl f7)), (a8, .inl (cyI, 400, .inl f8)), (a9, .inl (cyI, n9, .inl f9))]

theorem inX4_measure_X1 : ∀ w ∈ wsX10, w ∈ wsX4_measure := fun _ h => List.mem_cons_of_mem _ (List.mem_append_left _ (List.mem_append_right _ h))
theorem inX4_measure_X6 : ∀ w ∈ wsX60, w ∈ wsX4_measure := fun _ h => List.mem_cons_of_mem _ (List.mem_append_left _ (List.mem_append_left _ (List.mem_append_right _ h)))
abbrev rmX4_measure : Room := { frames := 4, cells := 0, slots := 0, locals := 128 }
set_option maxRecDepth 100000 in
set_option maxHeartbeats 4000000 in
theorem bX4_measure_67 {p : Program} {l : Launch} {e : Env} {s : State} {m : MethodId} {args : Array Value} {below : List Frame} {meth : Method} {c : Code} {dC : Nat → ClassId} {dI : Nat → Nat → Nat} {cyI cyB cyJ cyZ : ClassId} {A : Nat → Prop} {a0 a1 a2 a3 a4 a5 a6 a7 a8 a9 b0_marks b0_stroll n9 : Nat} {g0_drawSeed : Int32} {g1_ways : Int32} {g1_texts : Int32} {g6_lines : Int32} (C0 : cxM p s m meth c args wsX4_measure RX4 cX4_measure 8 none) (hK : va_K (dC, dI) vwCl (tyA cyI cyB cyJ cyZ) s) (hN : nwA s) (hA : ∀ q : Nat, s.heap.size ≤ q → A q) {post : ((Nat → Int32) × (Nat → Int32)) → Prop} {g1_wallCount : Int32} {f2 : Nat → Int32} {f3 : Nat → Int32} {f4 : Nat → Int32} {f5 : Nat → Int32} {g6_size : Int32} {f8 : Nat → Int32} {k3 : (Nat → Int32) → (Nat → Int32) → Int32 → Int32 → Int32 → Int32 → Int32 → Prop} {Q : State → Prop} (hQ : Q = MQ below (va_Qv post (fun u : (Nat → Int32) × (Nat → Int32) => wAt dC dI cyI cyB cyJ cyZ A (ceX4_measure cyI cyB cyJ cyZ a0 a1 a2 a3 a4 a5 a6 a7 a8 a9 b0_marks b0_stroll n9 g0_drawSeed g1_ways g1_texts g6_lines g1_wallCount f2 f3 f4 f5 g6_size f8 u.1 u.2)) A) args s 0 0 A) (hk3 : ∀ (f7 : Nat → Int32) (f9 : Nat → Int32) (x1 : Int32) (x2 : Int32) (x3 : Int32) (x5 : Int32) (x6 : Int32), k3 f7 f9 x1 x2 x3 x5 x6 → AtW p l e rmX4_measure s m args below meth c dC dI A Q 8 0 0 (ceX4_measure cyI cyB cyJ cyZ a0 a1 a2 a3 a4 a5 a6 a7 a8 a9 b0_marks b0_stroll n9 g0_drawSeed g1_ways g1_texts g6_lines g1_wallCount f2 f3 f4 f5 g6_size f8 f7 f9) [(0, .ref a0), (1, .int x1), (2, .int x2), (3, .int x3), (4, .ref a9), (5, .int x5), (6, .int x6)] 3 []) : ∀ (f7 : Nat → Int32) (f9 : Nat → Int32) (x1 : Int32) (x2 : Int32) (x3 : Int32) (x5 : Int32) (x6 : Int32) (s1 : Int32) (s2 : Int32), wpX4_measure_67 n9 k3 post g1_wallCount f2 f3 f4 f5 g6_size f8 f7 f9 x1 x2 x3 x5 x6 s1 s2 → AtW p l e rmX4_measure s m args below meth c dC dI A Q 8 0 0 (ceX4_measure cyI cyB cyJ cyZ a0 a1 a2 a3 a4 a5 a6 a7 a8 a9 b0_marks b0_stroll n9 g0_drawSeed g1_ways g1_texts g6_lines g1_wallCount f2 f3 f4 f5 g6_size f8 f7 f9) [(0, .ref a0), (1, .int x1), (2, .int x2), (3, .int x3), (4, .ref a9), (5, .int x5), (6, .int x6)] 67 [.int s2, .int s1, .ref a9] := by
  intro f7 f9 x1 x2 x3 x5 x6 s1 s2 hw H locs hP hD hS ls hl
  have C1 := C0
  obtain ⟨hx, hb, hr, hml, hown, hts, hlocks⟩ := C1
  obtain ⟨hi, hw⟩ := hw
  refine va_iast hx hb hK hP hD hS 9 0 rfl rfl hi dX4_measure_67 (fun H locs hP hD hS => ?_)
  have hP : va_P (dC, dI) vwCl (ceX4_measure cyI cyB cyJ cyZ a0 a1 a2 a3 a4 a5 a6 a7 a8 a9 b0_marks b0_stroll n9 g0_drawSeed g1_ways g1_texts g6_lines g1_wallCount f2 f3 f4 f5 g6_size f8 f7 (upd f9 s1.toNatClampNeg s2)) H := hP
  have hD : va_D A (ceX4_measure cyI cyB cyJ cyZ a0 a1 a2 a3 a4 a5 a6 a7 a8 a9 b0_marks b0_stroll n9 g0_drawSeed g1_ways g1_texts g6_lines g1_wallCount f2 f3 f4 f5 g6_size f8 f7 (upd f9 s1.toNatClampNeg s2)) := hD
  obtain ⟨v1, ev1⟩ : ∃ y : Int32, y = x6 + 1 := ⟨_, rfl⟩
  have hw := hw v1 ev1
  refine lv_iinc (v := v1) (lv' := [(6, .int v1), (0, .ref a0), (1, .int x1), (2, .int x2), (3, .int x3), (4, .ref a9), (5, .int x5)]) hx hb dX4_measure_68 hl (k := 6) rfl (by rw [ev1]; rfl) (by decide) rfl (fun ls hl => ?_)
  refine lv_goto (tgt := 3) hx hb dX4_measure_71 (by decide) ?_
  exact hk3 f7 (upd f9 s1.toNatClampNeg s2) x1 x2 x3 x5 v1 hw H locs hP hD hS ls (lv_sub hl [1, 2, 3, 4, 5, 6, 0] rfl)
set_option maxRecDepth 100000 in
set_option maxHeartbeats 4000000 in
theorem bX4_measure_39 {p : Program} {l : Launch} {e : Env} {s : State} {m : MethodId} {args : Array Value} {below : List Frame} {meth : Method} {c : Code} {dC : Nat → ClassId} {dI : Nat → Nat → Nat} {cyI cyB cyJ cyZ : ClassId} {A : Nat → Prop} {a0 a1 a2 a3 a4 a5 a6 a7 a8 a9 b0_marks b0_stroll n9 : Nat} {g0_drawSeed : Int32} {g1_ways : Int32} {g1_texts : Int32} {g6_lines : Int32} (C0 : cxM p s m meth c args wsX4_measure RX4 cX4_measure 8 none) (hK : va_K (dC, dI) vwCl (tyA cyI cyB cyJ cyZ) s) (hN : nwA s) (hA : ∀ q : Nat, s.heap.size ≤ q → A q) {post : ((Nat → Int32) × (Nat → Int32)) → Prop} {g1_wallCount : Int32} {f2 : Nat → Int32} {f3 : Nat → Int32} {f4 : Nat → Int32} {f5 : Nat → Int32} {g6_size : Int32} {f8 : Nat → Int32} {k3 : (Nat → Int32) → (Nat → Int32) → Int32 → Int32 → Int32 → Int32 → Int32 → Prop} {Q : State → Prop} (hQ : Q = MQ below (va_Qv post (fun u : (Nat → Int32) × (Nat → Int32) => wAt dC dI cyI cyB cyJ cyZ A (ceX4_measure cyI cyB cyJ cyZ a0 a1 a2 a3 a4 a5 a6 a7 a8 a9 b0_marks b0_stroll n9 g0_drawSeed g1_ways g1_texts g6_lines g1_wallCount f2 f3 f4 f5 g6_size f8 u.1 u.2)) A) args s 0 0 A) (hk3 : ∀ (f7 : Nat → Int32) (f9 : Nat → Int32) (x1 : Int32) (x2 : Int32) (x3 : Int32) (x5 : Int32) (x6 : Int32), k3 f7 f9 x1 x2 x3 x5 x6 → AtW p l e rmX4_measure s m args below meth c dC dI A Q 8 0 0 (ceX4_measure cyI cyB cyJ cyZ a0 a1 a2 a3 a4 a5 a6 a7 a8 a9 b0_marks b0_stroll n9 g0_drawSeed g1_ways g1_texts g6_lines g1_wallCount f2 f3 f4 f5 g6_size f8 f7 f9) [(0, .ref a0), (1, .int x1), (2, .int x2), (3, .int x3), (4, .ref a9), (5, .int x5), (6, .int x6)] 3 []) : ∀ (f7 : Nat → Int32) (f9 : Nat → Int32) (x1 : Int32) (x2 : Int32) (x3 : Int32) (x5 : Int32) (x6 : Int32) (s0 : Int32), wpX4_measure_39 n9 k3 post g1_wallCount f2 f3 f4 f5 g6_size f8 f7 f9 x1 x2 x3 x5 x6 s0 → AtW p l e rmX4_measure s m args below meth c dC dI A Q 8 0 0 (ceX4_measure cyI cyB cyJ cyZ a0 a1 a2 a3 a4 a5 a6 a7 a8 a9 b0_marks b0_stroll n9 g0_drawSeed g1_ways g1_texts g6_lines g1_wallCount f2 f3 f4 f5 g6_size f8 f7 f9) [(0, .ref a0), (1, .int x1), (2, .int x2), (3, .int x3), (4, .ref a9), (5, .int x5), (6, .int x6)] 39 [.int s0] := by
  intro f7 f9 x1 x2 x3 x5 x6 s0 hw H locs hP hD hS ls hl
  have C1 := C0
  obtain ⟨hx, hb, hr, hml, hown, hts, hlocks⟩ := C1
  refine lv_istore (lv' := [(7, .int s0), (0, .ref a0), (1, .int x1), (2, .int x2), (3, .int x3), (4, .ref a9), (5, .int x5), (6, .int x6)]) hx hb dX4_measure_39 hl (by decide) rfl (fun ls hl => ?_)
  refine lv_aload hx hb dX4_measure_41 (lv_at hl 5 rfl) ?_
  refine lv_iload hx hb dX4_measure_43 (lv_at hl 7 rfl) ?_
  refine lv_iload hx hb dX4_measure_45 (lv_at hl 0 rfl) ?_
  refine lv_if_eq (tgt := 55) hx hb dX4_measure_47 (by decide) (fun hc => ?_) (fun hc => ?_)
  · have hw := hw.1 hc
    refine lv_aload_n hx hb dX4_measure_55 rfl (lv_at hl 1 rfl) ?_
    refine va_getN (D := (dC, dI)) (ci := 6) (v := .ref a1) (C := RX6) (T := TX6) (N := 5) hx hb hts inX4_measure_X6 hown hK hP 0 rfl rfl 0 (by decide) (va_Nw.use rfl (hN _ (List.mem_of_getElem? (i := 27) rfl))) (fun _ h9 => h9) rfl dX4_measure_56 ?_
    refine lv_iload_n hx hb dX4_measure_59 rfl (lv_at hl 2 rfl) ?_
    refine lv_iload_n hx hb dX4_measure_60 rfl (lv_at hl 3 rfl) ?_
    refine lv_iload_n hx hb dX4_measure_61 rfl (lv_at hl 4 rfl) ?_
    refine lv_iload hx hb dX4_measure_62 (lv_at hl 7 rfl) ?_
    have hPc := hP.sub (ws' := (ceX1_distance cyI cyB cyJ cyZ a1 a3 a4 a2 a5 g1_ways g1_wallCount g1_texts f3 f4)) [1, 3, 4] rfl
    have hDc := hD.sub (ws' := (ceX1_distance cyI cyB cyJ cyZ a1 a3 a4 a2 a5 g1_ways g1_wallCount g1_texts f3 f4)) [1, 3, 4] (by decide) rfl
    have hFc := va_free (wc := (ceX1_distance cyI cyB cyJ cyZ a1 a3 a4 a2 a5 g1_ways g1_wallCount g1_texts f3 f4)) hD hS hA [1, 3, 4] rfl
    refine va_calli (va_runV (As := [.int x1, .int x2, .int x3, .int x6]) (rest := [.int x6, .ref a9]) ⟨hx, hb, hml, hown, hts⟩ (ctX1_distance l dC dI cyI cyB cyJ cyZ _ a1 a3 a4 a2 a5 g1_ways g1_wallCount g1_texts f3 f4 x1 x2 x3 x6 _ hw) (cwV 4 hts gX4_measure_X1_distance rfl rfl rfl (by decide +kernel) ⟨Nat.le_of_ble_eq_true rfl, Nat.le_of_ble_eq_true rfl⟩) ⟨wPre_blind, va_recv hK hPc (ci := 1) (q0 := 0) rfl rfl, fun U hU hW => wPre_of hPc hK hDc hN hU hW⟩ rfl rfl hl.1 rfl (lv_room (Nat.le_of_ble_eq_true rfl)) dX4_measure_64 ⟨(Nat.zero_le _), (Nat.zero_le _)⟩) hS (fun q _ h => hFc q h) hFc (fun r2 u1 t H1 locs ht hvm hw hB hz1 hk1 hS => ?_)
    obtain ⟨hP1, hK1, hD1⟩ := hB
    rw [ht] at hP1
    obtain ⟨hP, hD⟩ := va_join (wr := pickW (ceX4_measure cyI cyB cyJ cyZ a0 a1 a2 a3 a4 a5 a6 a7 a8 a9 b0_marks b0_stroll n9 g0_drawSeed g1_ways g1_texts g6_lines g1_wallCount f2 f3 f4 f5 g6_size f8 f7 f9) [0, 2, 5, 6, 7, 8, 9]) (w1 := (ceX1_distance cyI cyB cyJ cyZ a1 a3 a4 a2 a5 g1_ways g1_wallCount g1_texts f3 f4)) hP hD [1, 3, 4] [0, 2, 5, 6, 7, 8, 9] rfl rfl (by decide) (by decide) hk1 hFc hP1 hD1
    have hP := hP.sub (ws' := (ceX4_measure cyI cyB cyJ cyZ a0 a1 a2 a3 a4 a5 a6 a7 a8 a9 b0_marks b0_stroll n9 g0_drawSeed g1_ways g1_texts g6_lines g1_wallCount f2 f3 f4 f5 g6_size f8 f7 f9)) [0, 7, 1, 8, 9, 2, 3, 4, 5, 6] rfl
    have hD := hD.sub (ws' := (ceX4_measure cyI cyB cyJ cyZ a0 a1 a2 a3 a4 a5 a6 a7 a8 a9 b0_marks b0_stroll n9 g0_drawSeed g1_ways g1_texts g6_lines g1_wallCount f2 f3 f4 f5 g6_size f8 f7 f9)) [0, 7, 1, 8, 9, 2, 3, 4, 5, 6] (by decide) rfl
    generalize H1 = H at hP hS ⊢
    exact bX4_measure_67 C0 hK hN hA hQ hk3 f7 f9 x1 x2 x3 x5 x6 x6 r2 hw _ _ hP hD hS ls (lv_sub hl [1, 2, 3, 4, 5, 6, 7] rfl)
  · have hw := hw.2 hc
    refine lv_ldc (v := 2147483647) hx hb hown (hts (.constant RX4 49 (2147483647)) (List.mem_of_getElem? (i := 1) rfl)) dX4_measure_50 ?_
    refine lv_goto (tgt := 67) hx hb dX4_measure_52 (by decide) ?_
    exact bX4_measure_67 C0 hK hN hA hQ hk3 f7 f9 x1 x2 x3 x5 x6 x6 2147483647 hw _ _ hP hD hS ls (lv_sub hl [1, 2, 3, 4, 5, 6, 7] rfl)
set_option maxRecDepth 100000 in
set_option maxHeartbeats 4000000 in
theorem bX4_measure_38 {p : Program} {l : Launch} {e : Env} {s : State} {m : MethodId} {args : Array Value} {below : List Frame} {meth : Method} {c : Code} {dC : Nat → ClassId} {dI : Nat → Nat → Nat} {cyI cyB cyJ cyZ : ClassId} {A : Nat → Prop} {a0 a1 a2 a3 a4 a5 a6 a7 a8 a9 b0_marks b0_stroll n9 : Nat} {g0_drawSeed : Int32} {g1_ways : Int32} {g1_texts : Int32} {g6_lines : Int32} (C0 : cxM p s m meth c args wsX4_measure RX4 cX4_measure 8 none) (hK : va_K (dC, dI) vwCl (tyA cyI cyB cyJ cyZ) s) (hN : nwA s) (hA : ∀ q : Nat, s.heap.size ≤ q → A q) {post : ((Nat → Int32) × (Nat → Int32)) → Prop} {g1_wallCount : Int32} {f2 : Nat → Int32} {f3 : Nat → Int32} {f4 : Nat → Int32} {f5 : Nat → Int32} {g6_size : Int32} {f8 : Nat → Int32} {k3 : (Nat → Int32) → (Nat → Int32) → Int32 → Int32 → Int32 → Int32 → Int32 → Prop} {Q : State → Prop} (hQ : Q = MQ below (va_Qv post (fun u : (Nat → Int32) × (Nat → Int32) => wAt dC dI cyI cyB cyJ cyZ A (ceX4_measure cyI cyB cyJ cyZ a0 a1 a2 a3 a4 a5 a6 a7 a8 a9 b0_marks b0_stroll n9 g0_drawSeed g1_ways g1_texts g6_lines g1_wallCount f2 f3 f4 f5 g6_size f8 u.1 u.2)) A) args s 0 0 A) (hk3 : ∀ (f7 : Nat → Int32) (f9 : Nat → Int32) (x1 : Int32) (x2 : Int32) (x3 : Int32) (x5 : Int32) (x6 : Int32), k3 f7 f9 x1 x2 x3 x5 x6 → AtW p l e rmX4_measure s m args below meth c dC dI A Q 8 0 0 (ceX4_measure cyI cyB cyJ cyZ a0 a1 a2 a3 a4 a5 a6 a7 a8 a9 b0_marks b0_stroll n9 g0_drawSeed g1_ways g1_texts g6_lines g1_wallCount f2 f3 f4 f5 g6_size f8 f7 f9) [(0, .ref a0), (1, .int x1), (2, .int x2), (3, .int x3), (4, .ref a9), (5, .int x5), (6, .int x6)] 3 []) : ∀ (f7 : Nat → Int32) (f9 : Nat → Int32) (x1 : Int32) (x2 : Int32) (x3 : Int32) (x5 : Int32) (x6 : Int32), wpX4_measure_38 n9 k3 post g1_wallCount f2 f3 f4 f5 g6_size f8 f7 f9 x1 x2 x3 x5 x6 → AtW p l e rmX4_measure s m args below meth c dC dI A Q 8 0 0 (ceX4_measure cyI cyB cyJ cyZ a0 a1 a2 a3 a4 a5 a6 a7 a8 a9 b0_marks b0_stroll n9 g0_drawSeed g1_ways g1_texts g6_lines g1_wallCount f2 f3 f4 f5 g6_size f8 f7 f9) [(0, .ref a0), (1, .int x1), (2, .int x2), (3, .int x3), (4, .ref a9), (5, .int x5), (6, .int x6)] 38 [] := by
  intro f7 f9 x1 x2 x3 x5 x6 hw H locs hP hD hS ls hl
  have C1 := C0
  obtain ⟨hx, hb, hr, hml, hown, hts, hlocks⟩ := C1
  refine lv_iconst (v := 0) hx hb dX4_measure_38 (by decide) ?_
  exact bX4_measure_39 C0 hK hN hA hQ hk3 f7 f9 x1 x2 x3 x5 x6 0 hw _ _ hP hD hS ls (lv_sub hl [0, 1, 2, 3, 4, 5, 6] rfl)
set_option maxRecDepth 100000 in
set_option maxHeartbeats 4000000 in
theorem bX4_measure_3 {p : Program} {l : Launch} {e : Env} {s : State} {m : MethodId} {args : Array Value} {below : List Frame} {meth : Method} {c : Code} {dC : Nat → ClassId} {dI : Nat → Nat → Nat} {cyI cyB cyJ cyZ : ClassId} {A : Nat → Prop} {a0 a1 a2 a3 a4 a5 a6 a7 a8 a9 b0_marks b0_stroll n9 : Nat} {g0_drawSeed : Int32} {g1_ways : Int32} {g1_texts : Int32} {g6_lines : Int32} (C0 : cxM p s m meth c args wsX4_measure RX4 cX4_measure 8 none) (hK : va_K (dC, dI) vwCl (tyA cyI cyB cyJ cyZ) s) (hN : nwA s) (hA : ∀ q : Nat, s.heap.size ≤ q → A q) {post : ((Nat → Int32) × (Nat → Int32)) → Prop} {g1_wallCount : Int32} {f2 : Nat → Int32} {f3 : Nat → Int32} {f4 : Nat → Int32} {f5 : Nat → Int32} {g6_size : Int32} {f8 : Nat → Int32} {Q : State → Prop} (hQ : Q = MQ below (va_Qv post (fun u : (Nat → Int32) × (Nat → Int32) => wAt dC dI cyI cyB cyJ cyZ A (ceX4_measure cyI cyB cyJ cyZ a0 a1 a2 a3 a4 a5 a6 a7 a8 a9 b0_marks b0_stroll n9 g0_drawSeed g1_ways g1_texts g6_lines g1_wallCount f2 f3 f4 f5 g6_size f8 u.1 u.2)) A) args s 0 0 A) : ∀ (n : Nat) (f7 : Nat → Int32) (f9 : Nat → Int32) (x1 : Int32) (x2 : Int32) (x3 : Int32) (x5 : Int32) (x6 : Int32), wpX4_measure_3 n9 post g1_wallCount f2 f3 f4 f5 g6_size f8 n f7 f9 x1 x2 x3 x5 x6 → AtW p l e rmX4_measure s m args below meth c dC dI A Q 8 0 0 (ceX4_measure cyI cyB cyJ cyZ a0 a1 a2 a3 a4 a5 a6 a7 a8 a9 b0_marks b0_stroll n9 g0_drawSeed g1_ways g1_texts g6_lines g1_wallCount f2 f3 f4 f5 g6_size f8 f7 f9) [(0, .ref a0), (1, .int x1), (2, .int x2), (3, .int x3), (4, .ref a9), (5, .int x5), (6, .int x6)] 3 [] := by
  intro n
  induction n with
  | zero => intro f7 f9 x1 x2 x3 x5 x6 hw; exact False.elim hw
  | succ n ih =>
    intro f7 f9 x1 x2 x3 x5 x6 hw H locs hP hD hS ls hl
    have C1 := C0
    obtain ⟨hx, hb, hr, hml, hown, hts, hlocks⟩ := C1
    refine lv_iload hx hb dX4_measure_3 (lv_at hl 6 rfl) ?_
    refine lv_aload_n hx hb dX4_measure_5 rfl (lv_at hl 0 rfl) ?_
    refine va_getN (D := (dC, dI)) (ci := 6) (v := .ref a1) (C := RX6) (T := TX6) (N := 5) hx hb hts inX4_measure_X6 hown hK hP 0 rfl rfl 0 (by decide) (va_Nw.use rfl (hN _ (List.mem_of_getElem? (i := 27) rfl))) (fun _ h9 => h9) rfl dX4_measure_6 ?_
    refine va_getN (D := (dC, dI)) (ci := 1) (v := .ref a2) (C := RX1) (T := TX1) (N := 7) hx hb hts inX4_measure_X1 hown hK hP 1 rfl rfl 2 (by decide) (va_Nw.use rfl (hN _ (List.mem_of_getElem? (i := 5) rfl))) (fun _ h9 => h9) rfl dX4_measure_9 ?_
    refine lv_iload_n hx hb dX4_measure_12 rfl (lv_at hl 3 rfl) ?_
    obtain ⟨hi, hw⟩ := hw
    refine va_iald hx hb hK hP 2 0 rfl rfl hi dX4_measure_13 ?_
    refine lv_icmp_ge (tgt := 74) hx hb dX4_measure_14 (by decide) (fun hc => ?_) (fun hc => ?_)
    · have hw := hw.1 hc
      rw [hQ]
      exact W.vret hx hb hr (fun t ht hW => ⟨⟨(f7, f9), rfl, hw, by rw [ht]; exact hP, va_K.moved hW.alike hK, hD⟩, hS.F ht⟩) hS.2.2 dX4_measure_74
    · have hw := hw.2 hc
      refine lv_iload hx hb dX4_measure_17 (lv_at hl 5 rfl) ?_
      refine lv_if_ne (tgt := 38) hx hb dX4_measure_19 (by decide) (fun hc => ?_) (fun hc => ?_)
      · have hw := hw.1 hc
        exact bX4_measure_38 C0 hK hN hA hQ ih f7 f9 x1 x2 x3 x5 x6 hw _ _ hP hD hS ls (lv_sub hl [0, 1, 2, 3, 4, 5, 6] rfl)
      · have hw := hw.2 hc
        refine lv_aload_n hx hb dX4_measure_22 rfl (lv_at hl 0 rfl) ?_
        refine lv_iload_n hx hb dX4_measure_23 rfl (lv_at hl 1 rfl) ?_
        refine lv_iload_n hx hb dX4_measure_24 rfl (lv_at hl 2 rfl) ?_
        refine lv_iload_n hx hb dX4_measure_25 rfl (lv_at hl 3 rfl) ?_
        refine lv_iload hx hb dX4_measure_26 (lv_at hl 6 rfl) ?_
        have hPc := hP.sub (ws' := (ceX6_isShut cyI cyB cyJ cyZ a0 a1 a3 a4 a5 a6 a7 a8 b0_marks b0_stroll a2 g0_drawSeed g1_ways g1_texts g6_lines g1_wallCount f3 f4 f5 g6_size f8 f7)) [0, 1, 3, 4, 5, 6, 7, 8] rfl
        have hDc := hD.sub (ws' := (ceX6_isShut cyI cyB cyJ cyZ a0 a1 a3 a4 a5 a6 a7 a8 b0_marks b0_stroll a2 g0_drawSeed g1_ways g1_texts g6_lines g1_wallCount f3 f4 f5 g6_size f8 f7)) [0, 1, 3, 4, 5, 6, 7, 8] (by decide) rfl
        have hFc := va_free (wc := (ceX6_isShut cyI cyB cyJ cyZ a0 a1 a3 a4 a5 a6 a7 a8 b0_marks b0_stroll a2 g0_drawSeed g1_ways g1_texts g6_lines g1_wallCount f3 f4 f5 g6_size f8 f7)) hD hS hA [0, 1, 3, 4, 5, 6, 7, 8] rfl
        refine va_calli (va_runV (As := [.int x1, .int x2, .int x3, .int x6]) (rest := []) ⟨hx, hb, hml, hown, hts⟩ (ctX6_isShut l dC dI cyI cyB cyJ cyZ _ a0 a1 a3 a4 a5 a6 a7 a8 b0_marks b0_stroll a2 g0_drawSeed g1_ways g1_texts g6_lines g1_wallCount f3 f4 f5 g6_size f8 f7 x1 x2 x3 x6 _ hw) (cwV 4 hts gX4_measure_X6_isShut rfl rfl rfl (by decide +kernel) ⟨Nat.le_of_ble_eq_true rfl, Nat.le_of_ble_eq_true rfl⟩) ⟨wPre_blind, va_recv hK hPc (ci := 6) (q0 := 0) rfl rfl, fun U hU hW => wPre_of hPc hK hDc hN hU hW⟩ rfl rfl hl.1 rfl (lv_room (Nat.le_of_ble_eq_true rfl)) dX4_measure_28 ⟨(Nat.zero_le _), (Nat.zero_le _)⟩) hS (fun q _ h => hFc q h) hFc (fun r2 u1 t H1 locs ht hvm hw hB hz1 hk1 hS => ?_)
        obtain ⟨hP1, hK1, hD1⟩ := hB
        rw [ht] at hP1
        obtain ⟨hP, hD⟩ := va_join (wr := pickW (ceX4_measure cyI cyB cyJ cyZ a0 a1 a2 a3 a4 a5 a6 a7 a8 a9 b0_marks b0_stroll n9 g0_drawSeed g1_ways g1_texts g6_lines g1_wallCount f2 f3 f4 f5 g6_size f8 f7 f9) [2, 9]) (w1 := (ceX6_isShut cyI cyB cyJ cyZ a0 a1 a3 a4 a5 a6 a7 a8 b0_marks b0_stroll a2 g0_drawSeed g1_ways g1_texts g6_lines g1_wallCount f3 f4 f5 g6_size f8 u1)) hP hD [0, 1, 3, 4, 5, 6, 7, 8] [2, 9] rfl rfl (by decide) (by decide) hk1 hFc hP1 hD1
        have hP := hP.sub (ws' := (ceX4_measure cyI cyB cyJ cyZ a0 a1 a2 a3 a4 a5 a6 a7 a8 a9 b0_marks b0_stroll n9 g0_drawSeed g1_ways g1_texts g6_lines g1_wallCount f2 f3 f4 f5 g6_size f8 u1 f9)) [2, 3, 0, 4, 5, 6, 7, 8, 9, 1] rfl
        have hD := hD.sub (ws' := (ceX4_measure cyI cyB cyJ cyZ a0 a1 a2 a3 a4 a5 a6 a7 a8 a9 b0_marks b0_stroll n9 g0_drawSeed g1_ways g1_texts g6_lines g1_wallCount f2 f3 f4 f5 g6_size f8 u1 f9)) [2, 3, 0, 4, 5, 6, 7, 8, 9, 1] (by decide) rfl
        generalize H1 = H at hP hS ⊢
        refine lv_if_eq (tgt := 38) hx hb dX4_measure_31 (by decide) (fun hc => ?_) (fun hc => ?_)
        · have hw := hw.1 hc
          exact bX4_measure_38 C0 hK hN hA hQ ih u1 f9 x1 x2 x3 x5 x6 hw _ _ hP hD hS ls (lv_sub hl [0, 1, 2, 3, 4, 5, 6] rfl)
        · have hw := hw.2 hc
          refine lv_iconst (v := 1) hx hb dX4_measure_34 (by decide) ?_
          refine lv_goto (tgt := 39) hx hb dX4_measure_35 (by decide) ?_
          exact bX4_measure_39 C0 hK hN hA hQ ih u1 f9 x1 x2 x3 x5 x6 1 hw _ _ hP hD hS ls (lv_sub hl [0, 1, 2, 3, 4, 5, 6] rfl)
set_option maxRecDepth 100000 in
set_option maxHeartbeats 4000000 in
theorem ctX4_measure (l : Launch) (dC : Nat → ClassId) (dI : Nat → Nat → Nat) (cyI cyB cyJ cyZ : ClassId) (sz : Nat) (a0 a1 a2 a3 a4 a5 a6 a7 a8 a9 b0_marks b0_stroll n9 : Nat) (g0_drawSeed : Int32) (g1_ways : Int32) (g1_texts : Int32) (g6_lines : Int32) (g1_wallCount : Int32) (f2 : Nat → Int32) (f3 : Nat → Int32) (f4 : Nat → Int32) (f5 : Nat → Int32) (g6_size : Int32) (f8 : Nat → Int32) (f7 : Nat → Int32) (f9 : Nat → Int32) (p1 : Int32) (p2 : Int32) (p3 : Int32) (p5 : Int32) (post : ((Nat → Int32) × (Nat → Int32)) → Prop) (hw : wpX4_measure n9 post g1_wallCount f2 f3 f4 f5 g6_size f8 f7 f9 p1 p2 p3 p5) : Met l yX4_measure wsX4_measure rmX4_measure (va_Pc [.ref a0, .int p1, .int p2, .int p3, .ref a9, .int p5] (wPre dC dI cyI cyB cyJ cyZ sz (ceX4_measure cyI cyB cyJ cyZ a0 a1 a2 a3 a4 a5 a6 a7 a8 a9 b0_marks b0_stroll n9 g0_drawSeed g1_ways g1_texts g6_lines g1_wallCount f2 f3 f4 f5 g6_size f8 f7 f9))) (va_Qv post (fun u : (Nat → Int32) × (Nat → Int32) => wAt dC dI cyI cyB cyJ cyZ (va_A (ceX4_measure cyI cyB cyJ cyZ a0 a1 a2 a3 a4 a5 a6 a7 a8 a9 b0_marks b0_stroll n9 g0_drawSeed g1_ways g1_texts g6_lines g1_wallCount f2 f3 f4 f5 g6_size f8 f7 f9) sz) (ceX4_measure cyI cyB cyJ cyZ a0 a1 a2 a3 a4 a5 a6 a7 a8 a9 b0_marks b0_stroll n9 g0_drawSeed g1_ways g1_texts g6_lines g1_wallCount f2 f3 f4 f5 g6_size f8 u.1 u.2)) (va_A (ceX4_measure cyI cyB cyJ cyZ a0 a1 a2 a3 a4 a5 a6 a7 a8 a9 b0_marks b0_stroll n9 g0_drawSeed g1_ways g1_texts g6_lines g1_wallCount f2 f3 f4 f5 g6_size f8 f7 f9) sz)) 0 0 (va_A (ceX4_measure cyI cyB cyJ cyZ a0 a1 a2 a3 a4 a5 a6 a7 a8 a9 b0_marks b0_stroll n9 g0_drawSeed g1_ways g1_texts g6_lines g1_wallCount f2 f3 f4 f5 g6_size f8 f7 f9) sz) := by
  refine Met.ofW (cc := cX4_measure) (maxL := 8) (ret := none) (by decide) rfl ?_
  intro p e s m args below meth c s₁ B hml hv
  obtain ⟨rfl, hsz, hP, hK, hD0, hN⟩ := hv
  have hx := B.exec
  have hb := B.bytes
  have hr := B.returns
  have hts := atoms_spec (ws := wsX4_measure) B.pre
  have hown : s.vm.findClass RX4 = some m.cls := findClass_of_methodNamed B.named
  have hlocks := B.notSynchronized
  subst hsz
  have hD := hD0.self (sz := s.heap.size)
  generalize hAe : va_A (ceX4_measure cyI cyB cyJ cyZ a0 a1 a2 a3 a4 a5 a6 a7 a8 a9 b0_marks b0_stroll n9 g0_drawSeed g1_ways g1_texts g6_lines g1_wallCount f2 f3 f4 f5 g6_size f8 f7 f9) s.heap.size = A at hD ⊢
  have hA : ∀ q : Nat, s.heap.size ≤ q → A q := fun q h => by rw [← hAe]; exact Or.inr h
  have hS : va_S A s.heap s.heap [] := va_S.rf
  have C0 : cxM p s m meth c _ wsX4_measure RX4 cX4_measure 8 none := ⟨hx, hb, hr, hml, hown, hts, hlocks⟩
  have hl := lv_entry ([.ref a0, .int p1, .int p2, .int p3, .ref a9, .int p5]) (n := 8) (Nat.le_of_ble_eq_true rfl)
  rw [lg_entry_eq]
  generalize (lg_sl ([.ref a0, .int p1, .int p2, .int p3, .ref a9, .int p5]) ++ List.replicate (8 - (lg_sl ([.ref a0, .int p1, .int p2, .int p3, .ref a9, .int p5])).length) Slot.unset).toArray = ls at hl ⊢
  have hl : lv_has ls 8 [(0, .ref a0), (1, .int p1), (2, .int p2), (3, .int p3), (4, .ref a9), (5, .int p5)] := hl
  show W p l e rmX4_measure s m _ below meth c _ _ _ _ _ _
  refine wq (fun Q hQ => ?_)
  refine lv_iconst (v := 0) hx hb dX4_measure_0 (by decide) ?_
  refine lv_istore (lv' := [(6, .int 0), (0, .ref a0), (1, .int p1), (2, .int p2), (3, .int p3), (4, .ref a9), (5, .int p5)]) hx hb dX4_measure_1 hl (by decide) rfl (fun ls hl => ?_)
  obtain ⟨nn, hw⟩ := hw
  exact bX4_measure_3 C0 hK hN hA hQ nn f7 f9 p1 p2 p3 p5 0 hw _ _ hP hD hS ls (lv_sub hl [1, 2, 3, 4, 5, 6, 0] rfl)
/-! LeadPark$Pack.passLayer ([I[I)V -/
abbrev ceX4_passLayer (cyI cyB cyJ cyZ : ClassId) (a0 a1 a2 a3 a4 a5 b0_evenLayer b0_oddLayer n4 n5 : Nat) (g0_ones : Int32) (g0_others : Int32) (f1 : Nat → Int32) (f2 : Nat → Int32) (f3 : Nat → Int32) (f4 : Nat → Int32) (f5 : Nat → Int32) : va_W := [(a0, .inr (4, [.ref a2, .ref a3, .ref a1, .ref b0_evenLayer, .ref b0_oddLayer, .int g0_ones, .int g0_others])), (a1, .inl (cyI, 900, .inl f1)), (a2, .inl (cyI, 30, .inl f2)), (a3, .inl (cyI, 30, .inl f3)), (a4, .inl (cyI, n4, .inl f4)), (a5, .inl (cyI, n5, .inl f5))]

theorem inX4_passLayer_X4 : ∀ w ∈ wsX40, w ∈ wsX4_passLayer := fun _ h => List.mem_cons_of_mem _ (List.mem_append_right _ h)
abbrev rmX4_passLayer : Room := { frames := 1, cells := 0, slots := 0, locals := 40 }
set_option maxRecDepth 100000 in
set_option maxHeartbeats 4000000 in
theorem bX4_passLayer_13 {p : Program} {l : Launch} {e : Env} {s : State} {m : MethodId} {args : Array Value} {below : List Frame} {meth : Method} {c : Code} {dC : Nat → ClassId} {dI : Nat → Nat → Nat} {cyI cyB cyJ cyZ : ClassId} {A : Nat → Prop} {a0 a1 a2 a3 a4 a5 b0_evenLayer b0_oddLayer n4 n5 : Nat} (C0 : cxM p s m meth c args wsX4_passLayer RX4 cX4_passLayer 9 none) (hK : va_K (dC, dI) vwCl (tyA cyI cyB cyJ cyZ) s) (hN : nwA s) (hA : ∀ q : Nat, s.heap.size ≤ q → A q) {post : ((Nat → Int32)) → Prop} {g0_ones : Int32} {g0_others : Int32} {f1 : Nat → Int32} {f2 : Nat → Int32} {f3 : Nat → Int32} {f4 : Nat → Int32} {k2 : (Nat → Int32) → Int32 → Prop} {Q : State → Prop} (hQ : Q = MQ below (va_Qv post (fun u : (Nat → Int32) => wAt dC dI cyI cyB cyJ cyZ A (ceX4_passLayer cyI cyB cyJ cyZ a0 a1 a2 a3 a4 a5 b0_evenLayer b0_oddLayer n4 n5 g0_ones g0_others f1 f2 f3 f4 u)) A) args s 0 0 A) (hk2 : ∀ (f5 : Nat → Int32) (x3 : Int32), k2 f5 x3 → AtW p l e rmX4_passLayer s m args below meth c dC dI A Q 9 0 0 (ceX4_passLayer cyI cyB cyJ cyZ a0 a1 a2 a3 a4 a5 b0_evenLayer b0_oddLayer n4 n5 g0_ones g0_others f1 f2 f3 f4 f5) [(0, .ref a0), (1, .ref a4), (2, .ref a5), (3, .int x3)] 2 []) : ∀ (n : Nat) (f5 : Nat → Int32) (x3 : Int32) (x4 : Int32), wpX4_passLayer_13 n4 n5 k2 post g0_ones g0_others f1 f2 f3 f4 n f5 x3 x4 → AtW p l e rmX4_passLayer s m args below meth c dC dI A Q 9 0 0 (ceX4_passLayer cyI cyB cyJ cyZ a0 a1 a2 a3 a4 a5 b0_evenLayer b0_oddLayer n4 n5 g0_ones g0_others f1 f2 f3 f4 f5) [(0, .ref a0), (1, .ref a4), (2, .ref a5), (3, .int x3), (4, .int x4)] 13 [] := by
  intro n
  induction n with
  | zero => intro f5 x3 x4 hw; exact False.elim hw
  | succ n ih =>
    intro f5 x3 x4 hw H locs hP hD hS ls hl
    have C1 := C0
    obtain ⟨hx, hb, hr, hml, hown, hts, hlocks⟩ := C1
    refine lv_iload hx hb dX4_passLayer_13 (lv_at hl 4 rfl) ?_
    refine lv_aload_n hx hb dX4_passLayer_15 rfl (lv_at hl 0 rfl) ?_
    refine va_get (D := (dC, dI)) (ci := 4) (v := .int g0_others) (C := RX4) (T := TX4) (N := 7) hx hb hts inX4_passLayer_X4 hown hK hP 0 rfl rfl 6 (by decide) (hts (.fieldLink RX4 31 "LeadPark$Pack" "others" "I") (List.mem_of_getElem? (i := 2) rfl)) (fun _ h9 => h9) rfl dX4_passLayer_16 ?_
    refine lv_icmp_ge (tgt := 157) hx hb dX4_passLayer_19 (by decide) (fun hc => ?_) (fun hc => ?_)
    · have hw := hw.1 hc
      obtain ⟨v1, ev1⟩ : ∃ y : Int32, y = x3 + 1 := ⟨_, rfl⟩
      have hw := hw v1 ev1
      refine lv_iinc (v := v1) (lv' := [(3, .int v1), (0, .ref a0), (1, .ref a4), (2, .ref a5), (4, .int x4)]) hx hb dX4_passLayer_157 hl (k := 3) rfl (by rw [ev1]; rfl) (by decide) rfl (fun ls hl => ?_)
      refine lv_goto (tgt := 2) hx hb dX4_passLayer_160 (by decide) ?_
      exact hk2 f5 v1 hw H locs hP hD hS ls (lv_sub hl [1, 2, 3, 0] rfl)
    · have hw := hw.2 hc
      refine lv_iload_n hx hb dX4_passLayer_22 rfl (lv_at hl 3 rfl) ?_
      refine lv_iconst (v := 1) hx hb dX4_passLayer_23 (by decide) ?_
      refine lv_iadd hx hb dX4_passLayer_24 ?_
      refine lv_bipush (v := 31) hx hb dX4_passLayer_25 (by decide) ?_
      refine lv_imul hx hb dX4_passLayer_27 ?_
      refine lv_iload hx hb dX4_passLayer_28 (lv_at hl 4 rfl) ?_
      refine lv_iadd hx hb dX4_passLayer_30 ?_
      refine lv_iconst (v := 1) hx hb dX4_passLayer_31 (by decide) ?_
      refine lv_iadd hx hb dX4_passLayer_32 ?_
      refine lv_topi (fun v2 ev2 => ?_)
      have hw := hw v2 ev2
      refine lv_istore (lv' := [(5, .int v2), (0, .ref a0), (1, .ref a4), (2, .ref a5), (3, .int x3), (4, .int x4)]) hx hb dX4_passLayer_33 hl (by decide) rfl (fun ls hl => ?_)
      refine lv_aload_n hx hb dX4_passLayer_35 rfl (lv_at hl 1 rfl) ?_
      refine va_get (D := (dC, dI)) (ci := 4) (v := .ref a1) (C := RX4) (T := TX4) (N := 7) hx hb hts inX4_passLayer_X4 hown hK hP 0 rfl rfl 2 (by decide) (hts (.fieldLink RX4 18 "LeadPark$Pack" "between" "[I") (List.mem_of_getElem? (i := 3) rfl)) (fun _ h9 => h9) rfl dX4_passLayer_36 ?_
      refine lv_iload_n hx hb dX4_passLayer_39 rfl (lv_at hl 4 rfl) ?_
      refine lv_bipush (v := 30) hx hb dX4_passLayer_40 (by decide) ?_
      refine lv_imul hx hb dX4_passLayer_42 ?_
      refine lv_iload hx hb dX4_passLayer_43 (lv_at hl 5 rfl) ?_
      refine lv_iadd hx hb dX4_passLayer_45 ?_
      obtain ⟨hi, hw⟩ := hw
      refine va_iald hx hb hK hP 1 0 rfl rfl hi dX4_passLayer_46 ?_
      refine lv_aload_n hx hb dX4_passLayer_47 rfl (lv_at hl 1 rfl) ?_
      refine va_get (D := (dC, dI)) (ci := 4) (v := .ref a2) (C := RX4) (T := TX4) (N := 7) hx hb hts inX4_passLayer_X4 hown hK hP 0 rfl rfl 0 (by decide) (hts (.fieldLink RX4 9 "LeadPark$Pack" "toOne" "[I") (List.mem_of_getElem? (i := 4) rfl)) (fun _ h9 => h9) rfl dX4_passLayer_48 ?_
      refine lv_iload_n hx hb dX4_passLayer_51 rfl (lv_at hl 4 rfl) ?_
      obtain ⟨hi, hw⟩ := hw
      refine va_iald hx hb hK hP 2 0 rfl rfl hi dX4_passLayer_52 ?_
      refine lv_aload_n hx hb dX4_passLayer_53 rfl (lv_at hl 1 rfl) ?_
      refine va_get (D := (dC, dI)) (ci := 4) (v := .ref a3) (C := RX4) (T := TX4) (N := 7) hx hb hts inX4_passLayer_X4 hown hK hP 0 rfl rfl 1 (by decide) (hts (.fieldLink RX4 15 "LeadPark$Pack" "toOther" "[I") (List.mem_of_getElem? (i := 5) rfl)) (fun _ h9 => h9) rfl dX4_passLayer_54 ?_
      refine lv_iload hx hb dX4_passLayer_57 (lv_at hl 5 rfl) ?_
      obtain ⟨hi, hw⟩ := hw
      refine va_iald hx hb hK hP 3 0 rfl rfl hi dX4_passLayer_59 ?_
      refine va_mmax hx hb (hml.trans hl.1.symm) hown (hts (.methodLink RX4 72 Lib.Math.max.name) (List.mem_of_getElem? (i := 6) rfl)) (hts (.static Lib.Math.max.name) (List.mem_of_getElem? (i := 7) rfl)) (hts (.initialized "java/lang/Math") (List.mem_of_getElem? (i := 8) rfl)) (hts (.code Lib.Math.max.name Lib.Math.max.code 2 (some .int)) (List.mem_of_getElem? (i := 9) rfl)) (Nat.le_of_ble_eq_true rfl) (Nat.le_of_ble_eq_true rfl) (by decide) (by decide) dX4_passLayer_60 ?_
      refine va_mmax hx hb (hml.trans hl.1.symm) hown (hts (.methodLink RX4 72 Lib.Math.max.name) (List.mem_of_getElem? (i := 6) rfl)) (hts (.static Lib.Math.max.name) (List.mem_of_getElem? (i := 7) rfl)) (hts (.initialized "java/lang/Math") (List.mem_of_getElem? (i := 8) rfl)) (hts (.code Lib.Math.max.name Lib.Math.max.code 2 (some .int)) (List.mem_of_getElem? (i := 9) rfl)) (Nat.le_of_ble_eq_true rfl) (Nat.le_of_ble_eq_true rfl) (by decide) (by decide) dX4_passLayer_63 ?_
      refine lv_topi (fun v3 ev3 => ?_)
      have hw := hw v3 ev3
      refine lv_istore (lv' := [(6, .int v3), (5, .int v2), (0, .ref a0), (1, .ref a4), (2, .ref a5), (3, .int x3), (4, .int x4)]) hx hb dX4_passLayer_66 hl (by decide) rfl (fun ls hl => ?_)
      refine lv_aload_n hx hb dX4_passLayer_68 rfl (lv_at hl 4 rfl) ?_
      refine lv_iload hx hb dX4_passLayer_69 (lv_at hl 1 rfl) ?_
      refine lv_iconst (v := 1) hx hb dX4_passLayer_71 (by decide) ?_
      refine lv_isub hx hb dX4_passLayer_72 ?_
      obtain ⟨hi, hw⟩ := hw
      refine va_iald hx hb hK hP 5 0 rfl rfl hi dX4_passLayer_73 ?_
      refine lv_aload_n hx hb dX4_passLayer_74 rfl (lv_at hl 4 rfl) ?_
      refine lv_iload hx hb dX4_passLayer_75 (lv_at hl 1 rfl) ?_
      refine lv_bipush (v := 31) hx hb dX4_passLayer_77 (by decide) ?_
      refine lv_isub hx hb dX4_passLayer_79 ?_
      obtain ⟨hi, hw⟩ := hw
      refine va_iald hx hb hK hP 5 0 rfl rfl hi dX4_passLayer_80 ?_
      refine lv_aload_n hx hb dX4_passLayer_81 rfl (lv_at hl 4 rfl) ?_
      refine lv_iload hx hb dX4_passLayer_82 (lv_at hl 1 rfl) ?_
      refine lv_bipush (v := 31) hx hb dX4_passLayer_84 (by decide) ?_
      refine lv_isub hx hb dX4_passLayer_86 ?_
      refine lv_iconst (v := 1) hx hb dX4_passLayer_87 (by decide) ?_
      refine lv_isub hx hb dX4_passLayer_88 ?_
      obtain ⟨hi, hw⟩ := hw
      refine va_iald hx hb hK hP 5 0 rfl rfl hi dX4_passLayer_89 ?_
      refine va_mmin hx hb (hml.trans hl.1.symm) hown (hts (.methodLink RX4 78 Lib.Math.min.name) (List.mem_of_getElem? (i := 10) rfl)) (hts (.static Lib.Math.min.name) (List.mem_of_getElem? (i := 11) rfl)) (hts (.initialized "java/lang/Math") (List.mem_of_getElem? (i := 8) rfl)) (hts (.code Lib.Math.min.name Lib.Math.min.code 2 (some .int)) (List.mem_of_getElem? (i := 12) rfl)) (Nat.le_of_ble_eq_true rfl) (Nat.le_of_ble_eq_true rfl) (by decide) (by decide) dX4_passLayer_90 ?_
      refine va_mmin hx hb (hml.trans hl.1.symm) hown (hts (.methodLink RX4 78 Lib.Math.min.name) (List.mem_of_getElem? (i := 10) rfl)) (hts (.static Lib.Math.min.name) (List.mem_of_getElem? (i := 11) rfl)) (hts (.initialized "java/lang/Math") (List.mem_of_getElem? (i := 8) rfl)) (hts (.code Lib.Math.min.name Lib.Math.min.code 2 (some .int)) (List.mem_of_getElem? (i := 12) rfl)) (Nat.le_of_ble_eq_true rfl) (Nat.le_of_ble_eq_true rfl) (by decide) (by decide) dX4_passLayer_93 ?_
      refine lv_topi (fun v4 ev4 => ?_)
      have hw := hw v4 ev4
      refine lv_istore (lv' := [(7, .int v4), (6, .int v3), (5, .int v2), (0, .ref a0), (1, .ref a4), (2, .ref a5), (3, .int x3), (4, .int x4)]) hx hb dX4_passLayer_96 hl (by decide) rfl (fun ls hl => ?_)
      refine lv_aload_n hx hb dX4_passLayer_98 rfl (lv_at hl 4 rfl) ?_
      refine lv_iload hx hb dX4_passLayer_99 (lv_at hl 2 rfl) ?_
      obtain ⟨hi, hw⟩ := hw
      refine va_iald hx hb hK hP 4 0 rfl rfl hi dX4_passLayer_101 ?_
      refine lv_aload_n hx hb dX4_passLayer_102 rfl (lv_at hl 4 rfl) ?_
      refine lv_iload hx hb dX4_passLayer_103 (lv_at hl 2 rfl) ?_
      refine lv_iconst (v := 1) hx hb dX4_passLayer_105 (by decide) ?_
      refine lv_isub hx hb dX4_passLayer_106 ?_
      obtain ⟨hi, hw⟩ := hw
      refine va_iald hx hb hK hP 4 0 rfl rfl hi dX4_passLayer_107 ?_
      refine va_mmin hx hb (hml.trans hl.1.symm) hown (hts (.methodLink RX4 78 Lib.Math.min.name) (List.mem_of_getElem? (i := 10) rfl)) (hts (.static Lib.Math.min.name) (List.mem_of_getElem? (i := 11) rfl)) (hts (.initialized "java/lang/Math") (List.mem_of_getElem? (i := 8) rfl)) (hts (.code Lib.Math.min.name Lib.Math.min.code 2 (some .int)) (List.mem_of_getElem? (i := 12) rfl)) (Nat.le_of_ble_eq_true rfl) (Nat.le_of_ble_eq_true rfl) (by decide) (by decide) dX4_passLayer_108 ?_
      refine lv_aload_n hx hb dX4_passLayer_111 rfl (lv_at hl 4 rfl) ?_
      refine lv_iload hx hb dX4_passLayer_112 (lv_at hl 2 rfl) ?_
      refine lv_bipush (v := 31) hx hb dX4_passLayer_114 (by decide) ?_
      refine lv_isub hx hb dX4_passLayer_116 ?_
      obtain ⟨hi, hw⟩ := hw
      refine va_iald hx hb hK hP 4 0 rfl rfl hi dX4_passLayer_117 ?_
      refine lv_aload_n hx hb dX4_passLayer_118 rfl (lv_at hl 4 rfl) ?_
      refine lv_iload hx hb dX4_passLayer_119 (lv_at hl 2 rfl) ?_
      refine lv_bipush (v := 31) hx hb dX4_passLayer_121 (by decide) ?_
      refine lv_isub hx hb dX4_passLayer_123 ?_
      refine lv_iconst (v := 1) hx hb dX4_passLayer_124 (by decide) ?_
      refine lv_isub hx hb dX4_passLayer_125 ?_
      obtain ⟨hi, hw⟩ := hw
      refine va_iald hx hb hK hP 4 0 rfl rfl hi dX4_passLayer_126 ?_
      refine va_mmin hx hb (hml.trans hl.1.symm) hown (hts (.methodLink RX4 78 Lib.Math.min.name) (List.mem_of_getElem? (i := 10) rfl)) (hts (.static Lib.Math.min.name) (List.mem_of_getElem? (i := 11) rfl)) (hts (.initialized "java/lang/Math") (List.mem_of_getElem? (i := 8) rfl)) (hts (.code Lib.Math.min.name Lib.Math.min.code 2 (some .int)) (List.mem_of_getElem? (i := 12) rfl)) (Nat.le_of_ble_eq_true rfl) (Nat.le_of_ble_eq_true rfl) (by decide) (by decide) dX4_passLayer_127 ?_
      refine va_mmin hx hb (hml.trans hl.1.symm) hown (hts (.methodLink RX4 78 Lib.Math.min.name) (List.mem_of_getElem? (i := 10) rfl)) (hts (.static Lib.Math.min.name) (List.mem_of_getElem? (i := 11) rfl)) (hts (.initialized "java/lang/Math") (List.mem_of_getElem? (i := 8) rfl)) (hts (.code Lib.Math.min.name Lib.Math.min.code 2 (some .int)) (List.mem_of_getElem? (i := 12) rfl)) (Nat.le_of_ble_eq_true rfl) (Nat.le_of_ble_eq_true rfl) (by decide) (by decide) dX4_passLayer_130 ?_
      refine lv_topi (fun v5 ev5 => ?_)
      have hw := hw v5 ev5
      refine lv_istore (lv' := [(8, .int v5), (7, .int v4), (6, .int v3), (5, .int v2), (0, .ref a0), (1, .ref a4), (2, .ref a5), (3, .int x3), (4, .int x4)]) hx hb dX4_passLayer_133 hl (by decide) rfl (fun ls hl => ?_)
      refine lv_aload_n hx hb dX4_passLayer_135 rfl (lv_at hl 6 rfl) ?_
      refine lv_iload hx hb dX4_passLayer_136 (lv_at hl 3 rfl) ?_
      refine lv_iload hx hb dX4_passLayer_138 (lv_at hl 2 rfl) ?_
      refine lv_iload hx hb dX4_passLayer_140 (lv_at hl 1 rfl) ?_
      refine lv_iload hx hb dX4_passLayer_142 (lv_at hl 0 rfl) ?_
      refine va_mmin hx hb (hml.trans hl.1.symm) hown (hts (.methodLink RX4 78 Lib.Math.min.name) (List.mem_of_getElem? (i := 10) rfl)) (hts (.static Lib.Math.min.name) (List.mem_of_getElem? (i := 11) rfl)) (hts (.initialized "java/lang/Math") (List.mem_of_getElem? (i := 8) rfl)) (hts (.code Lib.Math.min.name Lib.Math.min.code 2 (some .int)) (List.mem_of_getElem? (i := 12) rfl)) (Nat.le_of_ble_eq_true rfl) (Nat.le_of_ble_eq_true rfl) (by decide) (by decide) dX4_passLayer_144 ?_
      refine va_mmax hx hb (hml.trans hl.1.symm) hown (hts (.methodLink RX4 72 Lib.Math.max.name) (List.mem_of_getElem? (i := 6) rfl)) (hts (.static Lib.Math.max.name) (List.mem_of_getElem? (i := 7) rfl)) (hts (.initialized "java/lang/Math") (List.mem_of_getElem? (i := 8) rfl)) (hts (.code Lib.Math.max.name Lib.Math.max.code 2 (some .int)) (List.mem_of_getElem? (i := 9) rfl)) (Nat.le_of_ble_eq_true rfl) (Nat.le_of_ble_eq_true rfl) (by decide) (by decide) dX4_passLayer_147 ?_
      obtain ⟨hi, hw⟩ := hw
      refine va_iast hx hb hK hP hD hS 5 0 rfl rfl hi dX4_passLayer_150 (fun H locs hP hD hS => ?_)
      have hP : va_P (dC, dI) vwCl (ceX4_passLayer cyI cyB cyJ cyZ a0 a1 a2 a3 a4 a5 b0_evenLayer b0_oddLayer n4 n5 g0_ones g0_others f1 f2 f3 f4 (upd f5 v2.toNatClampNeg (iMax v3 (iMin v4 v5)))) H := hP
      have hD : va_D A (ceX4_passLayer cyI cyB cyJ cyZ a0 a1 a2 a3 a4 a5 b0_evenLayer b0_oddLayer n4 n5 g0_ones g0_others f1 f2 f3 f4 (upd f5 v2.toNatClampNeg (iMax v3 (iMin v4 v5)))) := hD
      obtain ⟨v6, ev6⟩ : ∃ y : Int32, y = x4 + 1 := ⟨_, rfl⟩
      have hw := hw v6 ev6
      refine lv_iinc (v := v6) (lv' := [(4, .int v6), (8, .int v5), (7, .int v4), (6, .int v3), (5, .int v2), (0, .ref a0), (1, .ref a4), (2, .ref a5), (3, .int x3)]) hx hb dX4_passLayer_151 hl (k := 8) rfl (by rw [ev6]; rfl) (by decide) rfl (fun ls hl => ?_)
      refine lv_goto (tgt := 13) hx hb dX4_passLayer_154 (by decide) ?_
      exact ih (upd f5 v2.toNatClampNeg (iMax v3 (iMin v4 v5))) x3 v6 hw H locs hP hD hS ls (lv_sub hl [5, 6, 7, 8, 0] rfl)
set_option maxRecDepth 100000 in
set_option maxHeartbeats 4000000 in
theorem bX4_passLayer_2 {p : Program} {l : Launch} {e : Env} {s : State} {m : MethodId} {args : Array Value} {below : List Frame} {meth : Method} {c : Code} {dC : Nat → ClassId} {dI : Nat → Nat → Nat} {cyI cyB cyJ cyZ : ClassId} {A : Nat → Prop} {a0 a1 a2 a3 a4 a5 b0_evenLayer b0_oddLayer n4 n5 : Nat} (C0 : cxM p s m meth c args wsX4_passLayer RX4 cX4_passLayer 9 none) (hK : va_K (dC, dI) vwCl (tyA cyI cyB cyJ cyZ) s) (hN : nwA s) (hA : ∀ q : Nat, s.heap.size ≤ q → A q) {post : ((Nat → Int32)) → Prop} {g0_ones : Int32} {g0_others : Int32} {f1 : Nat → Int32} {f2 : Nat → Int32} {f3 : Nat → Int32} {f4 : Nat → Int32} {Q : State → Prop} (hQ : Q = MQ below (va_Qv post (fun u : (Nat → Int32) => wAt dC dI cyI cyB cyJ cyZ A (ceX4_passLayer cyI cyB cyJ cyZ a0 a1 a2 a3 a4 a5 b0_evenLayer b0_oddLayer n4 n5 g0_ones g0_others f1 f2 f3 f4 u)) A) args s 0 0 A) : ∀ (n : Nat) (f5 : Nat → Int32) (x3 : Int32), wpX4_passLayer_2 n4 n5 post g0_ones g0_others f1 f2 f3 f4 n f5 x3 → AtW p l e rmX4_passLayer s m args below meth c dC dI A Q 9 0 0 (ceX4_passLayer cyI cyB cyJ cyZ a0 a1 a2 a3 a4 a5 b0_evenLayer b0_oddLayer n4 n5 g0_ones g0_others f1 f2 f3 f4 f5) [(0, .ref a0), (1, .ref a4), (2, .ref a5), (3, .int x3)] 2 [] := by
  intro n
  induction n with
  | zero => intro f5 x3 hw; exact False.elim hw
  | succ n ih =>
    intro f5 x3 hw H locs hP hD hS ls hl
    have C1 := C0
    obtain ⟨hx, hb, hr, hml, hown, hts, hlocks⟩ := C1
    refine lv_iload_n hx hb dX4_passLayer_2 rfl (lv_at hl 3 rfl) ?_
    refine lv_aload_n hx hb dX4_passLayer_3 rfl (lv_at hl 0 rfl) ?_
    refine va_get (D := (dC, dI)) (ci := 4) (v := .int g0_ones) (C := RX4) (T := TX4) (N := 7) hx hb hts inX4_passLayer_X4 hown hK hP 0 rfl rfl 5 (by decide) (hts (.fieldLink RX4 27 "LeadPark$Pack" "ones" "I") (List.mem_of_getElem? (i := 1) rfl)) (fun _ h9 => h9) rfl dX4_passLayer_4 ?_
    refine lv_icmp_ge (tgt := 163) hx hb dX4_passLayer_7 (by decide) (fun hc => ?_) (fun hc => ?_)
    · have hw := hw.1 hc
      rw [hQ]
      exact W.vret hx hb hr (fun t ht hW => ⟨⟨(f5), rfl, hw, by rw [ht]; exact hP, va_K.moved hW.alike hK, hD⟩, hS.F ht⟩) hS.2.2 dX4_passLayer_163
    · have hw := hw.2 hc
      refine lv_iconst (v := 0) hx hb dX4_passLayer_10 (by decide) ?_
      refine lv_istore (lv' := [(4, .int 0), (0, .ref a0), (1, .ref a4), (2, .ref a5), (3, .int x3)]) hx hb dX4_passLayer_11 hl (by decide) rfl (fun ls hl => ?_)
      obtain ⟨nn, hw⟩ := hw
      exact bX4_passLayer_13 C0 hK hN hA hQ ih nn f5 x3 0 hw _ _ hP hD hS ls (lv_sub hl [1, 2, 3, 4, 0] rfl)
set_option maxRecDepth 100000 in
set_option maxHeartbeats 4000000 in
theorem ctX4_passLayer (l : Launch) (dC : Nat → ClassId) (dI : Nat → Nat → Nat) (cyI cyB cyJ cyZ : ClassId) (sz : Nat) (a0 a1 a2 a3 a4 a5 b0_evenLayer b0_oddLayer n4 n5 : Nat) (g0_ones : Int32) (g0_others : Int32) (f1 : Nat → Int32) (f2 : Nat → Int32) (f3 : Nat → Int32) (f4 : Nat → Int32) (f5 : Nat → Int32) (post : ((Nat → Int32)) → Prop) (hw : wpX4_passLayer n4 n5 post g0_ones g0_others f1 f2 f3 f4 f5 ) : Met l yX4_passLayer wsX4_passLayer rmX4_passLayer (va_Pc [.ref a0, .ref a4, .ref a5] (wPre dC dI cyI cyB cyJ cyZ sz (ceX4_passLayer cyI cyB cyJ cyZ a0 a1 a2 a3 a4 a5 b0_evenLayer b0_oddLayer n4 n5 g0_ones g0_others f1 f2 f3 f4 f5))) (va_Qv post (fun u : (Nat → Int32) => wAt dC dI cyI cyB cyJ cyZ (va_A (ceX4_passLayer cyI cyB cyJ cyZ a0 a1 a2 a3 a4 a5 b0_evenLayer b0_oddLayer n4 n5 g0_ones g0_others f1 f2 f3 f4 f5) sz) (ceX4_passLayer cyI cyB cyJ cyZ a0 a1 a2 a3 a4 a5 b0_evenLayer b0_oddLayer n4 n5 g0_ones g0_others f1 f2 f3 f4 u)) (va_A (ceX4_passLayer cyI cyB cyJ cyZ a0 a1 a2 a3 a4 a5 b0_evenLayer b0_oddLayer n4 n5 g0_ones g0_others f1 f2 f3 f4 f5) sz)) 0 0 (va_A (ceX4_passLayer cyI cyB cyJ cyZ a0 a1 a2 a3 a4 a5 b0_evenLayer b0_oddLayer n4 n5 g0_ones g0_others f1 f2 f3 f4 f5) sz) := by
  refine Met.ofW (cc := cX4_passLayer) (maxL := 9) (ret := none) (by decide) rfl ?_
  intro p e s m args below meth c s₁ B hml hv
  obtain ⟨rfl, hsz, hP, hK, hD0, hN⟩ := hv
  have hx := B.exec
  have hb := B.bytes
  have hr := B.returns
  have hts := atoms_spec (ws := wsX4_passLayer) B.pre
  have hown : s.vm.findClass RX4 = some m.cls := findClass_of_methodNamed B.named
  have hlocks := B.notSynchronized
  subst hsz
  have hD := hD0.self (sz := s.heap.size)
  generalize hAe : va_A (ceX4_passLayer cyI cyB cyJ cyZ a0 a1 a2 a3 a4 a5 b0_evenLayer b0_oddLayer n4 n5 g0_ones g0_others f1 f2 f3 f4 f5) s.heap.size = A at hD ⊢
  have hA : ∀ q : Nat, s.heap.size ≤ q → A q := fun q h => by rw [← hAe]; exact Or.inr h
  have hS : va_S A s.heap s.heap [] := va_S.rf
  have C0 : cxM p s m meth c _ wsX4_passLayer RX4 cX4_passLayer 9 none := ⟨hx, hb, hr, hml, hown, hts, hlocks⟩
  have hl := lv_entry ([.ref a0, .ref a4, .ref a5]) (n := 9) (Nat.le_of_ble_eq_true rfl)
  rw [lg_entry_eq]
  generalize (lg_sl ([.ref a0, .ref a4, .ref a5]) ++ List.replicate (9 - (lg_sl ([.ref a0, .ref a4, .ref a5])).length) Slot.unset).toArray = ls at hl ⊢
  have hl : lv_has ls 9 [(0, .ref a0), (1, .ref a4), (2, .ref a5)] := hl
  show W p l e rmX4_passLayer s m _ below meth c _ _ _ _ _ _
  refine wq (fun Q hQ => ?_)
  refine lv_iconst (v := 0) hx hb dX4_passLayer_0 (by decide) ?_
  refine lv_istore_n (lv' := [(3, .int 0), (0, .ref a0), (1, .ref a4), (2, .ref a5)]) hx hb dX4_passLayer_1 rfl hl (by decide) rfl (fun ls hl => ?_)
  obtain ⟨nn, hw⟩ := hw
  exact bX4_passLayer_2 C0 hK hN hA hQ nn f5 0 hw _ _ hP hD hS ls (lv_sub hl [1, 2, 3, 0] rfl)
/-! LeadPark$Pack.leastLead (LLeadPark$Scene;IIIZ)I -/
abbrev ceX4_leastLead (cyI cyB cyJ cyZ : ClassId) (a0 a1 a2 a3 a4 a5 a6 a7 a8 a9 a10 a11 a12 a13 a14 b6_marks b6_stroll : Nat) (g6_drawSeed : Int32) (g7_ways : Int32) (g7_texts : Int32) (g12_lines : Int32) (g7_wallCount : Int32) (f8 : Nat → Int32) (f9 : Nat → Int32) (f10 : Nat → Int32) (f11 : Nat → Int32) (g12_size : Int32) (f14 : Nat → Int32) (g0_ones : Int32) (g0_others : Int32) (f1 : Nat → Int32) (f2 : Nat → Int32) (f3 : Nat → Int32) (f4 : Nat → Int32) (f5 : Nat → Int32) (f13 : Nat → Int32) : va_W := [(a0, .inr (4, [.ref a4, .ref a5, .ref a1, .ref a2, .ref a3, .int g0_ones, .int g0_others])), (a1, .inl (cyI, 900, .inl f1)), (a2, .inl (cyI, 961, .inl f2)), (a3, .inl (cyI, 961, .inl f3)), (a4, .inl (cyI, 30, .inl f4)), (a5, .inl (cyI, 30, .inl f5)), (a6, .inr (6, [.ref a7, .ref a12, .ref b6_marks, .ref b6_stroll, .int g6_drawSeed])), (a7, .inr (1, [.ref a9, .ref a10, .ref a8, .ref a11, .int g7_ways, .int g7_wallCount, .int g7_texts])), (a8, .inl (cyI, 12, .inl f8)), (a9, .inl (cyI, 360, .inl f9)), (a10, .inl (cyI, 360, .inl f10)), (a11, .inl (cyI, 32, .inl f11)), (a12, .inr (2, [.ref a14, .ref a13, .int g12_size, .int g12_lines])), (a13, .inl (cyI, 7, .inl f13)), (a14, .inl (cyI, 400, .inl f14))]

theorem inX4_leastLead_X1 : ∀ w ∈ wsX10, w ∈ wsX4_leastLead := fun _ h => List.mem_cons_of_mem _ (List.mem_append_left _ (List.mem_append_left _ (List.mem_append_right _ h)))
theorem inX4_leastLead_X4 : ∀ w ∈ wsX40, w ∈ wsX4_leastLead := fun _ h => List.mem_cons_of_mem _ (List.mem_append_left _ (List.mem_append_right _ h))
theorem inX4_leastLead_X6 : ∀ w ∈ wsX60, w ∈ wsX4_leastLead := fun _ h => List.mem_cons_of_mem _ (List.mem_append_left _ (List.mem_append_left _ (List.mem_append_left _ (List.mem_append_right _ h))))
abbrev rmX4_leastLead : Room := { frames := 5, cells := 0, slots := 0, locals := 155 }
set_option maxRecDepth 100000 in
set_option maxHeartbeats 4000000 in
theorem bX4_leastLead_78 {p : Program} {l : Launch} {e : Env} {s : State} {m : MethodId} {args : Array Value} {below : List Frame} {meth : Method} {c : Code} {dC : Nat → ClassId} {dI : Nat → Nat → Nat} {cyI cyB cyJ cyZ : ClassId} {A : Nat → Prop} {a0 a1 a2 a3 a4 a5 a6 a7 a8 a9 a10 a11 a12 a13 a14 b6_marks b6_stroll : Nat} {g6_drawSeed : Int32} {g7_ways : Int32} {g7_texts : Int32} {g12_lines : Int32} (C0 : cxM p s m meth c args wsX4_leastLead RX4 cX4_leastLead 10 (some .int)) (hK : va_K (dC, dI) vwCl (tyA cyI cyB cyJ cyZ) s) (hN : nwA s) (hA : ∀ q : Nat, s.heap.size ≤ q → A q) {post : Int32 → (Int32 × Int32 × (Nat → Int32) × (Nat → Int32) × (Nat → Int32) × (Nat → Int32) × (Nat → Int32) × (Nat → Int32)) → Prop} {g7_wallCount : Int32} {f8 : Nat → Int32} {f9 : Nat → Int32} {f10 : Nat → Int32} {f11 : Nat → Int32} {g12_size : Int32} {f14 : Nat → Int32} {Q : State → Prop} (hQ : Q = MQ below (va_Qi post (fun u : Int32 × Int32 × (Nat → Int32) × (Nat → Int32) × (Nat → Int32) × (Nat → Int32) × (Nat → Int32) × (Nat → Int32) => wAt dC dI cyI cyB cyJ cyZ A (ceX4_leastLead cyI cyB cyJ cyZ a0 a1 a2 a3 a4 a5 a6 a7 a8 a9 a10 a11 a12 a13 a14 b6_marks b6_stroll g6_drawSeed g7_ways g7_texts g12_lines g7_wallCount f8 f9 f10 f11 g12_size f14 u.1 u.2.1 u.2.2.1 u.2.2.2.1 u.2.2.2.2.1 u.2.2.2.2.2.1 u.2.2.2.2.2.2.1 u.2.2.2.2.2.2.2)) A) args s 0 0 A) : ∀ (n : Nat) (g0_ones : Int32) (g0_others : Int32) (f1 : Nat → Int32) (f2 : Nat → Int32) (f3 : Nat → Int32) (f4 : Nat → Int32) (f5 : Nat → Int32) (f13 : Nat → Int32) (x2 : Int32) (x3 : Int32) (x4 : Int32) (x5 : Int32) (x8 : Int32), wpX4_leastLead_78 post g7_wallCount f8 f9 f10 f11 g12_size f14 n g0_ones g0_others f1 f2 f3 f4 f5 f13 x2 x3 x4 x5 x8 → AtW p l e rmX4_leastLead s m args below meth c dC dI A Q 10 0 0 (ceX4_leastLead cyI cyB cyJ cyZ a0 a1 a2 a3 a4 a5 a6 a7 a8 a9 a10 a11 a12 a13 a14 b6_marks b6_stroll g6_drawSeed g7_ways g7_texts g12_lines g7_wallCount f8 f9 f10 f11 g12_size f14 g0_ones g0_others f1 f2 f3 f4 f5 f13) [(0, .ref a0), (1, .ref a6), (2, .int x2), (3, .int x3), (4, .int x4), (5, .int x5), (6, .ref a2), (7, .ref a3), (8, .int x8)] 78 [] := by
  intro n
  induction n with
  | zero => intro g0_ones g0_others f1 f2 f3 f4 f5 f13 x2 x3 x4 x5 x8 hw; exact False.elim hw
  | succ n ih =>
    intro g0_ones g0_others f1 f2 f3 f4 f5 f13 x2 x3 x4 x5 x8 hw H locs hP hD hS ls hl
    have C1 := C0
    obtain ⟨hx, hb, hr, hml, hown, hts, hlocks⟩ := C1
    refine lv_iload hx hb dX4_leastLead_78 (lv_at hl 8 rfl) ?_
    refine lv_aload_n hx hb dX4_leastLead_80 rfl (lv_at hl 1 rfl) ?_
    refine va_getN (D := (dC, dI)) (ci := 6) (v := .ref a7) (C := RX6) (T := TX6) (N := 5) hx hb hts inX4_leastLead_X6 hown hK hP 6 rfl rfl 0 (by decide) (va_Nw.use rfl (hN _ (List.mem_of_getElem? (i := 27) rfl))) (fun _ h9 => h9) rfl dX4_leastLead_81 ?_
    refine va_getN (D := (dC, dI)) (ci := 1) (v := .ref a8) (C := RX1) (T := TX1) (N := 7) hx hb hts inX4_leastLead_X1 hown hK hP 7 rfl rfl 2 (by decide) (va_Nw.use rfl (hN _ (List.mem_of_getElem? (i := 5) rfl))) (fun _ h9 => h9) rfl dX4_leastLead_84 ?_
    refine lv_iload_n hx hb dX4_leastLead_87 rfl (lv_at hl 2 rfl) ?_
    obtain ⟨hi, hw⟩ := hw
    refine va_iald hx hb hK hP 8 0 rfl rfl hi dX4_leastLead_88 ?_
    refine lv_icmp_ge (tgt := 153) hx hb dX4_leastLead_89 (by decide) (fun hc => ?_) (fun hc => ?_)
    · have hw := hw.1 hc
      refine lv_aload hx hb dX4_leastLead_153 (lv_at hl 7 rfl) ?_
      refine lv_aload_n hx hb dX4_leastLead_155 rfl (lv_at hl 0 rfl) ?_
      refine va_get (D := (dC, dI)) (ci := 4) (v := .int g0_ones) (C := RX4) (T := TX4) (N := 7) hx hb hts inX4_leastLead_X4 hown hK hP 0 rfl rfl 5 (by decide) (hts (.fieldLink RX4 27 "LeadPark$Pack" "ones" "I") (List.mem_of_getElem? (i := 1) rfl)) (fun _ h9 => h9) rfl dX4_leastLead_156 ?_
      refine lv_bipush (v := 31) hx hb dX4_leastLead_159 (by decide) ?_
      refine lv_imul hx hb dX4_leastLead_161 ?_
      refine lv_aload_n hx hb dX4_leastLead_162 rfl (lv_at hl 0 rfl) ?_
      refine va_get (D := (dC, dI)) (ci := 4) (v := .int g0_others) (C := RX4) (T := TX4) (N := 7) hx hb hts inX4_leastLead_X4 hown hK hP 0 rfl rfl 6 (by decide) (hts (.fieldLink RX4 31 "LeadPark$Pack" "others" "I") (List.mem_of_getElem? (i := 2) rfl)) (fun _ h9 => h9) rfl dX4_leastLead_163 ?_
      refine lv_iadd hx hb dX4_leastLead_166 ?_
      obtain ⟨hi, hw⟩ := hw
      refine va_iald hx hb hK hP 3 0 rfl rfl hi dX4_leastLead_167 ?_
      rw [hQ]
      exact W.iret (v := f3 ((g0_ones * 31) + g0_others).toNatClampNeg) hx hb hr (fun t ht hW => ⟨⟨f3 ((g0_ones * 31) + g0_others).toNatClampNeg, (g0_ones, g0_others, f1, f2, f3, f4, f5, f13), rfl, hw, by rw [ht]; exact hP, va_K.moved hW.alike hK, hD⟩, hS.F ht⟩) hS.2.2 dX4_leastLead_168
    · have hw := hw.2 hc
      refine lv_aload_n hx hb dX4_leastLead_92 rfl (lv_at hl 1 rfl) ?_
      refine lv_iload_n hx hb dX4_leastLead_93 rfl (lv_at hl 2 rfl) ?_
      refine lv_iload hx hb dX4_leastLead_94 (lv_at hl 8 rfl) ?_
      refine lv_iload_n hx hb dX4_leastLead_96 rfl (lv_at hl 3 rfl) ?_
      refine lv_aload_n hx hb dX4_leastLead_97 rfl (lv_at hl 0 rfl) ?_
      refine va_get (D := (dC, dI)) (ci := 4) (v := .ref a4) (C := RX4) (T := TX4) (N := 7) hx hb hts inX4_leastLead_X4 hown hK hP 0 rfl rfl 0 (by decide) (hts (.fieldLink RX4 9 "LeadPark$Pack" "toOne" "[I") (List.mem_of_getElem? (i := 6) rfl)) (fun _ h9 => h9) rfl dX4_leastLead_98 ?_
      refine lv_iload hx hb dX4_leastLead_101 (lv_at hl 5 rfl) ?_
      have hPc := hP.sub (ws' := (ceX4_measure cyI cyB cyJ cyZ a6 a7 a8 a9 a10 a11 a12 a13 a14 a4 b6_marks b6_stroll 30 g6_drawSeed g7_ways g7_texts g12_lines g7_wallCount f8 f9 f10 f11 g12_size f14 f13 f4)) [6, 7, 8, 9, 10, 11, 12, 13, 14, 4] rfl
      have hDc := hD.sub (ws' := (ceX4_measure cyI cyB cyJ cyZ a6 a7 a8 a9 a10 a11 a12 a13 a14 a4 b6_marks b6_stroll 30 g6_drawSeed g7_ways g7_texts g12_lines g7_wallCount f8 f9 f10 f11 g12_size f14 f13 f4)) [6, 7, 8, 9, 10, 11, 12, 13, 14, 4] (by decide) rfl
      have hFc := va_free (wc := (ceX4_measure cyI cyB cyJ cyZ a6 a7 a8 a9 a10 a11 a12 a13 a14 a4 b6_marks b6_stroll 30 g6_drawSeed g7_ways g7_texts g12_lines g7_wallCount f8 f9 f10 f11 g12_size f14 f13 f4)) hD hS hA [6, 7, 8, 9, 10, 11, 12, 13, 14, 4] rfl
      refine va_callv (va_runS (As := [.ref a6, .int x2, .int x8, .int x3, .ref a4, .int x5]) (rest := []) ⟨hx, hb, hml, hown, hts⟩ (ctX4_measure l dC dI cyI cyB cyJ cyZ _ a6 a7 a8 a9 a10 a11 a12 a13 a14 a4 b6_marks b6_stroll 30 g6_drawSeed g7_ways g7_texts g12_lines g7_wallCount f8 f9 f10 f11 g12_size f14 f13 f4 x2 x8 x3 x5 _ hw) (va_cwS 6 hts gX4_leastLead_X4_measure rfl rfl rfl (by decide +kernel) ⟨Nat.le_of_ble_eq_true rfl, Nat.le_of_ble_eq_true rfl⟩) ⟨wPre_blind, fun U hU hW => wPre_of hPc hK hDc hN hU hW⟩ rfl rfl hl.1 rfl (lv_room (Nat.le_of_ble_eq_true rfl)) dX4_leastLead_103 ⟨(Nat.zero_le _), (Nat.zero_le _)⟩) hS (fun q _ h => hFc q h) hFc (fun u1 t H1 locs ht hvm hw hB hz1 hk1 hS => ?_)
      obtain ⟨hP1, hK1, hD1⟩ := hB
      rw [ht] at hP1
      obtain ⟨hP, hD⟩ := va_join (wr := pickW (ceX4_leastLead cyI cyB cyJ cyZ a0 a1 a2 a3 a4 a5 a6 a7 a8 a9 a10 a11 a12 a13 a14 b6_marks b6_stroll g6_drawSeed g7_ways g7_texts g12_lines g7_wallCount f8 f9 f10 f11 g12_size f14 g0_ones g0_others f1 f2 f3 f4 f5 f13) [0, 1, 2, 3, 5]) (w1 := (ceX4_measure cyI cyB cyJ cyZ a6 a7 a8 a9 a10 a11 a12 a13 a14 a4 b6_marks b6_stroll 30 g6_drawSeed g7_ways g7_texts g12_lines g7_wallCount f8 f9 f10 f11 g12_size f14 u1.1 u1.2)) hP hD [6, 7, 8, 9, 10, 11, 12, 13, 14, 4] [0, 1, 2, 3, 5] rfl rfl (by decide) (by decide) hk1 hFc hP1 hD1
      have hP := hP.sub (ws' := (ceX4_leastLead cyI cyB cyJ cyZ a0 a1 a2 a3 a4 a5 a6 a7 a8 a9 a10 a11 a12 a13 a14 b6_marks b6_stroll g6_drawSeed g7_ways g7_texts g12_lines g7_wallCount f8 f9 f10 f11 g12_size f14 g0_ones g0_others f1 f2 f3 u1.2 f5 u1.1)) [0, 1, 2, 3, 14, 4, 5, 6, 7, 8, 9, 10, 11, 12, 13] rfl
      have hD := hD.sub (ws' := (ceX4_leastLead cyI cyB cyJ cyZ a0 a1 a2 a3 a4 a5 a6 a7 a8 a9 a10 a11 a12 a13 a14 b6_marks b6_stroll g6_drawSeed g7_ways g7_texts g12_lines g7_wallCount f8 f9 f10 f11 g12_size f14 g0_ones g0_others f1 f2 f3 u1.2 f5 u1.1)) [0, 1, 2, 3, 14, 4, 5, 6, 7, 8, 9, 10, 11, 12, 13] (by decide) rfl
      generalize H1 = H at hP hS ⊢
      refine lv_aload_n hx hb dX4_leastLead_106 rfl (lv_at hl 1 rfl) ?_
      refine lv_iload_n hx hb dX4_leastLead_107 rfl (lv_at hl 2 rfl) ?_
      refine lv_iload hx hb dX4_leastLead_108 (lv_at hl 8 rfl) ?_
      refine lv_iload hx hb dX4_leastLead_110 (lv_at hl 4 rfl) ?_
      refine lv_aload_n hx hb dX4_leastLead_112 rfl (lv_at hl 0 rfl) ?_
      refine va_get (D := (dC, dI)) (ci := 4) (v := .ref a5) (C := RX4) (T := TX4) (N := 7) hx hb hts inX4_leastLead_X4 hown hK hP 0 rfl rfl 1 (by decide) (hts (.fieldLink RX4 15 "LeadPark$Pack" "toOther" "[I") (List.mem_of_getElem? (i := 7) rfl)) (fun _ h9 => h9) rfl dX4_leastLead_113 ?_
      refine lv_iload hx hb dX4_leastLead_116 (lv_at hl 5 rfl) ?_
      have hPc := hP.sub (ws' := (ceX4_measure cyI cyB cyJ cyZ a6 a7 a8 a9 a10 a11 a12 a13 a14 a5 b6_marks b6_stroll 30 g6_drawSeed g7_ways g7_texts g12_lines g7_wallCount f8 f9 f10 f11 g12_size f14 u1.1 f5)) [6, 7, 8, 9, 10, 11, 12, 13, 14, 5] rfl
      have hDc := hD.sub (ws' := (ceX4_measure cyI cyB cyJ cyZ a6 a7 a8 a9 a10 a11 a12 a13 a14 a5 b6_marks b6_stroll 30 g6_drawSeed g7_ways g7_texts g12_lines g7_wallCount f8 f9 f10 f11 g12_size f14 u1.1 f5)) [6, 7, 8, 9, 10, 11, 12, 13, 14, 5] (by decide) rfl
      have hFc := va_free (wc := (ceX4_measure cyI cyB cyJ cyZ a6 a7 a8 a9 a10 a11 a12 a13 a14 a5 b6_marks b6_stroll 30 g6_drawSeed g7_ways g7_texts g12_lines g7_wallCount f8 f9 f10 f11 g12_size f14 u1.1 f5)) hD hS hA [6, 7, 8, 9, 10, 11, 12, 13, 14, 5] rfl
      refine va_callv (va_runS (As := [.ref a6, .int x2, .int x8, .int x4, .ref a5, .int x5]) (rest := []) ⟨hx, hb, hml, hown, hts⟩ (ctX4_measure l dC dI cyI cyB cyJ cyZ _ a6 a7 a8 a9 a10 a11 a12 a13 a14 a5 b6_marks b6_stroll 30 g6_drawSeed g7_ways g7_texts g12_lines g7_wallCount f8 f9 f10 f11 g12_size f14 u1.1 f5 x2 x8 x4 x5 _ hw) (va_cwS 6 hts gX4_leastLead_X4_measure rfl rfl rfl (by decide +kernel) ⟨Nat.le_of_ble_eq_true rfl, Nat.le_of_ble_eq_true rfl⟩) ⟨wPre_blind, fun U hU hW => wPre_of hPc hK hDc hN hU hW⟩ rfl rfl hl.1 rfl (lv_room (Nat.le_of_ble_eq_true rfl)) dX4_leastLead_118 ⟨(Nat.zero_le _), (Nat.zero_le _)⟩) hS (fun q _ h => hFc q h) hFc (fun u2 t H1 locs ht hvm hw hB hz1 hk1 hS => ?_)
      obtain ⟨hP1, hK1, hD1⟩ := hB
      rw [ht] at hP1
      obtain ⟨hP, hD⟩ := va_join (wr := pickW (ceX4_leastLead cyI cyB cyJ cyZ a0 a1 a2 a3 a4 a5 a6 a7 a8 a9 a10 a11 a12 a13 a14 b6_marks b6_stroll g6_drawSeed g7_ways g7_texts g12_lines g7_wallCount f8 f9 f10 f11 g12_size f14 g0_ones g0_others f1 f2 f3 u1.2 f5 u1.1) [0, 1, 2, 3, 4]) (w1 := (ceX4_measure cyI cyB cyJ cyZ a6 a7 a8 a9 a10 a11 a12 a13 a14 a5 b6_marks b6_stroll 30 g6_drawSeed g7_ways g7_texts g12_lines g7_wallCount f8 f9 f10 f11 g12_size f14 u2.1 u2.2)) hP hD [6, 7, 8, 9, 10, 11, 12, 13, 14, 5] [0, 1, 2, 3, 4] rfl rfl (by decide) (by decide) hk1 hFc hP1 hD1
      have hP := hP.sub (ws' := (ceX4_leastLead cyI cyB cyJ cyZ a0 a1 a2 a3 a4 a5 a6 a7 a8 a9 a10 a11 a12 a13 a14 b6_marks b6_stroll g6_drawSeed g7_ways g7_texts g12_lines g7_wallCount f8 f9 f10 f11 g12_size f14 g0_ones g0_others f1 f2 f3 u1.2 u2.2 u2.1)) [0, 1, 2, 3, 4, 14, 5, 6, 7, 8, 9, 10, 11, 12, 13] rfl
      have hD := hD.sub (ws' := (ceX4_leastLead cyI cyB cyJ cyZ a0 a1 a2 a3 a4 a5 a6 a7 a8 a9 a10 a11 a12 a13 a14 b6_marks b6_stroll g6_drawSeed g7_ways g7_texts g12_lines g7_wallCount f8 f9 f10 f11 g12_size f14 g0_ones g0_others f1 f2 f3 u1.2 u2.2 u2.1)) [0, 1, 2, 3, 4, 14, 5, 6, 7, 8, 9, 10, 11, 12, 13] (by decide) rfl
      generalize H1 = H at hP hS ⊢
      refine lv_aload_n hx hb dX4_leastLead_121 rfl (lv_at hl 0 rfl) ?_
      refine lv_aload hx hb dX4_leastLead_122 (lv_at hl 7 rfl) ?_
      refine lv_aload hx hb dX4_leastLead_124 (lv_at hl 6 rfl) ?_
      have hPc := hP.sub (ws' := (ceX4_passLayer cyI cyB cyJ cyZ a0 a1 a4 a5 a3 a2 a2 a3 961 961 g0_ones g0_others f1 u1.2 u2.2 f3 f2)) [0, 1, 4, 5, 3, 2] rfl
      have hDc := hD.sub (ws' := (ceX4_passLayer cyI cyB cyJ cyZ a0 a1 a4 a5 a3 a2 a2 a3 961 961 g0_ones g0_others f1 u1.2 u2.2 f3 f2)) [0, 1, 4, 5, 3, 2] (by decide) rfl
      have hFc := va_free (wc := (ceX4_passLayer cyI cyB cyJ cyZ a0 a1 a4 a5 a3 a2 a2 a3 961 961 g0_ones g0_others f1 u1.2 u2.2 f3 f2)) hD hS hA [0, 1, 4, 5, 3, 2] rfl
      refine va_callv (va_runV (As := [.ref a3, .ref a2]) (rest := []) ⟨hx, hb, hml, hown, hts⟩ (ctX4_passLayer l dC dI cyI cyB cyJ cyZ _ a0 a1 a4 a5 a3 a2 a2 a3 961 961 g0_ones g0_others f1 u1.2 u2.2 f3 f2 _ hw) (cwV 2 hts gX4_leastLead_X4_passLayer rfl rfl rfl (by decide +kernel) ⟨Nat.le_of_ble_eq_true rfl, Nat.le_of_ble_eq_true rfl⟩) ⟨wPre_blind, va_recv hK hPc (ci := 4) (q0 := 0) rfl rfl, fun U hU hW => wPre_of hPc hK hDc hN hU hW⟩ rfl rfl hl.1 rfl (lv_room (Nat.le_of_ble_eq_true rfl)) dX4_leastLead_126 ⟨(Nat.zero_le _), (Nat.zero_le _)⟩) hS (fun q _ h => hFc q h) hFc (fun u3 t H1 locs ht hvm hw hB hz1 hk1 hS => ?_)
      obtain ⟨hP1, hK1, hD1⟩ := hB
      rw [ht] at hP1
      obtain ⟨hP, hD⟩ := va_join (wr := pickW (ceX4_leastLead cyI cyB cyJ cyZ a0 a1 a2 a3 a4 a5 a6 a7 a8 a9 a10 a11 a12 a13 a14 b6_marks b6_stroll g6_drawSeed g7_ways g7_texts g12_lines g7_wallCount f8 f9 f10 f11 g12_size f14 g0_ones g0_others f1 f2 f3 u1.2 u2.2 u2.1) [6, 7, 8, 9, 10, 11, 12, 13, 14]) (w1 := (ceX4_passLayer cyI cyB cyJ cyZ a0 a1 a4 a5 a3 a2 a2 a3 961 961 g0_ones g0_others f1 u1.2 u2.2 f3 u3)) hP hD [0, 1, 4, 5, 3, 2] [6, 7, 8, 9, 10, 11, 12, 13, 14] rfl rfl (by decide) (by decide) hk1 hFc hP1 hD1
      have hP := hP.sub (ws' := (ceX4_leastLead cyI cyB cyJ cyZ a0 a1 a2 a3 a4 a5 a6 a7 a8 a9 a10 a11 a12 a13 a14 b6_marks b6_stroll g6_drawSeed g7_ways g7_texts g12_lines g7_wallCount f8 f9 f10 f11 g12_size f14 g0_ones g0_others f1 u3 f3 u1.2 u2.2 u2.1)) [9, 10, 14, 13, 11, 12, 0, 1, 2, 3, 4, 5, 6, 7, 8] rfl
      have hD := hD.sub (ws' := (ceX4_leastLead cyI cyB cyJ cyZ a0 a1 a2 a3 a4 a5 a6 a7 a8 a9 a10 a11 a12 a13 a14 b6_marks b6_stroll g6_drawSeed g7_ways g7_texts g12_lines g7_wallCount f8 f9 f10 f11 g12_size f14 g0_ones g0_others f1 u3 f3 u1.2 u2.2 u2.1)) [9, 10, 14, 13, 11, 12, 0, 1, 2, 3, 4, 5, 6, 7, 8] (by decide) rfl
      generalize H1 = H at hP hS ⊢
      refine lv_aload hx hb dX4_leastLead_129 (lv_at hl 7 rfl) ?_
      refine lv_iconst (v := 0) hx hb dX4_leastLead_131 (by decide) ?_
      refine lv_ldc (v := 2147483647) hx hb hown (hts (.constant RX4 49 (2147483647)) (List.mem_of_getElem? (i := 4) rfl)) dX4_leastLead_132 ?_
      obtain ⟨hi, hw⟩ := hw
      refine va_iast hx hb hK hP hD hS 3 0 rfl rfl hi dX4_leastLead_134 (fun H locs hP hD hS => ?_)
      have hP : va_P (dC, dI) vwCl (ceX4_leastLead cyI cyB cyJ cyZ a0 a1 a2 a3 a4 a5 a6 a7 a8 a9 a10 a11 a12 a13 a14 b6_marks b6_stroll g6_drawSeed g7_ways g7_texts g12_lines g7_wallCount f8 f9 f10 f11 g12_size f14 g0_ones g0_others f1 u3 (upd f3 (0 : Int32).toNatClampNeg 2147483647) u1.2 u2.2 u2.1) H := hP
      have hD : va_D A (ceX4_leastLead cyI cyB cyJ cyZ a0 a1 a2 a3 a4 a5 a6 a7 a8 a9 a10 a11 a12 a13 a14 b6_marks b6_stroll g6_drawSeed g7_ways g7_texts g12_lines g7_wallCount f8 f9 f10 f11 g12_size f14 g0_ones g0_others f1 u3 (upd f3 (0 : Int32).toNatClampNeg 2147483647) u1.2 u2.2 u2.1) := hD
      refine lv_aload hx hb dX4_leastLead_135 (lv_at hl 7 rfl) ?_
      refine lv_astore (lv' := [(9, .ref a3), (0, .ref a0), (1, .ref a6), (2, .int x2), (3, .int x3), (4, .int x4), (5, .int x5), (6, .ref a2), (7, .ref a3), (8, .int x8)]) hx hb dX4_leastLead_137 hl (by decide) rfl (fun ls hl => ?_)
      refine lv_aload hx hb dX4_leastLead_139 (lv_at hl 7 rfl) ?_
      refine lv_astore (lv' := [(7, .ref a2), (9, .ref a3), (0, .ref a0), (1, .ref a6), (2, .int x2), (3, .int x3), (4, .int x4), (5, .int x5), (6, .ref a2), (8, .int x8)]) hx hb dX4_leastLead_141 hl (by decide) rfl (fun ls hl => ?_)
      refine lv_aload hx hb dX4_leastLead_143 (lv_at hl 1 rfl) ?_
      refine lv_astore (lv' := [(6, .ref a3), (7, .ref a2), (9, .ref a3), (0, .ref a0), (1, .ref a6), (2, .int x2), (3, .int x3), (4, .int x4), (5, .int x5), (8, .int x8)]) hx hb dX4_leastLead_145 hl (by decide) rfl (fun ls hl => ?_)
      obtain ⟨v4, ev4⟩ : ∃ y : Int32, y = x8 + 1 := ⟨_, rfl⟩
      have hw := hw v4 ev4
      refine lv_iinc (v := v4) (lv' := [(8, .int v4), (6, .ref a3), (7, .ref a2), (9, .ref a3), (0, .ref a0), (1, .ref a6), (2, .int x2), (3, .int x3), (4, .int x4), (5, .int x5)]) hx hb dX4_leastLead_147 hl (k := 9) rfl (by rw [ev4]; rfl) (by decide) rfl (fun ls hl => ?_)
      refine lv_goto (tgt := 78) hx hb dX4_leastLead_150 (by decide) ?_
      refine lv_iload hx hb dX4_leastLead_78 (lv_at hl 0 rfl) ?_
      refine lv_aload_n hx hb dX4_leastLead_80 rfl (lv_at hl 5 rfl) ?_
      refine va_getN (D := (dC, dI)) (ci := 6) (v := .ref a7) (C := RX6) (T := TX6) (N := 5) hx hb hts inX4_leastLead_X6 hown hK hP 6 rfl rfl 0 (by decide) (va_Nw.use rfl (hN _ (List.mem_of_getElem? (i := 27) rfl))) (fun _ h9 => h9) rfl dX4_leastLead_81 ?_
      refine va_getN (D := (dC, dI)) (ci := 1) (v := .ref a8) (C := RX1) (T := TX1) (N := 7) hx hb hts inX4_leastLead_X1 hown hK hP 7 rfl rfl 2 (by decide) (va_Nw.use rfl (hN _ (List.mem_of_getElem? (i := 5) rfl))) (fun _ h9 => h9) rfl dX4_leastLead_84 ?_
      refine lv_iload_n hx hb dX4_leastLead_87 rfl (lv_at hl 6 rfl) ?_
      obtain ⟨hi, hw⟩ := hw
      refine va_iald hx hb hK hP 8 0 rfl rfl hi dX4_leastLead_88 ?_
      refine lv_icmp_ge (tgt := 153) hx hb dX4_leastLead_89 (by decide) (fun hc => ?_) (fun hc => ?_)
      · have hw := hw.1 hc
        refine lv_aload hx hb dX4_leastLead_153 (lv_at hl 2 rfl) ?_
        refine lv_aload_n hx hb dX4_leastLead_155 rfl (lv_at hl 4 rfl) ?_
        refine va_get (D := (dC, dI)) (ci := 4) (v := .int g0_ones) (C := RX4) (T := TX4) (N := 7) hx hb hts inX4_leastLead_X4 hown hK hP 0 rfl rfl 5 (by decide) (hts (.fieldLink RX4 27 "LeadPark$Pack" "ones" "I") (List.mem_of_getElem? (i := 1) rfl)) (fun _ h9 => h9) rfl dX4_leastLead_156 ?_
        refine lv_bipush (v := 31) hx hb dX4_leastLead_159 (by decide) ?_
        refine lv_imul hx hb dX4_leastLead_161 ?_
        refine lv_aload_n hx hb dX4_leastLead_162 rfl (lv_at hl 4 rfl) ?_
        refine va_get (D := (dC, dI)) (ci := 4) (v := .int g0_others) (C := RX4) (T := TX4) (N := 7) hx hb hts inX4_leastLead_X4 hown hK hP 0 rfl rfl 6 (by decide) (hts (.fieldLink RX4 31 "LeadPark$Pack" "others" "I") (List.mem_of_getElem? (i := 2) rfl)) (fun _ h9 => h9) rfl dX4_leastLead_163 ?_
        refine lv_iadd hx hb dX4_leastLead_166 ?_
        obtain ⟨hi, hw⟩ := hw
        refine va_iald hx hb hK hP 2 0 rfl rfl hi dX4_leastLead_167 ?_
        rw [hQ]
        exact W.iret (v := u3 ((g0_ones * 31) + g0_others).toNatClampNeg) hx hb hr (fun t ht hW => ⟨⟨u3 ((g0_ones * 31) + g0_others).toNatClampNeg, (g0_ones, g0_others, f1, u3, (upd f3 (0 : Int32).toNatClampNeg 2147483647), u1.2, u2.2, u2.1), rfl, hw, by rw [ht]; exact hP, va_K.moved hW.alike hK, hD⟩, hS.F ht⟩) hS.2.2 dX4_leastLead_168
      · have hw := hw.2 hc
        refine lv_aload_n hx hb dX4_leastLead_92 rfl (lv_at hl 5 rfl) ?_
        refine lv_iload_n hx hb dX4_leastLead_93 rfl (lv_at hl 6 rfl) ?_
        refine lv_iload hx hb dX4_leastLead_94 (lv_at hl 0 rfl) ?_
        refine lv_iload_n hx hb dX4_leastLead_96 rfl (lv_at hl 7 rfl) ?_
        refine lv_aload_n hx hb dX4_leastLead_97 rfl (lv_at hl 4 rfl) ?_
        refine va_get (D := (dC, dI)) (ci := 4) (v := .ref a4) (C := RX4) (T := TX4) (N := 7) hx hb hts inX4_leastLead_X4 hown hK hP 0 rfl rfl 0 (by decide) (hts (.fieldLink RX4 9 "LeadPark$Pack" "toOne" "[I") (List.mem_of_getElem? (i := 6) rfl)) (fun _ h9 => h9) rfl dX4_leastLead_98 ?_
        refine lv_iload hx hb dX4_leastLead_101 (lv_at hl 9 rfl) ?_
        have hPc := hP.sub (ws' := (ceX4_measure cyI cyB cyJ cyZ a6 a7 a8 a9 a10 a11 a12 a13 a14 a4 b6_marks b6_stroll 30 g6_drawSeed g7_ways g7_texts g12_lines g7_wallCount f8 f9 f10 f11 g12_size f14 u2.1 u1.2)) [6, 7, 8, 9, 10, 11, 12, 13, 14, 4] rfl
        have hDc := hD.sub (ws' := (ceX4_measure cyI cyB cyJ cyZ a6 a7 a8 a9 a10 a11 a12 a13 a14 a4 b6_marks b6_stroll 30 g6_drawSeed g7_ways g7_texts g12_lines g7_wallCount f8 f9 f10 f11 g12_size f14 u2.1 u1.2)) [6, 7, 8, 9, 10, 11, 12, 13, 14, 4] (by decide) rfl
        have hFc := va_free (wc := (ceX4_measure cyI cyB cyJ cyZ a6 a7 a8 a9 a10 a11 a12 a13 a14 a4 b6_marks b6_stroll 30 g6_drawSeed g7_ways g7_texts g12_lines g7_wallCount f8 f9 f10 f11 g12_size f14 u2.1 u1.2)) hD hS hA [6, 7, 8, 9, 10, 11, 12, 13, 14, 4] rfl
        refine va_callv (va_runS (As := [.ref a6, .int x2, .int v4, .int x3, .ref a4, .int x5]) (rest := []) ⟨hx, hb, hml, hown, hts⟩ (ctX4_measure l dC dI cyI cyB cyJ cyZ _ a6 a7 a8 a9 a10 a11 a12 a13 a14 a4 b6_marks b6_stroll 30 g6_drawSeed g7_ways g7_texts g12_lines g7_wallCount f8 f9 f10 f11 g12_size f14 u2.1 u1.2 x2 v4 x3 x5 _ hw) (va_cwS 6 hts gX4_leastLead_X4_measure rfl rfl rfl (by decide +kernel) ⟨Nat.le_of_ble_eq_true rfl, Nat.le_of_ble_eq_true rfl⟩) ⟨wPre_blind, fun U hU hW => wPre_of hPc hK hDc hN hU hW⟩ rfl rfl hl.1 rfl (lv_room (Nat.le_of_ble_eq_true rfl)) dX4_leastLead_103 ⟨(Nat.zero_le _), (Nat.zero_le _)⟩) hS (fun q _ h => hFc q h) hFc (fun u5 t H1 locs ht hvm hw hB hz1 hk1 hS => ?_)
        obtain ⟨hP1, hK1, hD1⟩ := hB
        rw [ht] at hP1
        obtain ⟨hP, hD⟩ := va_join (wr := pickW (ceX4_leastLead cyI cyB cyJ cyZ a0 a1 a2 a3 a4 a5 a6 a7 a8 a9 a10 a11 a12 a13 a14 b6_marks b6_stroll g6_drawSeed g7_ways g7_texts g12_lines g7_wallCount f8 f9 f10 f11 g12_size f14 g0_ones g0_others f1 u3 (upd f3 (0 : Int32).toNatClampNeg 2147483647) u1.2 u2.2 u2.1) [0, 1, 2, 3, 5]) (w1 := (ceX4_measure cyI cyB cyJ cyZ a6 a7 a8 a9 a10 a11 a12 a13 a14 a4 b6_marks b6_stroll 30 g6_drawSeed g7_ways g7_texts g12_lines g7_wallCount f8 f9 f10 f11 g12_size f14 u5.1 u5.2)) hP hD [6, 7, 8, 9, 10, 11, 12, 13, 14, 4] [0, 1, 2, 3, 5] rfl rfl (by decide) (by decide) hk1 hFc hP1 hD1
        have hP := hP.sub (ws' := (ceX4_leastLead cyI cyB cyJ cyZ a0 a1 a2 a3 a4 a5 a6 a7 a8 a9 a10 a11 a12 a13 a14 b6_marks b6_stroll g6_drawSeed g7_ways g7_texts g12_lines g7_wallCount f8 f9 f10 f11 g12_size f14 g0_ones g0_others f1 u3 (upd f3 (0 : Int32).toNatClampNeg 2147483647) u5.2 u2.2 u5.1)) [0, 1, 2, 3, 14, 4, 5, 6, 7, 8, 9, 10, 11, 12, 13] rfl
        have hD := hD.sub (ws' := (ceX4_leastLead cyI cyB cyJ cyZ a0 a1 a2 a3 a4 a5 a6 a7 a8 a9 a10 a11 a12 a13 a14 b6_marks b6_stroll g6_drawSeed g7_ways g7_texts g12_lines g7_wallCount f8 f9 f10 f11 g12_size f14 g0_ones g0_others f1 u3 (upd f3 (0 : Int32).toNatClampNeg 2147483647) u5.2 u2.2 u5.1)) [0, 1, 2, 3, 14, 4, 5, 6, 7, 8, 9, 10, 11, 12, 13] (by decide) rfl
        generalize H1 = H at hP hS ⊢
        refine lv_aload_n hx hb dX4_leastLead_106 rfl (lv_at hl 5 rfl) ?_
        refine lv_iload_n hx hb dX4_leastLead_107 rfl (lv_at hl 6 rfl) ?_
        refine lv_iload hx hb dX4_leastLead_108 (lv_at hl 0 rfl) ?_
        refine lv_iload hx hb dX4_leastLead_110 (lv_at hl 8 rfl) ?_
        refine lv_aload_n hx hb dX4_leastLead_112 rfl (lv_at hl 4 rfl) ?_
        refine va_get (D := (dC, dI)) (ci := 4) (v := .ref a5) (C := RX4) (T := TX4) (N := 7) hx hb hts inX4_leastLead_X4 hown hK hP 0 rfl rfl 1 (by decide) (hts (.fieldLink RX4 15 "LeadPark$Pack" "toOther" "[I") (List.mem_of_getElem? (i := 7) rfl)) (fun _ h9 => h9) rfl dX4_leastLead_113 ?_
        refine lv_iload hx hb dX4_leastLead_116 (lv_at hl 9 rfl) ?_
        have hPc := hP.sub (ws' := (ceX4_measure cyI cyB cyJ cyZ a6 a7 a8 a9 a10 a11 a12 a13 a14 a5 b6_marks b6_stroll 30 g6_drawSeed g7_ways g7_texts g12_lines g7_wallCount f8 f9 f10 f11 g12_size f14 u5.1 u2.2)) [6, 7, 8, 9, 10, 11, 12, 13, 14, 5] rfl
        have hDc := hD.sub (ws' := (ceX4_measure cyI cyB cyJ cyZ a6 a7 a8 a9 a10 a11 a12 a13 a14 a5 b6_marks b6_stroll 30 g6_drawSeed g7_ways g7_texts g12_lines g7_wallCount f8 f9 f10 f11 g12_size f14 u5.1 u2.2)) [6, 7, 8, 9, 10, 11, 12, 13, 14, 5] (by decide) rfl
        have hFc := va_free (wc := (ceX4_measure cyI cyB cyJ cyZ a6 a7 a8 a9 a10 a11 a12 a13 a14 a5 b6_marks b6_stroll 30 g6_drawSeed g7_ways g7_texts g12_lines g7_wallCount f8 f9 f10 f11 g12_size f14 u5.1 u2.2)) hD hS hA [6, 7, 8, 9, 10, 11, 12, 13, 14, 5] rfl
        refine va_callv (va_runS (As := [.ref a6, .int x2, .int v4, .int x4, .ref a5, .int x5]) (rest := []) ⟨hx, hb, hml, hown, hts⟩ (ctX4_measure l dC dI cyI cyB cyJ cyZ _ a6 a7 a8 a9 a10 a11 a12 a13 a14 a5 b6_marks b6_stroll 30 g6_drawSeed g7_ways g7_texts g12_lines g7_wallCount f8 f9 f10 f11 g12_size f14 u5.1 u2.2 x2 v4 x4 x5 _ hw) (va_cwS 6 hts gX4_leastLead_X4_measure rfl rfl rfl (by decide +kernel) ⟨Nat.le_of_ble_eq_true rfl, Nat.le_of_ble_eq_true rfl⟩) ⟨wPre_blind, fun U hU hW => wPre_of hPc hK hDc hN hU hW⟩ rfl rfl hl.1 rfl (lv_room (Nat.le_of_ble_eq_true rfl)) dX4_leastLead_118 ⟨(Nat.zero_le _), (Nat.zero_le _)⟩) hS (fun q _ h => hFc q h) hFc (fun u6 t H1 locs ht hvm hw hB hz1 hk1 hS => ?_)
        obtain ⟨hP1, hK1, hD1⟩ := hB
        rw [ht] at hP1
        obtain ⟨hP, hD⟩ := va_join (wr := pickW (ceX4_leastLead cyI cyB cyJ cyZ a0 a1 a2 a3 a4 a5 a6 a7 a8 a9 a10 a11 a12 a13 a14 b6_marks b6_stroll g6_drawSeed g7_ways g7_texts g12_lines g7_wallCount f8 f9 f10 f11 g12_size f14 g0_ones g0_others f1 u3 (upd f3 (0 : Int32).toNatClampNeg 2147483647) u5.2 u2.2 u5.1) [0, 1, 2, 3, 4]) (w1 := (ceX4_measure cyI cyB cyJ cyZ a6 a7 a8 a9 a10 a11 a12 a13 a14 a5 b6_marks b6_stroll 30 g6_drawSeed g7_ways g7_texts g12_lines g7_wallCount f8 f9 f10 f11 g12_size f14 u6.1 u6.2)) hP hD [6, 7, 8, 9, 10, 11, 12, 13, 14, 5] [0, 1, 2, 3, 4] rfl rfl (by decide) (by decide) hk1 hFc hP1 hD1
        have hP := hP.sub (ws' := (ceX4_leastLead cyI cyB cyJ cyZ a0 a1 a2 a3 a4 a5 a6 a7 a8 a9 a10 a11 a12 a13 a14 b6_marks b6_stroll g6_drawSeed g7_ways g7_texts g12_lines g7_wallCount f8 f9 f10 f11 g12_size f14 g0_ones g0_others f1 u3 (upd f3 (0 : Int32).toNatClampNeg 2147483647) u5.2 u6.2 u6.1)) [0, 1, 2, 3, 4, 14, 5, 6, 7, 8, 9, 10, 11, 12, 13] rfl
        have hD := hD.sub (ws' := (ceX4_leastLead cyI cyB cyJ cyZ a0 a1 a2 a3 a4 a5 a6 a7 a8 a9 a10 a11 a12 a13 a14 b6_marks b6_stroll g6_drawSeed g7_ways g7_texts g12_lines g7_wallCount f8 f9 f10 f11 g12_size f14 g0_ones g0_others f1 u3 (upd f3 (0 : Int32).toNatClampNeg 2147483647) u5.2 u6.2 u6.1)) [0, 1, 2, 3, 4, 14, 5, 6, 7, 8, 9, 10, 11, 12, 13] (by decide) rfl
        generalize H1 = H at hP hS ⊢
        refine lv_aload_n hx hb dX4_leastLead_121 rfl (lv_at hl 4 rfl) ?_
        refine lv_aload hx hb dX4_leastLead_122 (lv_at hl 2 rfl) ?_
        refine lv_aload hx hb dX4_leastLead_124 (lv_at hl 1 rfl) ?_
        have hPc := hP.sub (ws' := (ceX4_passLayer cyI cyB cyJ cyZ a0 a1 a4 a5 a2 a3 a2 a3 961 961 g0_ones g0_others f1 u5.2 u6.2 u3 (upd f3 (0 : Int32).toNatClampNeg 2147483647))) [0, 1, 4, 5, 2, 3] rfl
        have hDc := hD.sub (ws' := (ceX4_passLayer cyI cyB cyJ cyZ a0 a1 a4 a5 a2 a3 a2 a3 961 961 g0_ones g0_others f1 u5.2 u6.2 u3 (upd f3 (0 : Int32).toNatClampNeg 2147483647))) [0, 1, 4, 5, 2, 3] (by decide) rfl
        have hFc := va_free (wc := (ceX4_passLayer cyI cyB cyJ cyZ a0 a1 a4 a5 a2 a3 a2 a3 961 961 g0_ones g0_others f1 u5.2 u6.2 u3 (upd f3 (0 : Int32).toNatClampNeg 2147483647))) hD hS hA [0, 1, 4, 5, 2, 3] rfl
        refine va_callv (va_runV (As := [.ref a2, .ref a3]) (rest := []) ⟨hx, hb, hml, hown, hts⟩ (ctX4_passLayer l dC dI cyI cyB cyJ cyZ _ a0 a1 a4 a5 a2 a3 a2 a3 961 961 g0_ones g0_others f1 u5.2 u6.2 u3 (upd f3 (0 : Int32).toNatClampNeg 2147483647) _ hw) (cwV 2 hts gX4_leastLead_X4_passLayer rfl rfl rfl (by decide +kernel) ⟨Nat.le_of_ble_eq_true rfl, Nat.le_of_ble_eq_true rfl⟩) ⟨wPre_blind, va_recv hK hPc (ci := 4) (q0 := 0) rfl rfl, fun U hU hW => wPre_of hPc hK hDc hN hU hW⟩ rfl rfl hl.1 rfl (lv_room (Nat.le_of_ble_eq_true rfl)) dX4_leastLead_126 ⟨(Nat.zero_le _), (Nat.zero_le _)⟩) hS (fun q _ h => hFc q h) hFc (fun u7 t H1 locs ht hvm hw hB hz1 hk1 hS => ?_)
        obtain ⟨hP1, hK1, hD1⟩ := hB
        rw [ht] at hP1
        obtain ⟨hP, hD⟩ := va_join (wr := pickW (ceX4_leastLead cyI cyB cyJ cyZ a0 a1 a2 a3 a4 a5 a6 a7 a8 a9 a10 a11 a12 a13 a14 b6_marks b6_stroll g6_drawSeed g7_ways g7_texts g12_lines g7_wallCount f8 f9 f10 f11 g12_size f14 g0_ones g0_others f1 u3 (upd f3 (0 : Int32).toNatClampNeg 2147483647) u5.2 u6.2 u6.1) [6, 7, 8, 9, 10, 11, 12, 13, 14]) (w1 := (ceX4_passLayer cyI cyB cyJ cyZ a0 a1 a4 a5 a2 a3 a2 a3 961 961 g0_ones g0_others f1 u5.2 u6.2 u3 u7)) hP hD [0, 1, 4, 5, 2, 3] [6, 7, 8, 9, 10, 11, 12, 13, 14] rfl rfl (by decide) (by decide) hk1 hFc hP1 hD1
        have hP := hP.sub (ws' := (ceX4_leastLead cyI cyB cyJ cyZ a0 a1 a2 a3 a4 a5 a6 a7 a8 a9 a10 a11 a12 a13 a14 b6_marks b6_stroll g6_drawSeed g7_ways g7_texts g12_lines g7_wallCount f8 f9 f10 f11 g12_size f14 g0_ones g0_others f1 u3 u7 u5.2 u6.2 u6.1)) [9, 10, 13, 14, 11, 12, 0, 1, 2, 3, 4, 5, 6, 7, 8] rfl
        have hD := hD.sub (ws' := (ceX4_leastLead cyI cyB cyJ cyZ a0 a1 a2 a3 a4 a5 a6 a7 a8 a9 a10 a11 a12 a13 a14 b6_marks b6_stroll g6_drawSeed g7_ways g7_texts g12_lines g7_wallCount f8 f9 f10 f11 g12_size f14 g0_ones g0_others f1 u3 u7 u5.2 u6.2 u6.1)) [9, 10, 13, 14, 11, 12, 0, 1, 2, 3, 4, 5, 6, 7, 8] (by decide) rfl
        generalize H1 = H at hP hS ⊢
        refine lv_aload hx hb dX4_leastLead_129 (lv_at hl 2 rfl) ?_
        refine lv_iconst (v := 0) hx hb dX4_leastLead_131 (by decide) ?_
        refine lv_ldc (v := 2147483647) hx hb hown (hts (.constant RX4 49 (2147483647)) (List.mem_of_getElem? (i := 4) rfl)) dX4_leastLead_132 ?_
        obtain ⟨hi, hw⟩ := hw
        refine va_iast hx hb hK hP hD hS 2 0 rfl rfl hi dX4_leastLead_134 (fun H locs hP hD hS => ?_)
        have hP : va_P (dC, dI) vwCl (ceX4_leastLead cyI cyB cyJ cyZ a0 a1 a2 a3 a4 a5 a6 a7 a8 a9 a10 a11 a12 a13 a14 b6_marks b6_stroll g6_drawSeed g7_ways g7_texts g12_lines g7_wallCount f8 f9 f10 f11 g12_size f14 g0_ones g0_others f1 (upd u3 (0 : Int32).toNatClampNeg 2147483647) u7 u5.2 u6.2 u6.1) H := hP
        have hD : va_D A (ceX4_leastLead cyI cyB cyJ cyZ a0 a1 a2 a3 a4 a5 a6 a7 a8 a9 a10 a11 a12 a13 a14 b6_marks b6_stroll g6_drawSeed g7_ways g7_texts g12_lines g7_wallCount f8 f9 f10 f11 g12_size f14 g0_ones g0_others f1 (upd u3 (0 : Int32).toNatClampNeg 2147483647) u7 u5.2 u6.2 u6.1) := hD
        refine lv_aload hx hb dX4_leastLead_135 (lv_at hl 2 rfl) ?_
        refine lv_astore (lv' := [(9, .ref a2), (8, .int v4), (6, .ref a3), (7, .ref a2), (0, .ref a0), (1, .ref a6), (2, .int x2), (3, .int x3), (4, .int x4), (5, .int x5)]) hx hb dX4_leastLead_137 hl (by decide) rfl (fun ls hl => ?_)
        refine lv_aload hx hb dX4_leastLead_139 (lv_at hl 2 rfl) ?_
        refine lv_astore (lv' := [(7, .ref a3), (9, .ref a2), (8, .int v4), (6, .ref a3), (0, .ref a0), (1, .ref a6), (2, .int x2), (3, .int x3), (4, .int x4), (5, .int x5)]) hx hb dX4_leastLead_141 hl (by decide) rfl (fun ls hl => ?_)
        refine lv_aload hx hb dX4_leastLead_143 (lv_at hl 1 rfl) ?_
        refine lv_astore (lv' := [(6, .ref a2), (7, .ref a3), (9, .ref a2), (8, .int v4), (0, .ref a0), (1, .ref a6), (2, .int x2), (3, .int x3), (4, .int x4), (5, .int x5)]) hx hb dX4_leastLead_145 hl (by decide) rfl (fun ls hl => ?_)
        obtain ⟨v8, ev8⟩ : ∃ y : Int32, y = v4 + 1 := ⟨_, rfl⟩
        have hw := hw v8 ev8
        refine lv_iinc (v := v8) (lv' := [(8, .int v8), (6, .ref a2), (7, .ref a3), (9, .ref a2), (0, .ref a0), (1, .ref a6), (2, .int x2), (3, .int x3), (4, .int x4), (5, .int x5)]) hx hb dX4_leastLead_147 hl (k := 3) rfl (by rw [ev8]; rfl) (by decide) rfl (fun ls hl => ?_)
        refine lv_goto (tgt := 78) hx hb dX4_leastLead_150 (by decide) ?_
        exact ih g0_ones g0_others f1 (upd u3 (0 : Int32).toNatClampNeg 2147483647) u7 u5.2 u6.2 u6.1 x2 x3 x4 x5 v8 hw H locs hP hD hS ls (lv_sub hl [4, 5, 6, 7, 8, 9, 1, 2, 0] rfl)
set_option maxRecDepth 100000 in
set_option maxHeartbeats 4000000 in
theorem ctX4_leastLead (l : Launch) (dC : Nat → ClassId) (dI : Nat → Nat → Nat) (cyI cyB cyJ cyZ : ClassId) (sz : Nat) (a0 a1 a2 a3 a4 a5 a6 a7 a8 a9 a10 a11 a12 a13 a14 b6_marks b6_stroll : Nat) (g6_drawSeed : Int32) (g7_ways : Int32) (g7_texts : Int32) (g12_lines : Int32) (g7_wallCount : Int32) (f8 : Nat → Int32) (f9 : Nat → Int32) (f10 : Nat → Int32) (f11 : Nat → Int32) (g12_size : Int32) (f14 : Nat → Int32) (g0_ones : Int32) (g0_others : Int32) (f1 : Nat → Int32) (f2 : Nat → Int32) (f3 : Nat → Int32) (f4 : Nat → Int32) (f5 : Nat → Int32) (f13 : Nat → Int32) (p1 : Int32) (p2 : Int32) (p3 : Int32) (p4 : Int32) (post : Int32 → (Int32 × Int32 × (Nat → Int32) × (Nat → Int32) × (Nat → Int32) × (Nat → Int32) × (Nat → Int32) × (Nat → Int32)) → Prop) (hw : wpX4_leastLead post g7_wallCount f8 f9 f10 f11 g12_size f14 g0_ones g0_others f1 f2 f3 f4 f5 f13 p1 p2 p3 p4) : Met l yX4_leastLead wsX4_leastLead rmX4_leastLead (va_Pc [.ref a0, .ref a6, .int p1, .int p2, .int p3, .int p4] (wPre dC dI cyI cyB cyJ cyZ sz (ceX4_leastLead cyI cyB cyJ cyZ a0 a1 a2 a3 a4 a5 a6 a7 a8 a9 a10 a11 a12 a13 a14 b6_marks b6_stroll g6_drawSeed g7_ways g7_texts g12_lines g7_wallCount f8 f9 f10 f11 g12_size f14 g0_ones g0_others f1 f2 f3 f4 f5 f13))) (va_Qi post (fun u : Int32 × Int32 × (Nat → Int32) × (Nat → Int32) × (Nat → Int32) × (Nat → Int32) × (Nat → Int32) × (Nat → Int32) => wAt dC dI cyI cyB cyJ cyZ (va_A (ceX4_leastLead cyI cyB cyJ cyZ a0 a1 a2 a3 a4 a5 a6 a7 a8 a9 a10 a11 a12 a13 a14 b6_marks b6_stroll g6_drawSeed g7_ways g7_texts g12_lines g7_wallCount f8 f9 f10 f11 g12_size f14 g0_ones g0_others f1 f2 f3 f4 f5 f13) sz) (ceX4_leastLead cyI cyB cyJ cyZ a0 a1 a2 a3 a4 a5 a6 a7 a8 a9 a10 a11 a12 a13 a14 b6_marks b6_stroll g6_drawSeed g7_ways g7_texts g12_lines g7_wallCount f8 f9 f10 f11 g12_size f14 u.1 u.2.1 u.2.2.1 u.2.2.2.1 u.2.2.2.2.1 u.2.2.2.2.2.1 u.2.2.2.2.2.2.1 u.2.2.2.2.2.2.2)) (va_A (ceX4_leastLead cyI cyB cyJ cyZ a0 a1 a2 a3 a4 a5 a6 a7 a8 a9 a10 a11 a12 a13 a14 b6_marks b6_stroll g6_drawSeed g7_ways g7_texts g12_lines g7_wallCount f8 f9 f10 f11 g12_size f14 g0_ones g0_others f1 f2 f3 f4 f5 f13) sz)) 0 0 (va_A (ceX4_leastLead cyI cyB cyJ cyZ a0 a1 a2 a3 a4 a5 a6 a7 a8 a9 a10 a11 a12 a13 a14 b6_marks b6_stroll g6_drawSeed g7_ways g7_texts g12_lines g7_wallCount f8 f9 f10 f11 g12_size f14 g0_ones g0_others f1 f2 f3 f4 f5 f13) sz) := by
  refine Met.ofW (cc := cX4_leastLead) (maxL := 10) (ret := (some .int)) (by decide) rfl ?_
  intro p e s m args below meth c s₁ B hml hv
  obtain ⟨rfl, hsz, hP, hK, hD0, hN⟩ := hv
  have hx := B.exec
  have hb := B.bytes
  have hr := B.returns
  have hts := atoms_spec (ws := wsX4_leastLead) B.pre
  have hown : s.vm.findClass RX4 = some m.cls := findClass_of_methodNamed B.named
  have hlocks := B.notSynchronized
  subst hsz
  have hD := hD0.self (sz := s.heap.size)
  generalize hAe : va_A (ceX4_leastLead cyI cyB cyJ cyZ a0 a1 a2 a3 a4 a5 a6 a7 a8 a9 a10 a11 a12 a13 a14 b6_marks b6_stroll g6_drawSeed g7_ways g7_texts g12_lines g7_wallCount f8 f9 f10 f11 g12_size f14 g0_ones g0_others f1 f2 f3 f4 f5 f13) s.heap.size = A at hD ⊢
  have hA : ∀ q : Nat, s.heap.size ≤ q → A q := fun q h => by rw [← hAe]; exact Or.inr h
  have hS : va_S A s.heap s.heap [] := va_S.rf
  have C0 : cxM p s m meth c _ wsX4_leastLead RX4 cX4_leastLead 10 (some .int) := ⟨hx, hb, hr, hml, hown, hts, hlocks⟩
  have hl := lv_entry ([.ref a0, .ref a6, .int p1, .int p2, .int p3, .int p4]) (n := 10) (Nat.le_of_ble_eq_true rfl)
  rw [lg_entry_eq]
  generalize (lg_sl ([.ref a0, .ref a6, .int p1, .int p2, .int p3, .int p4]) ++ List.replicate (10 - (lg_sl ([.ref a0, .ref a6, .int p1, .int p2, .int p3, .int p4])).length) Slot.unset).toArray = ls at hl ⊢
  have hl : lv_has ls 10 [(0, .ref a0), (1, .ref a6), (2, .int p1), (3, .int p2), (4, .int p3), (5, .int p4)] := hl
  show W p l e rmX4_leastLead s m _ below meth c _ _ _ _ _ _
  refine wq (fun Q hQ => ?_)
  refine lv_aload_n hx hb dX4_leastLead_0 rfl (lv_at hl 0 rfl) ?_
  refine lv_aload_n hx hb dX4_leastLead_1 rfl (lv_at hl 1 rfl) ?_
  refine va_getN (D := (dC, dI)) (ci := 6) (v := .ref a7) (C := RX6) (T := TX6) (N := 5) hx hb hts inX4_leastLead_X6 hown hK hP 6 rfl rfl 0 (by decide) (va_Nw.use rfl (hN _ (List.mem_of_getElem? (i := 27) rfl))) (fun _ h9 => h9) rfl dX4_leastLead_2 ?_
  refine va_getN (D := (dC, dI)) (ci := 1) (v := .ref a8) (C := RX1) (T := TX1) (N := 7) hx hb hts inX4_leastLead_X1 hown hK hP 7 rfl rfl 2 (by decide) (va_Nw.use rfl (hN _ (List.mem_of_getElem? (i := 5) rfl))) (fun _ h9 => h9) rfl dX4_leastLead_5 ?_
  refine lv_iload_n hx hb dX4_leastLead_8 rfl (lv_at hl 3 rfl) ?_
  obtain ⟨hi, hw⟩ := hw
  refine va_iald hx hb hK hP 8 0 rfl rfl hi dX4_leastLead_9 ?_
  refine lv_topi (fun v1 ev1 => ?_)
  have hw := hw v1 ev1
  refine va_put (D := (dC, dI)) (ci := 4) (v := .int v1) (ty := .int) (C := RX4) (T := TX4) (N := 7) hx hb hts inX4_leastLead_X4 tyX4 tyX4_ok nmX4 hown hK hP hD hS 0 rfl rfl 5 (by decide) (hts (.fieldLink RX4 27 "LeadPark$Pack" "ones" "I") (List.mem_of_getElem? (i := 1) rfl)) (fun _ h9 => h9) rfl (by decide +kernel) rfl rfl (Nat.le_of_ble_eq_true rfl) dX4_leastLead_10 (fun H locs hP hD hS => ?_)
  have hP : va_P (dC, dI) vwCl (ceX4_leastLead cyI cyB cyJ cyZ a0 a1 a2 a3 a4 a5 a6 a7 a8 a9 a10 a11 a12 a13 a14 b6_marks b6_stroll g6_drawSeed g7_ways g7_texts g12_lines g7_wallCount f8 f9 f10 f11 g12_size f14 v1 g0_others f1 f2 f3 f4 f5 f13) H := hP
  have hD : va_D A (ceX4_leastLead cyI cyB cyJ cyZ a0 a1 a2 a3 a4 a5 a6 a7 a8 a9 a10 a11 a12 a13 a14 b6_marks b6_stroll g6_drawSeed g7_ways g7_texts g12_lines g7_wallCount f8 f9 f10 f11 g12_size f14 v1 g0_others f1 f2 f3 f4 f5 f13) := hD
  refine lv_aload_n hx hb dX4_leastLead_13 rfl (lv_at hl 0 rfl) ?_
  refine lv_aload_n hx hb dX4_leastLead_14 rfl (lv_at hl 1 rfl) ?_
  refine va_getN (D := (dC, dI)) (ci := 6) (v := .ref a7) (C := RX6) (T := TX6) (N := 5) hx hb hts inX4_leastLead_X6 hown hK hP 6 rfl rfl 0 (by decide) (va_Nw.use rfl (hN _ (List.mem_of_getElem? (i := 27) rfl))) (fun _ h9 => h9) rfl dX4_leastLead_15 ?_
  refine va_getN (D := (dC, dI)) (ci := 1) (v := .ref a8) (C := RX1) (T := TX1) (N := 7) hx hb hts inX4_leastLead_X1 hown hK hP 7 rfl rfl 2 (by decide) (va_Nw.use rfl (hN _ (List.mem_of_getElem? (i := 5) rfl))) (fun _ h9 => h9) rfl dX4_leastLead_18 ?_
  refine lv_iload hx hb dX4_leastLead_21 (lv_at hl 4 rfl) ?_
  obtain ⟨hi, hw⟩ := hw
  refine va_iald hx hb hK hP 8 0 rfl rfl hi dX4_leastLead_23 ?_
  refine lv_topi (fun v2 ev2 => ?_)
  have hw := hw v2 ev2
  refine va_put (D := (dC, dI)) (ci := 4) (v := .int v2) (ty := .int) (C := RX4) (T := TX4) (N := 7) hx hb hts inX4_leastLead_X4 tyX4 tyX4_ok nmX4 hown hK hP hD hS 0 rfl rfl 6 (by decide) (hts (.fieldLink RX4 31 "LeadPark$Pack" "others" "I") (List.mem_of_getElem? (i := 2) rfl)) (fun _ h9 => h9) rfl (by decide +kernel) rfl rfl (Nat.le_of_ble_eq_true rfl) dX4_leastLead_24 (fun H locs hP hD hS => ?_)
  have hP : va_P (dC, dI) vwCl (ceX4_leastLead cyI cyB cyJ cyZ a0 a1 a2 a3 a4 a5 a6 a7 a8 a9 a10 a11 a12 a13 a14 b6_marks b6_stroll g6_drawSeed g7_ways g7_texts g12_lines g7_wallCount f8 f9 f10 f11 g12_size f14 v1 v2 f1 f2 f3 f4 f5 f13) H := hP
  have hD : va_D A (ceX4_leastLead cyI cyB cyJ cyZ a0 a1 a2 a3 a4 a5 a6 a7 a8 a9 a10 a11 a12 a13 a14 b6_marks b6_stroll g6_drawSeed g7_ways g7_texts g12_lines g7_wallCount f8 f9 f10 f11 g12_size f14 v1 v2 f1 f2 f3 f4 f5 f13) := hD
  refine lv_aload_n hx hb dX4_leastLead_27 rfl (lv_at hl 0 rfl) ?_
  refine lv_aload_n hx hb dX4_leastLead_28 rfl (lv_at hl 1 rfl) ?_
  refine va_getN (D := (dC, dI)) (ci := 6) (v := .ref a7) (C := RX6) (T := TX6) (N := 5) hx hb hts inX4_leastLead_X6 hown hK hP 6 rfl rfl 0 (by decide) (va_Nw.use rfl (hN _ (List.mem_of_getElem? (i := 27) rfl))) (fun _ h9 => h9) rfl dX4_leastLead_29 ?_
  refine lv_iload_n hx hb dX4_leastLead_32 rfl (lv_at hl 3 rfl) ?_
  refine lv_iload hx hb dX4_leastLead_33 (lv_at hl 4 rfl) ?_
  refine lv_iload hx hb dX4_leastLead_35 (lv_at hl 5 rfl) ?_
  have hPc := hP.sub (ws' := (ceX4_measureBetween cyI cyB cyJ cyZ a0 a1 a7 a9 a10 a4 a5 a2 a3 a8 a11 g7_ways g7_wallCount g7_texts v1 v2 f9 f10 f1)) [0, 1, 7, 9, 10] rfl
  have hDc := hD.sub (ws' := (ceX4_measureBetween cyI cyB cyJ cyZ a0 a1 a7 a9 a10 a4 a5 a2 a3 a8 a11 g7_ways g7_wallCount g7_texts v1 v2 f9 f10 f1)) [0, 1, 7, 9, 10] (by decide) rfl
  have hFc := va_free (wc := (ceX4_measureBetween cyI cyB cyJ cyZ a0 a1 a7 a9 a10 a4 a5 a2 a3 a8 a11 g7_ways g7_wallCount g7_texts v1 v2 f9 f10 f1)) hD hS hA [0, 1, 7, 9, 10] rfl
  refine va_callv (va_runV (As := [.ref a7, .int p2, .int p3, .int p4]) (rest := []) ⟨hx, hb, hml, hown, hts⟩ (ctX4_measureBetween l dC dI cyI cyB cyJ cyZ _ a0 a1 a7 a9 a10 a4 a5 a2 a3 a8 a11 g7_ways g7_wallCount g7_texts v1 v2 f9 f10 f1 p2 p3 p4 _ hw) (cwV 4 hts gX4_leastLead_X4_measureBetween rfl rfl rfl (by decide +kernel) ⟨Nat.le_of_ble_eq_true rfl, Nat.le_of_ble_eq_true rfl⟩) ⟨wPre_blind, va_recv hK hPc (ci := 4) (q0 := 0) rfl rfl, fun U hU hW => wPre_of hPc hK hDc hN hU hW⟩ rfl rfl hl.1 rfl (lv_room (Nat.le_of_ble_eq_true rfl)) dX4_leastLead_37 ⟨(Nat.zero_le _), (Nat.zero_le _)⟩) hS (fun q _ h => hFc q h) hFc (fun u3 t H1 locs ht hvm hw hB hz1 hk1 hS => ?_)
  obtain ⟨hP1, hK1, hD1⟩ := hB
  rw [ht] at hP1
  obtain ⟨hP, hD⟩ := va_join (wr := pickW (ceX4_leastLead cyI cyB cyJ cyZ a0 a1 a2 a3 a4 a5 a6 a7 a8 a9 a10 a11 a12 a13 a14 b6_marks b6_stroll g6_drawSeed g7_ways g7_texts g12_lines g7_wallCount f8 f9 f10 f11 g12_size f14 v1 v2 f1 f2 f3 f4 f5 f13) [2, 3, 4, 5, 6, 8, 11, 12, 13, 14]) (w1 := (ceX4_measureBetween cyI cyB cyJ cyZ a0 a1 a7 a9 a10 a4 a5 a2 a3 a8 a11 g7_ways g7_wallCount g7_texts v1 v2 f9 f10 u3)) hP hD [0, 1, 7, 9, 10] [2, 3, 4, 5, 6, 8, 11, 12, 13, 14] rfl rfl (by decide) (by decide) hk1 hFc hP1 hD1
  have hP := hP.sub (ws' := (ceX4_leastLead cyI cyB cyJ cyZ a0 a1 a2 a3 a4 a5 a6 a7 a8 a9 a10 a11 a12 a13 a14 b6_marks b6_stroll g6_drawSeed g7_ways g7_texts g12_lines g7_wallCount f8 f9 f10 f11 g12_size f14 v1 v2 u3 f2 f3 f4 f5 f13)) [10, 11, 0, 1, 2, 3, 4, 12, 5, 13, 14, 6, 7, 8, 9] rfl
  have hD := hD.sub (ws' := (ceX4_leastLead cyI cyB cyJ cyZ a0 a1 a2 a3 a4 a5 a6 a7 a8 a9 a10 a11 a12 a13 a14 b6_marks b6_stroll g6_drawSeed g7_ways g7_texts g12_lines g7_wallCount f8 f9 f10 f11 g12_size f14 v1 v2 u3 f2 f3 f4 f5 f13)) [10, 11, 0, 1, 2, 3, 4, 12, 5, 13, 14, 6, 7, 8, 9] (by decide) rfl
  generalize H1 = H at hP hS ⊢
  refine lv_aload_n hx hb dX4_leastLead_40 rfl (lv_at hl 0 rfl) ?_
  refine va_get (D := (dC, dI)) (ci := 4) (v := .ref a2) (C := RX4) (T := TX4) (N := 7) hx hb hts inX4_leastLead_X4 hown hK hP 0 rfl rfl 3 (by decide) (hts (.fieldLink RX4 21 "LeadPark$Pack" "evenLayer" "[I") (List.mem_of_getElem? (i := 3) rfl)) (fun _ h9 => h9) rfl dX4_leastLead_41 ?_
  refine lv_ldc (v := 2147483647) hx hb hown (hts (.constant RX4 49 (2147483647)) (List.mem_of_getElem? (i := 4) rfl)) dX4_leastLead_44 ?_
  have hPc := hP.sub (ws' := (ceJ7_fill_53178 cyI cyB cyJ cyZ a2 961 f2)) [2] rfl
  have hDc := hD.sub (ws' := (ceJ7_fill_53178 cyI cyB cyJ cyZ a2 961 f2)) [2] (by decide) rfl
  have hFc := va_free (wc := (ceJ7_fill_53178 cyI cyB cyJ cyZ a2 961 f2)) hD hS hA [2] rfl
  refine va_callv (va_runS (As := [.ref a2, .int 2147483647]) (rest := []) ⟨hx, hb, hml, hown, hts⟩ (ctJ7_fill_53178 l dC dI cyI cyB cyJ cyZ _ a2 961 f2 2147483647 _ hw) (va_cwS 2 hts gX4_leastLead_J7_fill_53178 rfl rfl rfl (by decide +kernel) ⟨Nat.le_of_ble_eq_true rfl, Nat.le_of_ble_eq_true rfl⟩) ⟨wPre_blind, fun U hU hW => wPre_of hPc hK hDc hN hU hW⟩ rfl rfl hl.1 rfl (lv_room (Nat.le_of_ble_eq_true rfl)) dX4_leastLead_46 ⟨(Nat.zero_le _), (Nat.zero_le _)⟩) hS (fun q _ h => hFc q h) hFc (fun u4 t H1 locs ht hvm hw hB hz1 hk1 hS => ?_)
  obtain ⟨hP1, hK1, hD1⟩ := hB
  rw [ht] at hP1
  obtain ⟨hP, hD⟩ := va_join (wr := pickW (ceX4_leastLead cyI cyB cyJ cyZ a0 a1 a2 a3 a4 a5 a6 a7 a8 a9 a10 a11 a12 a13 a14 b6_marks b6_stroll g6_drawSeed g7_ways g7_texts g12_lines g7_wallCount f8 f9 f10 f11 g12_size f14 v1 v2 u3 f2 f3 f4 f5 f13) [0, 1, 3, 4, 5, 6, 7, 8, 9, 10, 11, 12, 13, 14]) (w1 := (ceJ7_fill_53178 cyI cyB cyJ cyZ a2 961 u4)) hP hD [2] [0, 1, 3, 4, 5, 6, 7, 8, 9, 10, 11, 12, 13, 14] rfl rfl (by decide) (by decide) hk1 hFc hP1 hD1
  have hP := hP.sub (ws' := (ceX4_leastLead cyI cyB cyJ cyZ a0 a1 a2 a3 a4 a5 a6 a7 a8 a9 a10 a11 a12 a13 a14 b6_marks b6_stroll g6_drawSeed g7_ways g7_texts g12_lines g7_wallCount f8 f9 f10 f11 g12_size f14 v1 v2 u3 u4 f3 f4 f5 f13)) [0, 1, 14, 2, 3, 4, 5, 6, 7, 8, 9, 10, 11, 12, 13] rfl
  have hD := hD.sub (ws' := (ceX4_leastLead cyI cyB cyJ cyZ a0 a1 a2 a3 a4 a5 a6 a7 a8 a9 a10 a11 a12 a13 a14 b6_marks b6_stroll g6_drawSeed g7_ways g7_texts g12_lines g7_wallCount f8 f9 f10 f11 g12_size f14 v1 v2 u3 u4 f3 f4 f5 f13)) [0, 1, 14, 2, 3, 4, 5, 6, 7, 8, 9, 10, 11, 12, 13] (by decide) rfl
  generalize H1 = H at hP hS ⊢
  refine lv_aload_n hx hb dX4_leastLead_49 rfl (lv_at hl 0 rfl) ?_
  refine va_get (D := (dC, dI)) (ci := 4) (v := .ref a3) (C := RX4) (T := TX4) (N := 7) hx hb hts inX4_leastLead_X4 hown hK hP 0 rfl rfl 4 (by decide) (hts (.fieldLink RX4 24 "LeadPark$Pack" "oddLayer" "[I") (List.mem_of_getElem? (i := 5) rfl)) (fun _ h9 => h9) rfl dX4_leastLead_50 ?_
  refine lv_ldc (v := 2147483647) hx hb hown (hts (.constant RX4 49 (2147483647)) (List.mem_of_getElem? (i := 4) rfl)) dX4_leastLead_53 ?_
  have hPc := hP.sub (ws' := (ceJ7_fill_53178 cyI cyB cyJ cyZ a3 961 f3)) [3] rfl
  have hDc := hD.sub (ws' := (ceJ7_fill_53178 cyI cyB cyJ cyZ a3 961 f3)) [3] (by decide) rfl
  have hFc := va_free (wc := (ceJ7_fill_53178 cyI cyB cyJ cyZ a3 961 f3)) hD hS hA [3] rfl
  refine va_callv (va_runS (As := [.ref a3, .int 2147483647]) (rest := []) ⟨hx, hb, hml, hown, hts⟩ (ctJ7_fill_53178 l dC dI cyI cyB cyJ cyZ _ a3 961 f3 2147483647 _ hw) (va_cwS 2 hts gX4_leastLead_J7_fill_53178 rfl rfl rfl (by decide +kernel) ⟨Nat.le_of_ble_eq_true rfl, Nat.le_of_ble_eq_true rfl⟩) ⟨wPre_blind, fun U hU hW => wPre_of hPc hK hDc hN hU hW⟩ rfl rfl hl.1 rfl (lv_room (Nat.le_of_ble_eq_true rfl)) dX4_leastLead_55 ⟨(Nat.zero_le _), (Nat.zero_le _)⟩) hS (fun q _ h => hFc q h) hFc (fun u5 t H1 locs ht hvm hw hB hz1 hk1 hS => ?_)
  obtain ⟨hP1, hK1, hD1⟩ := hB
  rw [ht] at hP1
  obtain ⟨hP, hD⟩ := va_join (wr := pickW (ceX4_leastLead cyI cyB cyJ cyZ a0 a1 a2 a3 a4 a5 a6 a7 a8 a9 a10 a11 a12 a13 a14 b6_marks b6_stroll g6_drawSeed g7_ways g7_texts g12_lines g7_wallCount f8 f9 f10 f11 g12_size f14 v1 v2 u3 u4 f3 f4 f5 f13) [0, 1, 2, 4, 5, 6, 7, 8, 9, 10, 11, 12, 13, 14]) (w1 := (ceJ7_fill_53178 cyI cyB cyJ cyZ a3 961 u5)) hP hD [3] [0, 1, 2, 4, 5, 6, 7, 8, 9, 10, 11, 12, 13, 14] rfl rfl (by decide) (by decide) hk1 hFc hP1 hD1
  have hP := hP.sub (ws' := (ceX4_leastLead cyI cyB cyJ cyZ a0 a1 a2 a3 a4 a5 a6 a7 a8 a9 a10 a11 a12 a13 a14 b6_marks b6_stroll g6_drawSeed g7_ways g7_texts g12_lines g7_wallCount f8 f9 f10 f11 g12_size f14 v1 v2 u3 u4 u5 f4 f5 f13)) [0, 1, 2, 14, 3, 4, 5, 6, 7, 8, 9, 10, 11, 12, 13] rfl
  have hD := hD.sub (ws' := (ceX4_leastLead cyI cyB cyJ cyZ a0 a1 a2 a3 a4 a5 a6 a7 a8 a9 a10 a11 a12 a13 a14 b6_marks b6_stroll g6_drawSeed g7_ways g7_texts g12_lines g7_wallCount f8 f9 f10 f11 g12_size f14 v1 v2 u3 u4 u5 f4 f5 f13)) [0, 1, 2, 14, 3, 4, 5, 6, 7, 8, 9, 10, 11, 12, 13] (by decide) rfl
  generalize H1 = H at hP hS ⊢
  refine lv_aload_n hx hb dX4_leastLead_58 rfl (lv_at hl 0 rfl) ?_
  refine va_get (D := (dC, dI)) (ci := 4) (v := .ref a2) (C := RX4) (T := TX4) (N := 7) hx hb hts inX4_leastLead_X4 hown hK hP 0 rfl rfl 3 (by decide) (hts (.fieldLink RX4 21 "LeadPark$Pack" "evenLayer" "[I") (List.mem_of_getElem? (i := 3) rfl)) (fun _ h9 => h9) rfl dX4_leastLead_59 ?_
  refine lv_astore (lv' := [(6, .ref a2), (0, .ref a0), (1, .ref a6), (2, .int p1), (3, .int p2), (4, .int p3), (5, .int p4)]) hx hb dX4_leastLead_62 hl (by decide) rfl (fun ls hl => ?_)
  refine lv_aload_n hx hb dX4_leastLead_64 rfl (lv_at hl 1 rfl) ?_
  refine va_get (D := (dC, dI)) (ci := 4) (v := .ref a3) (C := RX4) (T := TX4) (N := 7) hx hb hts inX4_leastLead_X4 hown hK hP 0 rfl rfl 4 (by decide) (hts (.fieldLink RX4 24 "LeadPark$Pack" "oddLayer" "[I") (List.mem_of_getElem? (i := 5) rfl)) (fun _ h9 => h9) rfl dX4_leastLead_65 ?_
  refine lv_astore (lv' := [(7, .ref a3), (6, .ref a2), (0, .ref a0), (1, .ref a6), (2, .int p1), (3, .int p2), (4, .int p3), (5, .int p4)]) hx hb dX4_leastLead_68 hl (by decide) rfl (fun ls hl => ?_)
  refine lv_aload hx hb dX4_leastLead_70 (lv_at hl 0 rfl) ?_
  refine lv_iconst (v := 0) hx hb dX4_leastLead_72 (by decide) ?_
  refine lv_iconst (v := 0) hx hb dX4_leastLead_73 (by decide) ?_
  obtain ⟨hi, hw⟩ := hw
  refine va_iast hx hb hK hP hD hS 3 0 rfl rfl hi dX4_leastLead_74 (fun H locs hP hD hS => ?_)
  have hP : va_P (dC, dI) vwCl (ceX4_leastLead cyI cyB cyJ cyZ a0 a1 a2 a3 a4 a5 a6 a7 a8 a9 a10 a11 a12 a13 a14 b6_marks b6_stroll g6_drawSeed g7_ways g7_texts g12_lines g7_wallCount f8 f9 f10 f11 g12_size f14 v1 v2 u3 u4 (upd u5 (0 : Int32).toNatClampNeg 0) f4 f5 f13) H := hP
  have hD : va_D A (ceX4_leastLead cyI cyB cyJ cyZ a0 a1 a2 a3 a4 a5 a6 a7 a8 a9 a10 a11 a12 a13 a14 b6_marks b6_stroll g6_drawSeed g7_ways g7_texts g12_lines g7_wallCount f8 f9 f10 f11 g12_size f14 v1 v2 u3 u4 (upd u5 (0 : Int32).toNatClampNeg 0) f4 f5 f13) := hD
  refine lv_iconst (v := 0) hx hb dX4_leastLead_75 (by decide) ?_
  refine lv_istore (lv' := [(8, .int 0), (7, .ref a3), (6, .ref a2), (0, .ref a0), (1, .ref a6), (2, .int p1), (3, .int p2), (4, .int p3), (5, .int p4)]) hx hb dX4_leastLead_76 hl (by decide) rfl (fun ls hl => ?_)
  obtain ⟨nn, hw⟩ := hw
  exact bX4_leastLead_78 C0 hK hN hA hQ nn v1 v2 u3 u4 (upd u5 (0 : Int32).toNatClampNeg 0) f4 f5 f13 p1 p2 p3 p4 0 hw _ _ hP hD hS ls (lv_sub hl [3, 4, 5, 6, 7, 8, 2, 1, 0] rfl)
