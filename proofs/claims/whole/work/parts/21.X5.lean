/-! LeadPark$Pieces.layPoints (LLeadPark$Ground;II[I[I)I -/
abbrev ceX5_layPoints (cyI cyB cyJ cyZ : ClassId) (a0 a1 a2 a3 a4 a5 b0_walls n4 n5 : Nat) (g0_ways : Int32) (g0_wallCount : Int32) (g0_texts : Int32) (f1 : Nat → Int32) (f2 : Nat → Int32) (f3 : Nat → Int32) (f4 : Nat → Int32) (f5 : Nat → Int32) : va_W := [(a0, .inr (1, [.ref a2, .ref a3, .ref a1, .ref b0_walls, .int g0_ways, .int g0_wallCount, .int g0_texts])), (a1, .inl (cyI, 12, .inl f1)), (a2, .inl (cyI, 360, .inl f2)), (a3, .inl (cyI, 360, .inl f3)), (a4, .inl (cyI, n4, .inl f4)), (a5, .inl (cyI, n5, .inl f5))]

theorem inX5_layPoints_X1 : ∀ w ∈ wsX10, w ∈ wsX5_layPoints := fun _ h => List.mem_cons_of_mem _ (List.mem_append_right _ h)
abbrev rmX5_layPoints : Room := { frames := 1, cells := 0, slots := 0, locals := 22 }
set_option maxRecDepth 100000 in
set_option maxHeartbeats 4000000 in
theorem bX5_layPoints_26 {p : Program} {l : Launch} {e : Env} {s : State} {m : MethodId} {args : Array Value} {below : List Frame} {meth : Method} {c : Code} {dC : Nat → ClassId} {dI : Nat → Nat → Nat} {cyI cyB cyJ cyZ : ClassId} {A : Nat → Prop} {a0 a1 a2 a3 a4 a5 b0_walls n4 n5 : Nat} {g0_ways : Int32} {g0_wallCount : Int32} {g0_texts : Int32} (C0 : cxM p s m meth c args wsX5_layPoints RX5 cX5_layPoints 9 (some .int)) (hK : va_K (dC, dI) vwCl (tyA cyI cyB cyJ cyZ) s) (hN : nwA s) (hA : ∀ q : Nat, s.heap.size ≤ q → A q) {post : Int32 → ((Nat → Int32) × (Nat → Int32)) → Prop} {f1 : Nat → Int32} {f2 : Nat → Int32} {f3 : Nat → Int32} {k16 : (Nat → Int32) → (Nat → Int32) → Int32 → Int32 → Int32 → Int32 → Int32 → Prop} {Q : State → Prop} (hQ : Q = MQ below (va_Qi post (fun u : (Nat → Int32) × (Nat → Int32) => wAt dC dI cyI cyB cyJ cyZ A (ceX5_layPoints cyI cyB cyJ cyZ a0 a1 a2 a3 a4 a5 b0_walls n4 n5 g0_ways g0_wallCount g0_texts f1 f2 f3 u.1 u.2)) A) args s 0 0 A) (hk16 : ∀ (f4 : Nat → Int32) (f5 : Nat → Int32) (x1 : Int32) (x2 : Int32) (x5 : Int32) (x6 : Int32) (x7 : Int32), k16 f4 f5 x1 x2 x5 x6 x7 → AtW p l e rmX5_layPoints s m args below meth c dC dI A Q 9 0 0 (ceX5_layPoints cyI cyB cyJ cyZ a0 a1 a2 a3 a4 a5 b0_walls n4 n5 g0_ways g0_wallCount g0_texts f1 f2 f3 f4 f5) [(0, .ref a0), (1, .int x1), (2, .int x2), (3, .ref a4), (4, .ref a5), (5, .int x5), (6, .int x6), (7, .int x7)] 16 []) : ∀ (n : Nat) (f4 : Nat → Int32) (f5 : Nat → Int32) (x1 : Int32) (x2 : Int32) (x5 : Int32) (x6 : Int32) (x7 : Int32) (x8 : Int32), wpX5_layPoints_26 n4 n5 k16 post f1 f2 f3 n f4 f5 x1 x2 x5 x6 x7 x8 → AtW p l e rmX5_layPoints s m args below meth c dC dI A Q 9 0 0 (ceX5_layPoints cyI cyB cyJ cyZ a0 a1 a2 a3 a4 a5 b0_walls n4 n5 g0_ways g0_wallCount g0_texts f1 f2 f3 f4 f5) [(0, .ref a0), (1, .int x1), (2, .int x2), (3, .ref a4), (4, .ref a5), (5, .int x5), (6, .int x6), (7, .int x7), (8, .int x8)] 26 [] := by
  intro n
  induction n with
  | zero => intro f4 f5 x1 x2 x5 x6 x7 x8 hw; exact False.elim hw
  | succ n ih =>
    intro f4 f5 x1 x2 x5 x6 x7 x8 hw H locs hP hD hS ls hl
    have C1 := C0
    obtain ⟨hx, hb, hr, hml, hown, hts, hlocks⟩ := C1
    refine lv_iload hx hb dX5_layPoints_26 (lv_at hl 8 rfl) ?_
    refine lv_iload_n hx hb dX5_layPoints_28 rfl (lv_at hl 2 rfl) ?_
    refine lv_icmp_ge (tgt := 100) hx hb dX5_layPoints_29 (by decide) (fun hc => ?_) (fun hc => ?_)
    · have hw := hw.1 hc
      obtain ⟨v1, ev1⟩ : ∃ y : Int32, y = x7 + 1 := ⟨_, rfl⟩
      have hw := hw v1 ev1
      refine lv_iinc (v := v1) (lv' := [(7, .int v1), (0, .ref a0), (1, .int x1), (2, .int x2), (3, .ref a4), (4, .ref a5), (5, .int x5), (6, .int x6), (8, .int x8)]) hx hb dX5_layPoints_100 hl (k := 7) rfl (by rw [ev1]; rfl) (by decide) rfl (fun ls hl => ?_)
      refine lv_goto (tgt := 16) hx hb dX5_layPoints_103 (by decide) ?_
      exact hk16 f4 f5 x1 x2 x5 x6 v1 hw H locs hP hD hS ls (lv_sub hl [1, 2, 3, 4, 5, 6, 7, 0] rfl)
    · have hw := hw.2 hc
      refine lv_aload_n hx hb dX5_layPoints_32 rfl (lv_at hl 3 rfl) ?_
      refine lv_iload hx hb dX5_layPoints_33 (lv_at hl 6 rfl) ?_
      refine lv_aload_n hx hb dX5_layPoints_35 rfl (lv_at hl 0 rfl) ?_
      refine lv_iload_n hx hb dX5_layPoints_36 rfl (lv_at hl 1 rfl) ?_
      refine lv_iload hx hb dX5_layPoints_37 (lv_at hl 7 rfl) ?_
      have hPc := hP.sub (ws' := (ceX1_xOf cyI cyB cyJ cyZ a0 a2 a3 a1 b0_walls g0_ways g0_wallCount g0_texts f2)) [0, 2] rfl
      have hDc := hD.sub (ws' := (ceX1_xOf cyI cyB cyJ cyZ a0 a2 a3 a1 b0_walls g0_ways g0_wallCount g0_texts f2)) [0, 2] (by decide) rfl
      have hFc := va_free (wc := (ceX1_xOf cyI cyB cyJ cyZ a0 a2 a3 a1 b0_walls g0_ways g0_wallCount g0_texts f2)) hD hS hA [0, 2] rfl
      refine va_calli (va_runV (As := [.int x1, .int x7]) (rest := [.int x6, .ref a4]) ⟨hx, hb, hml, hown, hts⟩ (ctX1_xOf l dC dI cyI cyB cyJ cyZ _ a0 a2 a3 a1 b0_walls g0_ways g0_wallCount g0_texts f2 x1 x7 _ hw) (cwV 2 hts gX5_layPoints_X1_xOf rfl rfl rfl (by decide +kernel) ⟨Nat.le_of_ble_eq_true rfl, Nat.le_of_ble_eq_true rfl⟩) ⟨wPre_blind, va_recv hK hPc (ci := 1) (q0 := 0) rfl rfl, fun U hU hW => wPre_of hPc hK hDc hN hU hW⟩ rfl rfl hl.1 rfl (lv_room (Nat.le_of_ble_eq_true rfl)) dX5_layPoints_39 ⟨(Nat.zero_le _), (Nat.zero_le _)⟩) hS (fun q _ h => hFc q h) hFc (fun r3 u2 t H1 locs ht hvm hw hB hz1 hk1 hS => ?_)
      obtain ⟨hP1, hK1, hD1⟩ := hB
      rw [ht] at hP1
      obtain ⟨hP, hD⟩ := va_join (wr := pickW (ceX5_layPoints cyI cyB cyJ cyZ a0 a1 a2 a3 a4 a5 b0_walls n4 n5 g0_ways g0_wallCount g0_texts f1 f2 f3 f4 f5) [1, 3, 4, 5]) (w1 := (ceX1_xOf cyI cyB cyJ cyZ a0 a2 a3 a1 b0_walls g0_ways g0_wallCount g0_texts f2)) hP hD [0, 2] [1, 3, 4, 5] rfl rfl (by decide) (by decide) hk1 hFc hP1 hD1
      have hP := hP.sub (ws' := (ceX5_layPoints cyI cyB cyJ cyZ a0 a1 a2 a3 a4 a5 b0_walls n4 n5 g0_ways g0_wallCount g0_texts f1 f2 f3 f4 f5)) [4, 0, 5, 1, 2, 3] rfl
      have hD := hD.sub (ws' := (ceX5_layPoints cyI cyB cyJ cyZ a0 a1 a2 a3 a4 a5 b0_walls n4 n5 g0_ways g0_wallCount g0_texts f1 f2 f3 f4 f5)) [4, 0, 5, 1, 2, 3] (by decide) rfl
      generalize H1 = H at hP hS ⊢
      refine lv_iload_n hx hb dX5_layPoints_42 rfl (lv_at hl 2 rfl) ?_
      refine lv_iload hx hb dX5_layPoints_43 (lv_at hl 8 rfl) ?_
      refine lv_isub hx hb dX5_layPoints_45 ?_
      refine lv_imul hx hb dX5_layPoints_46 ?_
      refine lv_aload_n hx hb dX5_layPoints_47 rfl (lv_at hl 0 rfl) ?_
      refine lv_iload_n hx hb dX5_layPoints_48 rfl (lv_at hl 1 rfl) ?_
      refine lv_iload hx hb dX5_layPoints_49 (lv_at hl 7 rfl) ?_
      refine lv_iconst (v := 1) hx hb dX5_layPoints_51 (by decide) ?_
      refine lv_iadd hx hb dX5_layPoints_52 ?_
      have hPc := hP.sub (ws' := (ceX1_xOf cyI cyB cyJ cyZ a0 a2 a3 a1 b0_walls g0_ways g0_wallCount g0_texts f2)) [0, 2] rfl
      have hDc := hD.sub (ws' := (ceX1_xOf cyI cyB cyJ cyZ a0 a2 a3 a1 b0_walls g0_ways g0_wallCount g0_texts f2)) [0, 2] (by decide) rfl
      have hFc := va_free (wc := (ceX1_xOf cyI cyB cyJ cyZ a0 a2 a3 a1 b0_walls g0_ways g0_wallCount g0_texts f2)) hD hS hA [0, 2] rfl
      refine va_calli (va_runV (As := [.int x1, .int (x7 + 1)]) (rest := [.int (r3 * (x2 - x8)), .int x6, .ref a4]) ⟨hx, hb, hml, hown, hts⟩ (ctX1_xOf l dC dI cyI cyB cyJ cyZ _ a0 a2 a3 a1 b0_walls g0_ways g0_wallCount g0_texts f2 x1 (x7 + 1) _ hw) (cwV 2 hts gX5_layPoints_X1_xOf rfl rfl rfl (by decide +kernel) ⟨Nat.le_of_ble_eq_true rfl, Nat.le_of_ble_eq_true rfl⟩) ⟨wPre_blind, va_recv hK hPc (ci := 1) (q0 := 0) rfl rfl, fun U hU hW => wPre_of hPc hK hDc hN hU hW⟩ rfl rfl hl.1 rfl (lv_room (Nat.le_of_ble_eq_true rfl)) dX5_layPoints_53 ⟨(Nat.zero_le _), (Nat.zero_le _)⟩) hS (fun q _ h => hFc q h) hFc (fun r5 u4 t H1 locs ht hvm hw hB hz1 hk1 hS => ?_)
      obtain ⟨hP1, hK1, hD1⟩ := hB
      rw [ht] at hP1
      obtain ⟨hP, hD⟩ := va_join (wr := pickW (ceX5_layPoints cyI cyB cyJ cyZ a0 a1 a2 a3 a4 a5 b0_walls n4 n5 g0_ways g0_wallCount g0_texts f1 f2 f3 f4 f5) [1, 3, 4, 5]) (w1 := (ceX1_xOf cyI cyB cyJ cyZ a0 a2 a3 a1 b0_walls g0_ways g0_wallCount g0_texts f2)) hP hD [0, 2] [1, 3, 4, 5] rfl rfl (by decide) (by decide) hk1 hFc hP1 hD1
      have hP := hP.sub (ws' := (ceX5_layPoints cyI cyB cyJ cyZ a0 a1 a2 a3 a4 a5 b0_walls n4 n5 g0_ways g0_wallCount g0_texts f1 f2 f3 f4 f5)) [4, 0, 5, 1, 2, 3] rfl
      have hD := hD.sub (ws' := (ceX5_layPoints cyI cyB cyJ cyZ a0 a1 a2 a3 a4 a5 b0_walls n4 n5 g0_ways g0_wallCount g0_texts f1 f2 f3 f4 f5)) [4, 0, 5, 1, 2, 3] (by decide) rfl
      generalize H1 = H at hP hS ⊢
      refine lv_iload hx hb dX5_layPoints_56 (lv_at hl 8 rfl) ?_
      refine lv_imul hx hb dX5_layPoints_58 ?_
      refine lv_iadd hx hb dX5_layPoints_59 ?_
      obtain ⟨hi, hw⟩ := hw
      refine va_iast hx hb hK hP hD hS 4 0 rfl rfl hi dX5_layPoints_60 (fun H locs hP hD hS => ?_)
      have hP : va_P (dC, dI) vwCl (ceX5_layPoints cyI cyB cyJ cyZ a0 a1 a2 a3 a4 a5 b0_walls n4 n5 g0_ways g0_wallCount g0_texts f1 f2 f3 (upd f4 x6.toNatClampNeg ((r3 * (x2 - x8)) + (r5 * x8))) f5) H := hP
      have hD : va_D A (ceX5_layPoints cyI cyB cyJ cyZ a0 a1 a2 a3 a4 a5 b0_walls n4 n5 g0_ways g0_wallCount g0_texts f1 f2 f3 (upd f4 x6.toNatClampNeg ((r3 * (x2 - x8)) + (r5 * x8))) f5) := hD
      refine lv_aload hx hb dX5_layPoints_61 (lv_at hl 4 rfl) ?_
      refine lv_iload hx hb dX5_layPoints_63 (lv_at hl 6 rfl) ?_
      refine lv_aload_n hx hb dX5_layPoints_65 rfl (lv_at hl 0 rfl) ?_
      refine lv_iload_n hx hb dX5_layPoints_66 rfl (lv_at hl 1 rfl) ?_
      refine lv_iload hx hb dX5_layPoints_67 (lv_at hl 7 rfl) ?_
      have hPc := hP.sub (ws' := (ceX1_yOf cyI cyB cyJ cyZ a0 a3 a2 a1 b0_walls g0_ways g0_wallCount g0_texts f3)) [0, 3] rfl
      have hDc := hD.sub (ws' := (ceX1_yOf cyI cyB cyJ cyZ a0 a3 a2 a1 b0_walls g0_ways g0_wallCount g0_texts f3)) [0, 3] (by decide) rfl
      have hFc := va_free (wc := (ceX1_yOf cyI cyB cyJ cyZ a0 a3 a2 a1 b0_walls g0_ways g0_wallCount g0_texts f3)) hD hS hA [0, 3] rfl
      refine va_calli (va_runV (As := [.int x1, .int x7]) (rest := [.int x6, .ref a5]) ⟨hx, hb, hml, hown, hts⟩ (ctX1_yOf l dC dI cyI cyB cyJ cyZ _ a0 a3 a2 a1 b0_walls g0_ways g0_wallCount g0_texts f3 x1 x7 _ hw) (cwV 2 hts gX5_layPoints_X1_yOf rfl rfl rfl (by decide +kernel) ⟨Nat.le_of_ble_eq_true rfl, Nat.le_of_ble_eq_true rfl⟩) ⟨wPre_blind, va_recv hK hPc (ci := 1) (q0 := 0) rfl rfl, fun U hU hW => wPre_of hPc hK hDc hN hU hW⟩ rfl rfl hl.1 rfl (lv_room (Nat.le_of_ble_eq_true rfl)) dX5_layPoints_69 ⟨(Nat.zero_le _), (Nat.zero_le _)⟩) hS (fun q _ h => hFc q h) hFc (fun r7 u6 t H1 locs ht hvm hw hB hz1 hk1 hS => ?_)
      obtain ⟨hP1, hK1, hD1⟩ := hB
      rw [ht] at hP1
      obtain ⟨hP, hD⟩ := va_join (wr := pickW (ceX5_layPoints cyI cyB cyJ cyZ a0 a1 a2 a3 a4 a5 b0_walls n4 n5 g0_ways g0_wallCount g0_texts f1 f2 f3 (upd f4 x6.toNatClampNeg ((r3 * (x2 - x8)) + (r5 * x8))) f5) [1, 2, 4, 5]) (w1 := (ceX1_yOf cyI cyB cyJ cyZ a0 a3 a2 a1 b0_walls g0_ways g0_wallCount g0_texts f3)) hP hD [0, 3] [1, 2, 4, 5] rfl rfl (by decide) (by decide) hk1 hFc hP1 hD1
      have hP := hP.sub (ws' := (ceX5_layPoints cyI cyB cyJ cyZ a0 a1 a2 a3 a4 a5 b0_walls n4 n5 g0_ways g0_wallCount g0_texts f1 f2 f3 (upd f4 x6.toNatClampNeg ((r3 * (x2 - x8)) + (r5 * x8))) f5)) [4, 0, 1, 5, 2, 3] rfl
      have hD := hD.sub (ws' := (ceX5_layPoints cyI cyB cyJ cyZ a0 a1 a2 a3 a4 a5 b0_walls n4 n5 g0_ways g0_wallCount g0_texts f1 f2 f3 (upd f4 x6.toNatClampNeg ((r3 * (x2 - x8)) + (r5 * x8))) f5)) [4, 0, 1, 5, 2, 3] (by decide) rfl
      generalize H1 = H at hP hS ⊢
      refine lv_iload_n hx hb dX5_layPoints_72 rfl (lv_at hl 2 rfl) ?_
      refine lv_iload hx hb dX5_layPoints_73 (lv_at hl 8 rfl) ?_
      refine lv_isub hx hb dX5_layPoints_75 ?_
      refine lv_imul hx hb dX5_layPoints_76 ?_
      refine lv_aload_n hx hb dX5_layPoints_77 rfl (lv_at hl 0 rfl) ?_
      refine lv_iload_n hx hb dX5_layPoints_78 rfl (lv_at hl 1 rfl) ?_
      refine lv_iload hx hb dX5_layPoints_79 (lv_at hl 7 rfl) ?_
      refine lv_iconst (v := 1) hx hb dX5_layPoints_81 (by decide) ?_
      refine lv_iadd hx hb dX5_layPoints_82 ?_
      have hPc := hP.sub (ws' := (ceX1_yOf cyI cyB cyJ cyZ a0 a3 a2 a1 b0_walls g0_ways g0_wallCount g0_texts f3)) [0, 3] rfl
      have hDc := hD.sub (ws' := (ceX1_yOf cyI cyB cyJ cyZ a0 a3 a2 a1 b0_walls g0_ways g0_wallCount g0_texts f3)) [0, 3] (by decide) rfl
      have hFc := va_free (wc := (ceX1_yOf cyI cyB cyJ cyZ a0 a3 a2 a1 b0_walls g0_ways g0_wallCount g0_texts f3)) hD hS hA [0, 3] rfl
      refine va_calli (va_runV (As := [.int x1, .int (x7 + 1)]) (rest := [.int (r7 * (x2 - x8)), .int x6, .ref a5]) ⟨hx, hb, hml, hown, hts⟩ (ctX1_yOf l dC dI cyI cyB cyJ cyZ _ a0 a3 a2 a1 b0_walls g0_ways g0_wallCount g0_texts f3 x1 (x7 + 1) _ hw) (cwV 2 hts gX5_layPoints_X1_yOf rfl rfl rfl (by decide +kernel) ⟨Nat.le_of_ble_eq_true rfl, Nat.le_of_ble_eq_true rfl⟩) ⟨wPre_blind, va_recv hK hPc (ci := 1) (q0 := 0) rfl rfl, fun U hU hW => wPre_of hPc hK hDc hN hU hW⟩ rfl rfl hl.1 rfl (lv_room (Nat.le_of_ble_eq_true rfl)) dX5_layPoints_83 ⟨(Nat.zero_le _), (Nat.zero_le _)⟩) hS (fun q _ h => hFc q h) hFc (fun r9 u8 t H1 locs ht hvm hw hB hz1 hk1 hS => ?_)
      obtain ⟨hP1, hK1, hD1⟩ := hB
      rw [ht] at hP1
      obtain ⟨hP, hD⟩ := va_join (wr := pickW (ceX5_layPoints cyI cyB cyJ cyZ a0 a1 a2 a3 a4 a5 b0_walls n4 n5 g0_ways g0_wallCount g0_texts f1 f2 f3 (upd f4 x6.toNatClampNeg ((r3 * (x2 - x8)) + (r5 * x8))) f5) [1, 2, 4, 5]) (w1 := (ceX1_yOf cyI cyB cyJ cyZ a0 a3 a2 a1 b0_walls g0_ways g0_wallCount g0_texts f3)) hP hD [0, 3] [1, 2, 4, 5] rfl rfl (by decide) (by decide) hk1 hFc hP1 hD1
      have hP := hP.sub (ws' := (ceX5_layPoints cyI cyB cyJ cyZ a0 a1 a2 a3 a4 a5 b0_walls n4 n5 g0_ways g0_wallCount g0_texts f1 f2 f3 (upd f4 x6.toNatClampNeg ((r3 * (x2 - x8)) + (r5 * x8))) f5)) [4, 0, 1, 5, 2, 3] rfl
      have hD := hD.sub (ws' := (ceX5_layPoints cyI cyB cyJ cyZ a0 a1 a2 a3 a4 a5 b0_walls n4 n5 g0_ways g0_wallCount g0_texts f1 f2 f3 (upd f4 x6.toNatClampNeg ((r3 * (x2 - x8)) + (r5 * x8))) f5)) [4, 0, 1, 5, 2, 3] (by decide) rfl
      generalize H1 = H at hP hS ⊢
      refine lv_iload hx hb dX5_layPoints_86 (lv_at hl 8 rfl) ?_
      refine lv_imul hx hb dX5_layPoints_88 ?_
      refine lv_iadd hx hb dX5_layPoints_89 ?_
      obtain ⟨hi, hw⟩ := hw
      refine va_iast hx hb hK hP hD hS 5 0 rfl rfl hi dX5_layPoints_90 (fun H locs hP hD hS => ?_)
      have hP : va_P (dC, dI) vwCl (ceX5_layPoints cyI cyB cyJ cyZ a0 a1 a2 a3 a4 a5 b0_walls n4 n5 g0_ways g0_wallCount g0_texts f1 f2 f3 (upd f4 x6.toNatClampNeg ((r3 * (x2 - x8)) + (r5 * x8))) (upd f5 x6.toNatClampNeg ((r7 * (x2 - x8)) + (r9 * x8)))) H := hP
      have hD : va_D A (ceX5_layPoints cyI cyB cyJ cyZ a0 a1 a2 a3 a4 a5 b0_walls n4 n5 g0_ways g0_wallCount g0_texts f1 f2 f3 (upd f4 x6.toNatClampNeg ((r3 * (x2 - x8)) + (r5 * x8))) (upd f5 x6.toNatClampNeg ((r7 * (x2 - x8)) + (r9 * x8)))) := hD
      obtain ⟨v10, ev10⟩ : ∃ y : Int32, y = x6 + 1 := ⟨_, rfl⟩
      have hw := hw v10 ev10
      refine lv_iinc (v := v10) (lv' := [(6, .int v10), (0, .ref a0), (1, .int x1), (2, .int x2), (3, .ref a4), (4, .ref a5), (5, .int x5), (7, .int x7), (8, .int x8)]) hx hb dX5_layPoints_91 hl (k := 6) rfl (by rw [ev10]; rfl) (by decide) rfl (fun ls hl => ?_)
      obtain ⟨v11, ev11⟩ : ∃ y : Int32, y = x8 + 1 := ⟨_, rfl⟩
      have hw := hw v11 ev11
      refine lv_iinc (v := v11) (lv' := [(8, .int v11), (6, .int v10), (0, .ref a0), (1, .int x1), (2, .int x2), (3, .ref a4), (4, .ref a5), (5, .int x5), (7, .int x7)]) hx hb dX5_layPoints_94 hl (k := 8) rfl (by rw [ev11]; rfl) (by decide) rfl (fun ls hl => ?_)
      refine lv_goto (tgt := 26) hx hb dX5_layPoints_97 (by decide) ?_
      exact ih (upd f4 x6.toNatClampNeg ((r3 * (x2 - x8)) + (r5 * x8))) (upd f5 x6.toNatClampNeg ((r7 * (x2 - x8)) + (r9 * x8))) x1 x2 x5 v10 x7 v11 hw H locs hP hD hS ls (lv_sub hl [2, 3, 4, 5, 6, 7, 1, 8, 0] rfl)
set_option maxRecDepth 100000 in
set_option maxHeartbeats 4000000 in
theorem bX5_layPoints_16 {p : Program} {l : Launch} {e : Env} {s : State} {m : MethodId} {args : Array Value} {below : List Frame} {meth : Method} {c : Code} {dC : Nat → ClassId} {dI : Nat → Nat → Nat} {cyI cyB cyJ cyZ : ClassId} {A : Nat → Prop} {a0 a1 a2 a3 a4 a5 b0_walls n4 n5 : Nat} {g0_ways : Int32} {g0_wallCount : Int32} {g0_texts : Int32} (C0 : cxM p s m meth c args wsX5_layPoints RX5 cX5_layPoints 9 (some .int)) (hK : va_K (dC, dI) vwCl (tyA cyI cyB cyJ cyZ) s) (hN : nwA s) (hA : ∀ q : Nat, s.heap.size ≤ q → A q) {post : Int32 → ((Nat → Int32) × (Nat → Int32)) → Prop} {f1 : Nat → Int32} {f2 : Nat → Int32} {f3 : Nat → Int32} {Q : State → Prop} (hQ : Q = MQ below (va_Qi post (fun u : (Nat → Int32) × (Nat → Int32) => wAt dC dI cyI cyB cyJ cyZ A (ceX5_layPoints cyI cyB cyJ cyZ a0 a1 a2 a3 a4 a5 b0_walls n4 n5 g0_ways g0_wallCount g0_texts f1 f2 f3 u.1 u.2)) A) args s 0 0 A) : ∀ (n : Nat) (f4 : Nat → Int32) (f5 : Nat → Int32) (x1 : Int32) (x2 : Int32) (x5 : Int32) (x6 : Int32) (x7 : Int32), wpX5_layPoints_16 n4 n5 post f1 f2 f3 n f4 f5 x1 x2 x5 x6 x7 → AtW p l e rmX5_layPoints s m args below meth c dC dI A Q 9 0 0 (ceX5_layPoints cyI cyB cyJ cyZ a0 a1 a2 a3 a4 a5 b0_walls n4 n5 g0_ways g0_wallCount g0_texts f1 f2 f3 f4 f5) [(0, .ref a0), (1, .int x1), (2, .int x2), (3, .ref a4), (4, .ref a5), (5, .int x5), (6, .int x6), (7, .int x7)] 16 [] := by
  intro n
  induction n with
  | zero => intro f4 f5 x1 x2 x5 x6 x7 hw; exact False.elim hw
  | succ n ih =>
    intro f4 f5 x1 x2 x5 x6 x7 hw H locs hP hD hS ls hl
    have C1 := C0
    obtain ⟨hx, hb, hr, hml, hown, hts, hlocks⟩ := C1
    refine lv_iload hx hb dX5_layPoints_16 (lv_at hl 7 rfl) ?_
    refine lv_iload hx hb dX5_layPoints_18 (lv_at hl 5 rfl) ?_
    refine lv_icmp_ge (tgt := 106) hx hb dX5_layPoints_20 (by decide) (fun hc => ?_) (fun hc => ?_)
    · have hw := hw.1 hc
      refine lv_aload_n hx hb dX5_layPoints_106 rfl (lv_at hl 3 rfl) ?_
      refine lv_iload hx hb dX5_layPoints_107 (lv_at hl 6 rfl) ?_
      refine lv_aload_n hx hb dX5_layPoints_109 rfl (lv_at hl 0 rfl) ?_
      refine lv_iload_n hx hb dX5_layPoints_110 rfl (lv_at hl 1 rfl) ?_
      refine lv_iload hx hb dX5_layPoints_111 (lv_at hl 5 rfl) ?_
      have hPc := hP.sub (ws' := (ceX1_xOf cyI cyB cyJ cyZ a0 a2 a3 a1 b0_walls g0_ways g0_wallCount g0_texts f2)) [0, 2] rfl
      have hDc := hD.sub (ws' := (ceX1_xOf cyI cyB cyJ cyZ a0 a2 a3 a1 b0_walls g0_ways g0_wallCount g0_texts f2)) [0, 2] (by decide) rfl
      have hFc := va_free (wc := (ceX1_xOf cyI cyB cyJ cyZ a0 a2 a3 a1 b0_walls g0_ways g0_wallCount g0_texts f2)) hD hS hA [0, 2] rfl
      refine va_calli (va_runV (As := [.int x1, .int x5]) (rest := [.int x6, .ref a4]) ⟨hx, hb, hml, hown, hts⟩ (ctX1_xOf l dC dI cyI cyB cyJ cyZ _ a0 a2 a3 a1 b0_walls g0_ways g0_wallCount g0_texts f2 x1 x5 _ hw) (cwV 2 hts gX5_layPoints_X1_xOf rfl rfl rfl (by decide +kernel) ⟨Nat.le_of_ble_eq_true rfl, Nat.le_of_ble_eq_true rfl⟩) ⟨wPre_blind, va_recv hK hPc (ci := 1) (q0 := 0) rfl rfl, fun U hU hW => wPre_of hPc hK hDc hN hU hW⟩ rfl rfl hl.1 rfl (lv_room (Nat.le_of_ble_eq_true rfl)) dX5_layPoints_113 ⟨(Nat.zero_le _), (Nat.zero_le _)⟩) hS (fun q _ h => hFc q h) hFc (fun r2 u1 t H1 locs ht hvm hw hB hz1 hk1 hS => ?_)
      obtain ⟨hP1, hK1, hD1⟩ := hB
      rw [ht] at hP1
      obtain ⟨hP, hD⟩ := va_join (wr := pickW (ceX5_layPoints cyI cyB cyJ cyZ a0 a1 a2 a3 a4 a5 b0_walls n4 n5 g0_ways g0_wallCount g0_texts f1 f2 f3 f4 f5) [1, 3, 4, 5]) (w1 := (ceX1_xOf cyI cyB cyJ cyZ a0 a2 a3 a1 b0_walls g0_ways g0_wallCount g0_texts f2)) hP hD [0, 2] [1, 3, 4, 5] rfl rfl (by decide) (by decide) hk1 hFc hP1 hD1
      have hP := hP.sub (ws' := (ceX5_layPoints cyI cyB cyJ cyZ a0 a1 a2 a3 a4 a5 b0_walls n4 n5 g0_ways g0_wallCount g0_texts f1 f2 f3 f4 f5)) [4, 0, 5, 1, 2, 3] rfl
      have hD := hD.sub (ws' := (ceX5_layPoints cyI cyB cyJ cyZ a0 a1 a2 a3 a4 a5 b0_walls n4 n5 g0_ways g0_wallCount g0_texts f1 f2 f3 f4 f5)) [4, 0, 5, 1, 2, 3] (by decide) rfl
      generalize H1 = H at hP hS ⊢
      refine lv_iload_n hx hb dX5_layPoints_116 rfl (lv_at hl 2 rfl) ?_
      refine lv_imul hx hb dX5_layPoints_117 ?_
      obtain ⟨hi, hw⟩ := hw
      refine va_iast hx hb hK hP hD hS 4 0 rfl rfl hi dX5_layPoints_118 (fun H locs hP hD hS => ?_)
      have hP : va_P (dC, dI) vwCl (ceX5_layPoints cyI cyB cyJ cyZ a0 a1 a2 a3 a4 a5 b0_walls n4 n5 g0_ways g0_wallCount g0_texts f1 f2 f3 (upd f4 x6.toNatClampNeg (r2 * x2)) f5) H := hP
      have hD : va_D A (ceX5_layPoints cyI cyB cyJ cyZ a0 a1 a2 a3 a4 a5 b0_walls n4 n5 g0_ways g0_wallCount g0_texts f1 f2 f3 (upd f4 x6.toNatClampNeg (r2 * x2)) f5) := hD
      refine lv_aload hx hb dX5_layPoints_119 (lv_at hl 4 rfl) ?_
      refine lv_iload hx hb dX5_layPoints_121 (lv_at hl 6 rfl) ?_
      refine lv_aload_n hx hb dX5_layPoints_123 rfl (lv_at hl 0 rfl) ?_
      refine lv_iload_n hx hb dX5_layPoints_124 rfl (lv_at hl 1 rfl) ?_
      refine lv_iload hx hb dX5_layPoints_125 (lv_at hl 5 rfl) ?_
      have hPc := hP.sub (ws' := (ceX1_yOf cyI cyB cyJ cyZ a0 a3 a2 a1 b0_walls g0_ways g0_wallCount g0_texts f3)) [0, 3] rfl
      have hDc := hD.sub (ws' := (ceX1_yOf cyI cyB cyJ cyZ a0 a3 a2 a1 b0_walls g0_ways g0_wallCount g0_texts f3)) [0, 3] (by decide) rfl
      have hFc := va_free (wc := (ceX1_yOf cyI cyB cyJ cyZ a0 a3 a2 a1 b0_walls g0_ways g0_wallCount g0_texts f3)) hD hS hA [0, 3] rfl
      refine va_calli (va_runV (As := [.int x1, .int x5]) (rest := [.int x6, .ref a5]) ⟨hx, hb, hml, hown, hts⟩ (ctX1_yOf l dC dI cyI cyB cyJ cyZ _ a0 a3 a2 a1 b0_walls g0_ways g0_wallCount g0_texts f3 x1 x5 _ hw) (cwV 2 hts gX5_layPoints_X1_yOf rfl rfl rfl (by decide +kernel) ⟨Nat.le_of_ble_eq_true rfl, Nat.le_of_ble_eq_true rfl⟩) ⟨wPre_blind, va_recv hK hPc (ci := 1) (q0 := 0) rfl rfl, fun U hU hW => wPre_of hPc hK hDc hN hU hW⟩ rfl rfl hl.1 rfl (lv_room (Nat.le_of_ble_eq_true rfl)) dX5_layPoints_127 ⟨(Nat.zero_le _), (Nat.zero_le _)⟩) hS (fun q _ h => hFc q h) hFc (fun r4 u3 t H1 locs ht hvm hw hB hz1 hk1 hS => ?_)
      obtain ⟨hP1, hK1, hD1⟩ := hB
      rw [ht] at hP1
      obtain ⟨hP, hD⟩ := va_join (wr := pickW (ceX5_layPoints cyI cyB cyJ cyZ a0 a1 a2 a3 a4 a5 b0_walls n4 n5 g0_ways g0_wallCount g0_texts f1 f2 f3 (upd f4 x6.toNatClampNeg (r2 * x2)) f5) [1, 2, 4, 5]) (w1 := (ceX1_yOf cyI cyB cyJ cyZ a0 a3 a2 a1 b0_walls g0_ways g0_wallCount g0_texts f3)) hP hD [0, 3] [1, 2, 4, 5] rfl rfl (by decide) (by decide) hk1 hFc hP1 hD1
      have hP := hP.sub (ws' := (ceX5_layPoints cyI cyB cyJ cyZ a0 a1 a2 a3 a4 a5 b0_walls n4 n5 g0_ways g0_wallCount g0_texts f1 f2 f3 (upd f4 x6.toNatClampNeg (r2 * x2)) f5)) [4, 0, 1, 5, 2, 3] rfl
      have hD := hD.sub (ws' := (ceX5_layPoints cyI cyB cyJ cyZ a0 a1 a2 a3 a4 a5 b0_walls n4 n5 g0_ways g0_wallCount g0_texts f1 f2 f3 (upd f4 x6.toNatClampNeg (r2 * x2)) f5)) [4, 0, 1, 5, 2, 3] (by decide) rfl
      generalize H1 = H at hP hS ⊢
      refine lv_iload_n hx hb dX5_layPoints_130 rfl (lv_at hl 2 rfl) ?_
      refine lv_imul hx hb dX5_layPoints_131 ?_
      obtain ⟨hi, hw⟩ := hw
      refine va_iast hx hb hK hP hD hS 5 0 rfl rfl hi dX5_layPoints_132 (fun H locs hP hD hS => ?_)
      have hP : va_P (dC, dI) vwCl (ceX5_layPoints cyI cyB cyJ cyZ a0 a1 a2 a3 a4 a5 b0_walls n4 n5 g0_ways g0_wallCount g0_texts f1 f2 f3 (upd f4 x6.toNatClampNeg (r2 * x2)) (upd f5 x6.toNatClampNeg (r4 * x2))) H := hP
      have hD : va_D A (ceX5_layPoints cyI cyB cyJ cyZ a0 a1 a2 a3 a4 a5 b0_walls n4 n5 g0_ways g0_wallCount g0_texts f1 f2 f3 (upd f4 x6.toNatClampNeg (r2 * x2)) (upd f5 x6.toNatClampNeg (r4 * x2))) := hD
      refine lv_iload hx hb dX5_layPoints_133 (lv_at hl 6 rfl) ?_
      refine lv_iconst (v := 1) hx hb dX5_layPoints_135 (by decide) ?_
      refine lv_iadd hx hb dX5_layPoints_136 ?_
      rw [hQ]
      exact W.iret (v := x6 + 1) hx hb hr (fun t ht hW => ⟨⟨x6 + 1, ((upd f4 x6.toNatClampNeg (r2 * x2)), (upd f5 x6.toNatClampNeg (r4 * x2))), rfl, hw, by rw [ht]; exact hP, va_K.moved hW.alike hK, hD⟩, hS.F ht⟩) hS.2.2 dX5_layPoints_137
    · have hw := hw.2 hc
      refine lv_iconst (v := 0) hx hb dX5_layPoints_23 (by decide) ?_
      refine lv_istore (lv' := [(8, .int 0), (0, .ref a0), (1, .int x1), (2, .int x2), (3, .ref a4), (4, .ref a5), (5, .int x5), (6, .int x6), (7, .int x7)]) hx hb dX5_layPoints_24 hl (by decide) rfl (fun ls hl => ?_)
      obtain ⟨nn, hw⟩ := hw
      exact bX5_layPoints_26 C0 hK hN hA hQ ih nn f4 f5 x1 x2 x5 x6 x7 0 hw _ _ hP hD hS ls (lv_sub hl [1, 2, 3, 4, 5, 6, 7, 8, 0] rfl)
set_option maxRecDepth 100000 in
set_option maxHeartbeats 4000000 in
theorem ctX5_layPoints (l : Launch) (dC : Nat → ClassId) (dI : Nat → Nat → Nat) (cyI cyB cyJ cyZ : ClassId) (sz : Nat) (a0 a1 a2 a3 a4 a5 b0_walls n4 n5 : Nat) (g0_ways : Int32) (g0_wallCount : Int32) (g0_texts : Int32) (f1 : Nat → Int32) (f2 : Nat → Int32) (f3 : Nat → Int32) (f4 : Nat → Int32) (f5 : Nat → Int32) (p1 : Int32) (p2 : Int32) (post : Int32 → ((Nat → Int32) × (Nat → Int32)) → Prop) (hw : wpX5_layPoints n4 n5 post f1 f2 f3 f4 f5 p1 p2) : Met l yX5_layPoints wsX5_layPoints rmX5_layPoints (va_Pc [.ref a0, .int p1, .int p2, .ref a4, .ref a5] (wPre dC dI cyI cyB cyJ cyZ sz (ceX5_layPoints cyI cyB cyJ cyZ a0 a1 a2 a3 a4 a5 b0_walls n4 n5 g0_ways g0_wallCount g0_texts f1 f2 f3 f4 f5))) (va_Qi post (fun u : (Nat → Int32) × (Nat → Int32) => wAt dC dI cyI cyB cyJ cyZ (va_A (ceX5_layPoints cyI cyB cyJ cyZ a0 a1 a2 a3 a4 a5 b0_walls n4 n5 g0_ways g0_wallCount g0_texts f1 f2 f3 f4 f5) sz) (ceX5_layPoints cyI cyB cyJ cyZ a0 a1 a2 a3 a4 a5 b0_walls n4 n5 g0_ways g0_wallCount g0_texts f1 f2 f3 u.1 u.2)) (va_A (ceX5_layPoints cyI cyB cyJ cyZ a0 a1 a2 a3 a4 a5 b0_walls n4 n5 g0_ways g0_wallCount g0_texts f1 f2 f3 f4 f5) sz)) 0 0 (va_A (ceX5_layPoints cyI cyB cyJ cyZ a0 a1 a2 a3 a4 a5 b0_walls n4 n5 g0_ways g0_wallCount g0_texts f1 f2 f3 f4 f5) sz) := by
  refine Met.ofW (cc := cX5_layPoints) (maxL := 9) (ret := (some .int)) (by decide) rfl ?_
  intro p e s m args below meth c s₁ B hml hv
  obtain ⟨rfl, hsz, hP, hK, hD0, hN⟩ := hv
  have hx := B.exec
  have hb := B.bytes
  have hr := B.returns
  have hts := atoms_spec (ws := wsX5_layPoints) B.pre
  have hown : s.vm.findClass RX5 = some m.cls := findClass_of_methodNamed B.named
  have hlocks := B.notSynchronized
  subst hsz
  have hD := hD0.self (sz := s.heap.size)
  generalize hAe : va_A (ceX5_layPoints cyI cyB cyJ cyZ a0 a1 a2 a3 a4 a5 b0_walls n4 n5 g0_ways g0_wallCount g0_texts f1 f2 f3 f4 f5) s.heap.size = A at hD ⊢
  have hA : ∀ q : Nat, s.heap.size ≤ q → A q := fun q h => by rw [← hAe]; exact Or.inr h
  have hS : va_S A s.heap s.heap [] := va_S.rf
  have C0 : cxM p s m meth c _ wsX5_layPoints RX5 cX5_layPoints 9 (some .int) := ⟨hx, hb, hr, hml, hown, hts, hlocks⟩
  have hl := lv_entry ([.ref a0, .int p1, .int p2, .ref a4, .ref a5]) (n := 9) (Nat.le_of_ble_eq_true rfl)
  rw [lg_entry_eq]
  generalize (lg_sl ([.ref a0, .int p1, .int p2, .ref a4, .ref a5]) ++ List.replicate (9 - (lg_sl ([.ref a0, .int p1, .int p2, .ref a4, .ref a5])).length) Slot.unset).toArray = ls at hl ⊢
  have hl : lv_has ls 9 [(0, .ref a0), (1, .int p1), (2, .int p2), (3, .ref a4), (4, .ref a5)] := hl
  show W p l e rmX5_layPoints s m _ below meth c _ _ _ _ _ _
  refine wq (fun Q hQ => ?_)
  refine lv_aload_n hx hb dX5_layPoints_0 rfl (lv_at hl 0 rfl) ?_
  refine va_getN (D := (dC, dI)) (ci := 1) (v := .ref a1) (C := RX1) (T := TX1) (N := 7) hx hb hts inX5_layPoints_X1 hown hK hP 0 rfl rfl 2 (by decide) (va_Nw.use rfl (hN _ (List.mem_of_getElem? (i := 6) rfl))) (fun _ h9 => h9) rfl dX5_layPoints_1 ?_
  refine lv_iload_n hx hb dX5_layPoints_4 rfl (lv_at hl 1 rfl) ?_
  obtain ⟨hi, hw⟩ := hw
  refine va_iald hx hb hK hP 1 0 rfl rfl hi dX5_layPoints_5 ?_
  refine lv_iconst (v := 1) hx hb dX5_layPoints_6 (by decide) ?_
  refine lv_isub hx hb dX5_layPoints_7 ?_
  refine lv_topi (fun v1 ev1 => ?_)
  have hw := hw v1 ev1
  refine lv_istore (lv' := [(5, .int v1), (0, .ref a0), (1, .int p1), (2, .int p2), (3, .ref a4), (4, .ref a5)]) hx hb dX5_layPoints_8 hl (by decide) rfl (fun ls hl => ?_)
  refine lv_iconst (v := 0) hx hb dX5_layPoints_10 (by decide) ?_
  refine lv_istore (lv' := [(6, .int 0), (5, .int v1), (0, .ref a0), (1, .int p1), (2, .int p2), (3, .ref a4), (4, .ref a5)]) hx hb dX5_layPoints_11 hl (by decide) rfl (fun ls hl => ?_)
  refine lv_iconst (v := 0) hx hb dX5_layPoints_13 (by decide) ?_
  refine lv_istore (lv' := [(7, .int 0), (6, .int 0), (5, .int v1), (0, .ref a0), (1, .int p1), (2, .int p2), (3, .ref a4), (4, .ref a5)]) hx hb dX5_layPoints_14 hl (by decide) rfl (fun ls hl => ?_)
  obtain ⟨nn, hw⟩ := hw
  exact bX5_layPoints_16 C0 hK hN hA hQ nn f4 f5 p1 p2 v1 0 0 hw _ _ hP hD hS ls (lv_sub hl [3, 4, 5, 6, 7, 2, 1, 0] rfl)
/-! LeadPark$Pieces.passRow (II)V -/
abbrev ceX5_passRow (cyI cyB cyJ cyZ : ClassId) (a0 a1 a2 a3 a4 a5 : Nat) (f2 : Nat → Int32) (f3 : Nat → Int32) (f4 : Nat → Int32) (f5 : Nat → Int32) (f1 : Nat → Int32) : va_W := [(a0, .inr (5, [.ref a2, .ref a4, .ref a3, .ref a5, .ref a1])), (a1, .inl (cyI, 234, .inl f1)), (a2, .inl (cyI, 233, .inl f2)), (a3, .inl (cyI, 233, .inl f3)), (a4, .inl (cyI, 233, .inl f4)), (a5, .inl (cyI, 233, .inl f5))]

theorem inX5_passRow_X5 : ∀ w ∈ wsX50, w ∈ wsX5_passRow := fun _ h => List.mem_cons_of_mem _ (List.mem_append_right _ h)
abbrev rmX5_passRow : Room := { frames := 1, cells := 0, slots := 0, locals := 40 }
set_option maxRecDepth 100000 in
set_option maxHeartbeats 4000000 in
theorem bX5_passRow_18 {p : Program} {l : Launch} {e : Env} {s : State} {m : MethodId} {args : Array Value} {below : List Frame} {meth : Method} {c : Code} {dC : Nat → ClassId} {dI : Nat → Nat → Nat} {cyI cyB cyJ cyZ : ClassId} {A : Nat → Prop} {a0 a1 a2 a3 a4 a5 : Nat} (C0 : cxM p s m meth c args wsX5_passRow RX5 cX5_passRow 9 none) (hK : va_K (dC, dI) vwCl (tyA cyI cyB cyJ cyZ) s) (hN : nwA s) (hA : ∀ q : Nat, s.heap.size ≤ q → A q) {post : ((Nat → Int32)) → Prop} {f2 : Nat → Int32} {f3 : Nat → Int32} {f4 : Nat → Int32} {f5 : Nat → Int32} {Q : State → Prop} (hQ : Q = MQ below (va_Qv post (fun u : (Nat → Int32) => wAt dC dI cyI cyB cyJ cyZ A (ceX5_passRow cyI cyB cyJ cyZ a0 a1 a2 a3 a4 a5 f2 f3 f4 f5 u)) A) args s 0 0 A) : ∀ (n : Nat) (f1 : Nat → Int32) (x1 : Int32) (x2 : Int32) (x3 : Int32) (x4 : Int32), wpX5_passRow_18 post f2 f3 f4 f5 n f1 x1 x2 x3 x4 → AtW p l e rmX5_passRow s m args below meth c dC dI A Q 9 0 0 (ceX5_passRow cyI cyB cyJ cyZ a0 a1 a2 a3 a4 a5 f2 f3 f4 f5 f1) [(0, .ref a0), (1, .int x1), (2, .int x2), (3, .int x3), (4, .int x4)] 18 [] := by
  intro n
  induction n with
  | zero => intro f1 x1 x2 x3 x4 hw; exact False.elim hw
  | succ n ih =>
    intro f1 x1 x2 x3 x4 hw H locs hP hD hS ls hl
    have C1 := C0
    obtain ⟨hx, hb, hr, hml, hown, hts, hlocks⟩ := C1
    refine lv_iload hx hb dX5_passRow_18 (lv_at hl 4 rfl) ?_
    refine lv_iload_n hx hb dX5_passRow_20 rfl (lv_at hl 2 rfl) ?_
    refine lv_icmp_ge (tgt := 119) hx hb dX5_passRow_21 (by decide) (fun hc => ?_) (fun hc => ?_)
    · have hw := hw.1 hc
      rw [hQ]
      exact W.vret hx hb hr (fun t ht hW => ⟨⟨(f1), rfl, hw, by rw [ht]; exact hP, va_K.moved hW.alike hK, hD⟩, hS.F ht⟩) hS.2.2 dX5_passRow_119
    · have hw := hw.2 hc
      refine lv_aload_n hx hb dX5_passRow_24 rfl (lv_at hl 0 rfl) ?_
      refine va_get (D := (dC, dI)) (ci := 5) (v := .ref a2) (C := RX5) (T := TX5) (N := 5) hx hb hts inX5_passRow_X5 hown hK hP 0 rfl rfl 0 (by decide) (hts (.fieldLink RX5 11 "LeadPark$Pieces" "manX" "[I") (List.mem_of_getElem? (i := 3) rfl)) (fun _ h9 => h9) rfl dX5_passRow_25 ?_
      refine lv_iload_n hx hb dX5_passRow_28 rfl (lv_at hl 1 rfl) ?_
      obtain ⟨hi, hw⟩ := hw
      refine va_iald hx hb hK hP 2 0 rfl rfl hi dX5_passRow_29 ?_
      refine lv_aload_n hx hb dX5_passRow_30 rfl (lv_at hl 0 rfl) ?_
      refine va_get (D := (dC, dI)) (ci := 5) (v := .ref a3) (C := RX5) (T := TX5) (N := 5) hx hb hts inX5_passRow_X5 hown hK hP 0 rfl rfl 2 (by decide) (hts (.fieldLink RX5 18 "LeadPark$Pieces" "dogX" "[I") (List.mem_of_getElem? (i := 4) rfl)) (fun _ h9 => h9) rfl dX5_passRow_31 ?_
      refine lv_iload hx hb dX5_passRow_34 (lv_at hl 4 rfl) ?_
      obtain ⟨hi, hw⟩ := hw
      refine va_iald hx hb hK hP 3 0 rfl rfl hi dX5_passRow_36 ?_
      refine lv_isub hx hb dX5_passRow_37 ?_
      refine lv_topi (fun v1 ev1 => ?_)
      have hw := hw v1 ev1
      refine lv_istore (lv' := [(5, .int v1), (0, .ref a0), (1, .int x1), (2, .int x2), (3, .int x3), (4, .int x4)]) hx hb dX5_passRow_38 hl (by decide) rfl (fun ls hl => ?_)
      refine lv_aload_n hx hb dX5_passRow_40 rfl (lv_at hl 1 rfl) ?_
      refine va_get (D := (dC, dI)) (ci := 5) (v := .ref a4) (C := RX5) (T := TX5) (N := 5) hx hb hts inX5_passRow_X5 hown hK hP 0 rfl rfl 1 (by decide) (hts (.fieldLink RX5 15 "LeadPark$Pieces" "manY" "[I") (List.mem_of_getElem? (i := 5) rfl)) (fun _ h9 => h9) rfl dX5_passRow_41 ?_
      refine lv_iload_n hx hb dX5_passRow_44 rfl (lv_at hl 2 rfl) ?_
      obtain ⟨hi, hw⟩ := hw
      refine va_iald hx hb hK hP 4 0 rfl rfl hi dX5_passRow_45 ?_
      refine lv_aload_n hx hb dX5_passRow_46 rfl (lv_at hl 1 rfl) ?_
      refine va_get (D := (dC, dI)) (ci := 5) (v := .ref a5) (C := RX5) (T := TX5) (N := 5) hx hb hts inX5_passRow_X5 hown hK hP 0 rfl rfl 3 (by decide) (hts (.fieldLink RX5 21 "LeadPark$Pieces" "dogY" "[I") (List.mem_of_getElem? (i := 6) rfl)) (fun _ h9 => h9) rfl dX5_passRow_47 ?_
      refine lv_iload hx hb dX5_passRow_50 (lv_at hl 5 rfl) ?_
      obtain ⟨hi, hw⟩ := hw
      refine va_iald hx hb hK hP 5 0 rfl rfl hi dX5_passRow_52 ?_
      refine lv_isub hx hb dX5_passRow_53 ?_
      refine lv_topi (fun v2 ev2 => ?_)
      have hw := hw v2 ev2
      refine lv_istore (lv' := [(6, .int v2), (5, .int v1), (0, .ref a0), (1, .int x1), (2, .int x2), (3, .int x3), (4, .int x4)]) hx hb dX5_passRow_54 hl (by decide) rfl (fun ls hl => ?_)
      refine lv_aload_n hx hb dX5_passRow_56 rfl (lv_at hl 2 rfl) ?_
      refine va_get (D := (dC, dI)) (ci := 5) (v := .ref a1) (C := RX5) (T := TX5) (N := 5) hx hb hts inX5_passRow_X5 hown hK hP 0 rfl rfl 4 (by decide) (hts (.fieldLink RX5 24 "LeadPark$Pieces" "best" "[I") (List.mem_of_getElem? (i := 1) rfl)) (fun _ h9 => h9) rfl dX5_passRow_57 ?_
      refine lv_iload hx hb dX5_passRow_60 (lv_at hl 6 rfl) ?_
      refine lv_iconst (v := 1) hx hb dX5_passRow_62 (by decide) ?_
      refine lv_iadd hx hb dX5_passRow_63 ?_
      obtain ⟨hi, hw⟩ := hw
      refine va_iald hx hb hK hP 1 0 rfl rfl hi dX5_passRow_64 ?_
      refine lv_topi (fun v3 ev3 => ?_)
      have hw := hw v3 ev3
      refine lv_istore (lv' := [(7, .int v3), (6, .int v2), (5, .int v1), (0, .ref a0), (1, .int x1), (2, .int x2), (3, .int x3), (4, .int x4)]) hx hb dX5_passRow_65 hl (by decide) rfl (fun ls hl => ?_)
      refine lv_iload_n hx hb dX5_passRow_67 rfl (lv_at hl 6 rfl) ?_
      refine lv_iload hx hb dX5_passRow_68 (lv_at hl 0 rfl) ?_
      refine lv_aload_n hx hb dX5_passRow_70 rfl (lv_at hl 3 rfl) ?_
      refine va_get (D := (dC, dI)) (ci := 5) (v := .ref a1) (C := RX5) (T := TX5) (N := 5) hx hb hts inX5_passRow_X5 hown hK hP 0 rfl rfl 4 (by decide) (hts (.fieldLink RX5 24 "LeadPark$Pieces" "best" "[I") (List.mem_of_getElem? (i := 1) rfl)) (fun _ h9 => h9) rfl dX5_passRow_71 ?_
      refine lv_iload hx hb dX5_passRow_74 (lv_at hl 7 rfl) ?_
      obtain ⟨hi, hw⟩ := hw
      refine va_iald hx hb hK hP 1 0 rfl rfl hi dX5_passRow_76 ?_
      refine va_mmin hx hb (hml.trans hl.1.symm) hown (hts (.methodLink RX5 54 Lib.Math.min.name) (List.mem_of_getElem? (i := 7) rfl)) (hts (.static Lib.Math.min.name) (List.mem_of_getElem? (i := 8) rfl)) (hts (.initialized "java/lang/Math") (List.mem_of_getElem? (i := 9) rfl)) (hts (.code Lib.Math.min.name Lib.Math.min.code 2 (some .int)) (List.mem_of_getElem? (i := 10) rfl)) (Nat.le_of_ble_eq_true rfl) (Nat.le_of_ble_eq_true rfl) (by decide) (by decide) dX5_passRow_77 ?_
      refine va_mmin hx hb (hml.trans hl.1.symm) hown (hts (.methodLink RX5 54 Lib.Math.min.name) (List.mem_of_getElem? (i := 7) rfl)) (hts (.static Lib.Math.min.name) (List.mem_of_getElem? (i := 8) rfl)) (hts (.initialized "java/lang/Math") (List.mem_of_getElem? (i := 9) rfl)) (hts (.code Lib.Math.min.name Lib.Math.min.code 2 (some .int)) (List.mem_of_getElem? (i := 10) rfl)) (Nat.le_of_ble_eq_true rfl) (Nat.le_of_ble_eq_true rfl) (by decide) (by decide) dX5_passRow_80 ?_
      refine lv_topi (fun v4 ev4 => ?_)
      have hw := hw v4 ev4
      refine lv_istore (lv' := [(8, .int v4), (7, .int v3), (6, .int v2), (5, .int v1), (0, .ref a0), (1, .int x1), (2, .int x2), (3, .int x3), (4, .int x4)]) hx hb dX5_passRow_83 hl (by decide) rfl (fun ls hl => ?_)
      refine lv_aload_n hx hb dX5_passRow_85 rfl (lv_at hl 4 rfl) ?_
      refine va_get (D := (dC, dI)) (ci := 5) (v := .ref a1) (C := RX5) (T := TX5) (N := 5) hx hb hts inX5_passRow_X5 hown hK hP 0 rfl rfl 4 (by decide) (hts (.fieldLink RX5 24 "LeadPark$Pieces" "best" "[I") (List.mem_of_getElem? (i := 1) rfl)) (fun _ h9 => h9) rfl dX5_passRow_86 ?_
      refine lv_iload hx hb dX5_passRow_89 (lv_at hl 8 rfl) ?_
      refine lv_iconst (v := 1) hx hb dX5_passRow_91 (by decide) ?_
      refine lv_iadd hx hb dX5_passRow_92 ?_
      refine lv_iload hx hb dX5_passRow_93 (lv_at hl 0 rfl) ?_
      refine lv_iload hx hb dX5_passRow_95 (lv_at hl 3 rfl) ?_
      refine lv_iload hx hb dX5_passRow_97 (lv_at hl 3 rfl) ?_
      refine lv_imul hx hb dX5_passRow_99 ?_
      refine lv_iload hx hb dX5_passRow_100 (lv_at hl 2 rfl) ?_
      refine lv_iload hx hb dX5_passRow_102 (lv_at hl 2 rfl) ?_
      refine lv_imul hx hb dX5_passRow_104 ?_
      refine lv_iadd hx hb dX5_passRow_105 ?_
      refine va_mmax hx hb (hml.trans hl.1.symm) hown (hts (.methodLink RX5 59 Lib.Math.max.name) (List.mem_of_getElem? (i := 11) rfl)) (hts (.static Lib.Math.max.name) (List.mem_of_getElem? (i := 12) rfl)) (hts (.initialized "java/lang/Math") (List.mem_of_getElem? (i := 9) rfl)) (hts (.code Lib.Math.max.name Lib.Math.max.code 2 (some .int)) (List.mem_of_getElem? (i := 13) rfl)) (Nat.le_of_ble_eq_true rfl) (Nat.le_of_ble_eq_true rfl) (by decide) (by decide) dX5_passRow_106 ?_
      obtain ⟨hi, hw⟩ := hw
      refine va_iast hx hb hK hP hD hS 1 0 rfl rfl hi dX5_passRow_109 (fun H locs hP hD hS => ?_)
      have hP : va_P (dC, dI) vwCl (ceX5_passRow cyI cyB cyJ cyZ a0 a1 a2 a3 a4 a5 f2 f3 f4 f5 (upd f1 (x4 + 1).toNatClampNeg (iMax v4 ((v1 * v1) + (v2 * v2))))) H := hP
      have hD : va_D A (ceX5_passRow cyI cyB cyJ cyZ a0 a1 a2 a3 a4 a5 f2 f3 f4 f5 (upd f1 (x4 + 1).toNatClampNeg (iMax v4 ((v1 * v1) + (v2 * v2))))) := hD
      refine lv_iload hx hb dX5_passRow_110 (lv_at hl 1 rfl) ?_
      refine lv_istore_n (lv' := [(3, .int v3), (8, .int v4), (7, .int v3), (6, .int v2), (5, .int v1), (0, .ref a0), (1, .int x1), (2, .int x2), (4, .int x4)]) hx hb dX5_passRow_112 rfl hl (by decide) rfl (fun ls hl => ?_)
      obtain ⟨v5, ev5⟩ : ∃ y : Int32, y = x4 + 1 := ⟨_, rfl⟩
      have hw := hw v5 ev5
      refine lv_iinc (v := v5) (lv' := [(4, .int v5), (3, .int v3), (8, .int v4), (7, .int v3), (6, .int v2), (5, .int v1), (0, .ref a0), (1, .int x1), (2, .int x2)]) hx hb dX5_passRow_113 hl (k := 8) rfl (by rw [ev5]; rfl) (by decide) rfl (fun ls hl => ?_)
      refine lv_goto (tgt := 18) hx hb dX5_passRow_116 (by decide) ?_
      exact ih (upd f1 (x4 + 1).toNatClampNeg (iMax v4 ((v1 * v1) + (v2 * v2)))) x1 x2 v3 v5 hw H locs hP hD hS ls (lv_sub hl [6, 7, 8, 1, 0] rfl)
set_option maxRecDepth 100000 in
set_option maxHeartbeats 4000000 in
theorem ctX5_passRow (l : Launch) (dC : Nat → ClassId) (dI : Nat → Nat → Nat) (cyI cyB cyJ cyZ : ClassId) (sz : Nat) (a0 a1 a2 a3 a4 a5 : Nat) (f2 : Nat → Int32) (f3 : Nat → Int32) (f4 : Nat → Int32) (f5 : Nat → Int32) (f1 : Nat → Int32) (p0 : Int32) (p1 : Int32) (post : ((Nat → Int32)) → Prop) (hw : wpX5_passRow post f2 f3 f4 f5 f1 p0 p1) : Met l yX5_passRow wsX5_passRow rmX5_passRow (va_Pc [.ref a0, .int p0, .int p1] (wPre dC dI cyI cyB cyJ cyZ sz (ceX5_passRow cyI cyB cyJ cyZ a0 a1 a2 a3 a4 a5 f2 f3 f4 f5 f1))) (va_Qv post (fun u : (Nat → Int32) => wAt dC dI cyI cyB cyJ cyZ (va_A (ceX5_passRow cyI cyB cyJ cyZ a0 a1 a2 a3 a4 a5 f2 f3 f4 f5 f1) sz) (ceX5_passRow cyI cyB cyJ cyZ a0 a1 a2 a3 a4 a5 f2 f3 f4 f5 u)) (va_A (ceX5_passRow cyI cyB cyJ cyZ a0 a1 a2 a3 a4 a5 f2 f3 f4 f5 f1) sz)) 0 0 (va_A (ceX5_passRow cyI cyB cyJ cyZ a0 a1 a2 a3 a4 a5 f2 f3 f4 f5 f1) sz) := by
  refine Met.ofW (cc := cX5_passRow) (maxL := 9) (ret := none) (by decide) rfl ?_
  intro p e s m args below meth c s₁ B hml hv
  obtain ⟨rfl, hsz, hP, hK, hD0, hN⟩ := hv
  have hx := B.exec
  have hb := B.bytes
  have hr := B.returns
  have hts := atoms_spec (ws := wsX5_passRow) B.pre
  have hown : s.vm.findClass RX5 = some m.cls := findClass_of_methodNamed B.named
  have hlocks := B.notSynchronized
  subst hsz
  have hD := hD0.self (sz := s.heap.size)
  generalize hAe : va_A (ceX5_passRow cyI cyB cyJ cyZ a0 a1 a2 a3 a4 a5 f2 f3 f4 f5 f1) s.heap.size = A at hD ⊢
  have hA : ∀ q : Nat, s.heap.size ≤ q → A q := fun q h => by rw [← hAe]; exact Or.inr h
  have hS : va_S A s.heap s.heap [] := va_S.rf
  have C0 : cxM p s m meth c _ wsX5_passRow RX5 cX5_passRow 9 none := ⟨hx, hb, hr, hml, hown, hts, hlocks⟩
  have hl := lv_entry ([.ref a0, .int p0, .int p1]) (n := 9) (Nat.le_of_ble_eq_true rfl)
  rw [lg_entry_eq]
  generalize (lg_sl ([.ref a0, .int p0, .int p1]) ++ List.replicate (9 - (lg_sl ([.ref a0, .int p0, .int p1])).length) Slot.unset).toArray = ls at hl ⊢
  have hl : lv_has ls 9 [(0, .ref a0), (1, .int p0), (2, .int p1)] := hl
  show W p l e rmX5_passRow s m _ below meth c _ _ _ _ _ _
  refine wq (fun Q hQ => ?_)
  refine lv_aload_n hx hb dX5_passRow_0 rfl (lv_at hl 0 rfl) ?_
  refine va_get (D := (dC, dI)) (ci := 5) (v := .ref a1) (C := RX5) (T := TX5) (N := 5) hx hb hts inX5_passRow_X5 hown hK hP 0 rfl rfl 4 (by decide) (hts (.fieldLink RX5 24 "LeadPark$Pieces" "best" "[I") (List.mem_of_getElem? (i := 1) rfl)) (fun _ h9 => h9) rfl dX5_passRow_1 ?_
  refine lv_iconst (v := 0) hx hb dX5_passRow_4 (by decide) ?_
  obtain ⟨hi, hw⟩ := hw
  refine va_iald hx hb hK hP 1 0 rfl rfl hi dX5_passRow_5 ?_
  refine lv_topi (fun v1 ev1 => ?_)
  have hw := hw v1 ev1
  refine lv_istore_n (lv' := [(3, .int v1), (0, .ref a0), (1, .int p0), (2, .int p1)]) hx hb dX5_passRow_6 rfl hl (by decide) rfl (fun ls hl => ?_)
  refine lv_aload_n hx hb dX5_passRow_7 rfl (lv_at hl 1 rfl) ?_
  refine va_get (D := (dC, dI)) (ci := 5) (v := .ref a1) (C := RX5) (T := TX5) (N := 5) hx hb hts inX5_passRow_X5 hown hK hP 0 rfl rfl 4 (by decide) (hts (.fieldLink RX5 24 "LeadPark$Pieces" "best" "[I") (List.mem_of_getElem? (i := 1) rfl)) (fun _ h9 => h9) rfl dX5_passRow_8 ?_
  refine lv_iconst (v := 0) hx hb dX5_passRow_11 (by decide) ?_
  refine lv_ldc (v := 2147483647) hx hb hown (hts (.constant RX5 31 (2147483647)) (List.mem_of_getElem? (i := 2) rfl)) dX5_passRow_12 ?_
  obtain ⟨hi, hw⟩ := hw
  refine va_iast hx hb hK hP hD hS 1 0 rfl rfl hi dX5_passRow_14 (fun H locs hP hD hS => ?_)
  have hP : va_P (dC, dI) vwCl (ceX5_passRow cyI cyB cyJ cyZ a0 a1 a2 a3 a4 a5 f2 f3 f4 f5 (upd f1 (0 : Int32).toNatClampNeg 2147483647)) H := hP
  have hD : va_D A (ceX5_passRow cyI cyB cyJ cyZ a0 a1 a2 a3 a4 a5 f2 f3 f4 f5 (upd f1 (0 : Int32).toNatClampNeg 2147483647)) := hD
  refine lv_iconst (v := 0) hx hb dX5_passRow_15 (by decide) ?_
  refine lv_istore (lv' := [(4, .int 0), (3, .int v1), (0, .ref a0), (1, .int p0), (2, .int p1)]) hx hb dX5_passRow_16 hl (by decide) rfl (fun ls hl => ?_)
  obtain ⟨nn, hw⟩ := hw
  exact bX5_passRow_18 C0 hK hN hA hQ nn (upd f1 (0 : Int32).toNatClampNeg 2147483647) p0 p1 v1 0 hw _ _ hP hD hS ls (lv_sub hl [2, 3, 4, 1, 0] rfl)
/-! LeadPark$Pieces.leastLead (LLeadPark$Ground;III)I -/
abbrev ceX5_leastLead (cyI cyB cyJ cyZ : ClassId) (a0 a1 a2 a3 a4 a5 a6 a7 a8 a9 b6_walls : Nat) (g6_ways : Int32) (g6_wallCount : Int32) (g6_texts : Int32) (f7 : Nat → Int32) (f8 : Nat → Int32) (f9 : Nat → Int32) (f1 : Nat → Int32) (f2 : Nat → Int32) (f3 : Nat → Int32) (f4 : Nat → Int32) (f5 : Nat → Int32) : va_W := [(a0, .inr (5, [.ref a1, .ref a2, .ref a3, .ref a4, .ref a5])), (a1, .inl (cyI, 233, .inl f1)), (a2, .inl (cyI, 233, .inl f2)), (a3, .inl (cyI, 233, .inl f3)), (a4, .inl (cyI, 233, .inl f4)), (a5, .inl (cyI, 234, .inl f5)), (a6, .inr (1, [.ref a8, .ref a9, .ref a7, .ref b6_walls, .int g6_ways, .int g6_wallCount, .int g6_texts])), (a7, .inl (cyI, 12, .inl f7)), (a8, .inl (cyI, 360, .inl f8)), (a9, .inl (cyI, 360, .inl f9))]

theorem inX5_leastLead_X5 : ∀ w ∈ wsX50, w ∈ wsX5_leastLead := fun _ h => List.mem_cons_of_mem _ (List.mem_append_left _ (List.mem_append_right _ h))
abbrev rmX5_leastLead : Room := { frames := 2, cells := 0, slots := 0, locals := 68 }
set_option maxRecDepth 100000 in
set_option maxHeartbeats 4000000 in
theorem bX5_leastLead_53 {p : Program} {l : Launch} {e : Env} {s : State} {m : MethodId} {args : Array Value} {below : List Frame} {meth : Method} {c : Code} {dC : Nat → ClassId} {dI : Nat → Nat → Nat} {cyI cyB cyJ cyZ : ClassId} {A : Nat → Prop} {a0 a1 a2 a3 a4 a5 a6 a7 a8 a9 b6_walls : Nat} {g6_ways : Int32} {g6_wallCount : Int32} {g6_texts : Int32} (C0 : cxM p s m meth c args wsX5_leastLead RX5 cX5_leastLead 8 (some .int)) (hK : va_K (dC, dI) vwCl (tyA cyI cyB cyJ cyZ) s) (hN : nwA s) (hA : ∀ q : Nat, s.heap.size ≤ q → A q) {post : Int32 → ((Nat → Int32) × (Nat → Int32) × (Nat → Int32) × (Nat → Int32) × (Nat → Int32)) → Prop} {f7 : Nat → Int32} {f8 : Nat → Int32} {f9 : Nat → Int32} {Q : State → Prop} (hQ : Q = MQ below (va_Qi post (fun u : (Nat → Int32) × (Nat → Int32) × (Nat → Int32) × (Nat → Int32) × (Nat → Int32) => wAt dC dI cyI cyB cyJ cyZ A (ceX5_leastLead cyI cyB cyJ cyZ a0 a1 a2 a3 a4 a5 a6 a7 a8 a9 b6_walls g6_ways g6_wallCount g6_texts f7 f8 f9 u.1 u.2.1 u.2.2.1 u.2.2.2.1 u.2.2.2.2)) A) args s 0 0 A) : ∀ (n : Nat) (f1 : Nat → Int32) (f2 : Nat → Int32) (f3 : Nat → Int32) (f4 : Nat → Int32) (f5 : Nat → Int32) (x5 : Int32) (x6 : Int32) (x7 : Int32), wpX5_leastLead_53 post f7 f8 f9 n f1 f2 f3 f4 f5 x5 x6 x7 → AtW p l e rmX5_leastLead s m args below meth c dC dI A Q 8 0 0 (ceX5_leastLead cyI cyB cyJ cyZ a0 a1 a2 a3 a4 a5 a6 a7 a8 a9 b6_walls g6_ways g6_wallCount g6_texts f7 f8 f9 f1 f2 f3 f4 f5) [(0, .ref a0), (5, .int x5), (6, .int x6), (7, .int x7)] 53 [] := by
  intro n
  induction n with
  | zero => intro f1 f2 f3 f4 f5 x5 x6 x7 hw; exact False.elim hw
  | succ n ih =>
    intro f1 f2 f3 f4 f5 x5 x6 x7 hw H locs hP hD hS ls hl
    have C1 := C0
    obtain ⟨hx, hb, hr, hml, hown, hts, hlocks⟩ := C1
    refine lv_iload hx hb dX5_leastLead_53 (lv_at hl 3 rfl) ?_
    refine lv_iload hx hb dX5_leastLead_55 (lv_at hl 1 rfl) ?_
    refine lv_icmp_ge (tgt := 74) hx hb dX5_leastLead_57 (by decide) (fun hc => ?_) (fun hc => ?_)
    · have hw := hw.1 hc
      refine lv_aload_n hx hb dX5_leastLead_74 rfl (lv_at hl 0 rfl) ?_
      refine va_get (D := (dC, dI)) (ci := 5) (v := .ref a5) (C := RX5) (T := TX5) (N := 5) hx hb hts inX5_leastLead_X5 hown hK hP 0 rfl rfl 4 (by decide) (hts (.fieldLink RX5 24 "LeadPark$Pieces" "best" "[I") (List.mem_of_getElem? (i := 5) rfl)) (fun _ h9 => h9) rfl dX5_leastLead_75 ?_
      refine lv_iload hx hb dX5_leastLead_78 (lv_at hl 2 rfl) ?_
      obtain ⟨hi, hw⟩ := hw
      refine va_iald hx hb hK hP 5 0 rfl rfl hi dX5_leastLead_80 ?_
      rw [hQ]
      exact W.iret (v := f5 x6.toNatClampNeg) hx hb hr (fun t ht hW => ⟨⟨f5 x6.toNatClampNeg, (f1, f2, f3, f4, f5), rfl, hw, by rw [ht]; exact hP, va_K.moved hW.alike hK, hD⟩, hS.F ht⟩) hS.2.2 dX5_leastLead_81
    · have hw := hw.2 hc
      refine lv_aload_n hx hb dX5_leastLead_60 rfl (lv_at hl 0 rfl) ?_
      refine lv_iload hx hb dX5_leastLead_61 (lv_at hl 3 rfl) ?_
      refine lv_iload hx hb dX5_leastLead_63 (lv_at hl 2 rfl) ?_
      have hPc := hP.sub (ws' := (ceX5_passRow cyI cyB cyJ cyZ a0 a5 a1 a3 a2 a4 f1 f3 f2 f4 f5)) [0, 5, 1, 3, 2, 4] rfl
      have hDc := hD.sub (ws' := (ceX5_passRow cyI cyB cyJ cyZ a0 a5 a1 a3 a2 a4 f1 f3 f2 f4 f5)) [0, 5, 1, 3, 2, 4] (by decide) rfl
      have hFc := va_free (wc := (ceX5_passRow cyI cyB cyJ cyZ a0 a5 a1 a3 a2 a4 f1 f3 f2 f4 f5)) hD hS hA [0, 5, 1, 3, 2, 4] rfl
      refine va_callv (va_runV (As := [.int x7, .int x6]) (rest := []) ⟨hx, hb, hml, hown, hts⟩ (ctX5_passRow l dC dI cyI cyB cyJ cyZ _ a0 a5 a1 a3 a2 a4 f1 f3 f2 f4 f5 x7 x6 _ hw) (cwV 2 hts gX5_leastLead_X5_passRow rfl rfl rfl (by decide +kernel) ⟨Nat.le_of_ble_eq_true rfl, Nat.le_of_ble_eq_true rfl⟩) ⟨wPre_blind, va_recv hK hPc (ci := 5) (q0 := 0) rfl rfl, fun U hU hW => wPre_of hPc hK hDc hN hU hW⟩ rfl rfl hl.1 rfl (lv_room (Nat.le_of_ble_eq_true rfl)) dX5_leastLead_65 ⟨(Nat.zero_le _), (Nat.zero_le _)⟩) hS (fun q _ h => hFc q h) hFc (fun u1 t H1 locs ht hvm hw hB hz1 hk1 hS => ?_)
      obtain ⟨hP1, hK1, hD1⟩ := hB
      rw [ht] at hP1
      obtain ⟨hP, hD⟩ := va_join (wr := pickW (ceX5_leastLead cyI cyB cyJ cyZ a0 a1 a2 a3 a4 a5 a6 a7 a8 a9 b6_walls g6_ways g6_wallCount g6_texts f7 f8 f9 f1 f2 f3 f4 f5) [6, 7, 8, 9]) (w1 := (ceX5_passRow cyI cyB cyJ cyZ a0 a5 a1 a3 a2 a4 f1 f3 f2 f4 u1)) hP hD [0, 5, 1, 3, 2, 4] [6, 7, 8, 9] rfl rfl (by decide) (by decide) hk1 hFc hP1 hD1
      have hP := hP.sub (ws' := (ceX5_leastLead cyI cyB cyJ cyZ a0 a1 a2 a3 a4 a5 a6 a7 a8 a9 b6_walls g6_ways g6_wallCount g6_texts f7 f8 f9 f1 f2 f3 f4 u1)) [4, 6, 8, 7, 9, 5, 0, 1, 2, 3] rfl
      have hD := hD.sub (ws' := (ceX5_leastLead cyI cyB cyJ cyZ a0 a1 a2 a3 a4 a5 a6 a7 a8 a9 b6_walls g6_ways g6_wallCount g6_texts f7 f8 f9 f1 f2 f3 f4 u1)) [4, 6, 8, 7, 9, 5, 0, 1, 2, 3] (by decide) rfl
      generalize H1 = H at hP hS ⊢
      obtain ⟨v2, ev2⟩ : ∃ y : Int32, y = x7 + 1 := ⟨_, rfl⟩
      have hw := hw v2 ev2
      refine lv_iinc (v := v2) (lv' := [(7, .int v2), (0, .ref a0), (5, .int x5), (6, .int x6)]) hx hb dX5_leastLead_68 hl (k := 3) rfl (by rw [ev2]; rfl) (by decide) rfl (fun ls hl => ?_)
      refine lv_goto (tgt := 53) hx hb dX5_leastLead_71 (by decide) ?_
      exact ih f1 f2 f3 f4 u1 x5 x6 v2 hw H locs hP hD hS ls (lv_sub hl [1, 2, 3, 0] rfl)
set_option maxRecDepth 100000 in
set_option maxHeartbeats 4000000 in
theorem ctX5_leastLead (l : Launch) (dC : Nat → ClassId) (dI : Nat → Nat → Nat) (cyI cyB cyJ cyZ : ClassId) (sz : Nat) (a0 a1 a2 a3 a4 a5 a6 a7 a8 a9 b6_walls : Nat) (g6_ways : Int32) (g6_wallCount : Int32) (g6_texts : Int32) (f7 : Nat → Int32) (f8 : Nat → Int32) (f9 : Nat → Int32) (f1 : Nat → Int32) (f2 : Nat → Int32) (f3 : Nat → Int32) (f4 : Nat → Int32) (f5 : Nat → Int32) (p1 : Int32) (p2 : Int32) (p3 : Int32) (post : Int32 → ((Nat → Int32) × (Nat → Int32) × (Nat → Int32) × (Nat → Int32) × (Nat → Int32)) → Prop) (hw : wpX5_leastLead post f7 f8 f9 f1 f2 f3 f4 f5 p1 p2 p3) : Met l yX5_leastLead wsX5_leastLead rmX5_leastLead (va_Pc [.ref a0, .ref a6, .int p1, .int p2, .int p3] (wPre dC dI cyI cyB cyJ cyZ sz (ceX5_leastLead cyI cyB cyJ cyZ a0 a1 a2 a3 a4 a5 a6 a7 a8 a9 b6_walls g6_ways g6_wallCount g6_texts f7 f8 f9 f1 f2 f3 f4 f5))) (va_Qi post (fun u : (Nat → Int32) × (Nat → Int32) × (Nat → Int32) × (Nat → Int32) × (Nat → Int32) => wAt dC dI cyI cyB cyJ cyZ (va_A (ceX5_leastLead cyI cyB cyJ cyZ a0 a1 a2 a3 a4 a5 a6 a7 a8 a9 b6_walls g6_ways g6_wallCount g6_texts f7 f8 f9 f1 f2 f3 f4 f5) sz) (ceX5_leastLead cyI cyB cyJ cyZ a0 a1 a2 a3 a4 a5 a6 a7 a8 a9 b6_walls g6_ways g6_wallCount g6_texts f7 f8 f9 u.1 u.2.1 u.2.2.1 u.2.2.2.1 u.2.2.2.2)) (va_A (ceX5_leastLead cyI cyB cyJ cyZ a0 a1 a2 a3 a4 a5 a6 a7 a8 a9 b6_walls g6_ways g6_wallCount g6_texts f7 f8 f9 f1 f2 f3 f4 f5) sz)) 0 0 (va_A (ceX5_leastLead cyI cyB cyJ cyZ a0 a1 a2 a3 a4 a5 a6 a7 a8 a9 b6_walls g6_ways g6_wallCount g6_texts f7 f8 f9 f1 f2 f3 f4 f5) sz) := by
  refine Met.ofW (cc := cX5_leastLead) (maxL := 8) (ret := (some .int)) (by decide) rfl ?_
  intro p e s m args below meth c s₁ B hml hv
  obtain ⟨rfl, hsz, hP, hK, hD0, hN⟩ := hv
  have hx := B.exec
  have hb := B.bytes
  have hr := B.returns
  have hts := atoms_spec (ws := wsX5_leastLead) B.pre
  have hown : s.vm.findClass RX5 = some m.cls := findClass_of_methodNamed B.named
  have hlocks := B.notSynchronized
  subst hsz
  have hD := hD0.self (sz := s.heap.size)
  generalize hAe : va_A (ceX5_leastLead cyI cyB cyJ cyZ a0 a1 a2 a3 a4 a5 a6 a7 a8 a9 b6_walls g6_ways g6_wallCount g6_texts f7 f8 f9 f1 f2 f3 f4 f5) s.heap.size = A at hD ⊢
  have hA : ∀ q : Nat, s.heap.size ≤ q → A q := fun q h => by rw [← hAe]; exact Or.inr h
  have hS : va_S A s.heap s.heap [] := va_S.rf
  have C0 : cxM p s m meth c _ wsX5_leastLead RX5 cX5_leastLead 8 (some .int) := ⟨hx, hb, hr, hml, hown, hts, hlocks⟩
  have hl := lv_entry ([.ref a0, .ref a6, .int p1, .int p2, .int p3]) (n := 8) (Nat.le_of_ble_eq_true rfl)
  rw [lg_entry_eq]
  generalize (lg_sl ([.ref a0, .ref a6, .int p1, .int p2, .int p3]) ++ List.replicate (8 - (lg_sl ([.ref a0, .ref a6, .int p1, .int p2, .int p3])).length) Slot.unset).toArray = ls at hl ⊢
  have hl : lv_has ls 8 [(0, .ref a0), (1, .ref a6), (2, .int p1), (3, .int p2), (4, .int p3)] := hl
  show W p l e rmX5_leastLead s m _ below meth c _ _ _ _ _ _
  refine wq (fun Q hQ => ?_)
  refine lv_aload_n hx hb dX5_leastLead_0 rfl (lv_at hl 1 rfl) ?_
  refine lv_iload_n hx hb dX5_leastLead_1 rfl (lv_at hl 2 rfl) ?_
  refine lv_iload hx hb dX5_leastLead_2 (lv_at hl 4 rfl) ?_
  refine lv_aload_n hx hb dX5_leastLead_4 rfl (lv_at hl 0 rfl) ?_
  refine va_get (D := (dC, dI)) (ci := 5) (v := .ref a1) (C := RX5) (T := TX5) (N := 5) hx hb hts inX5_leastLead_X5 hown hK hP 0 rfl rfl 0 (by decide) (hts (.fieldLink RX5 11 "LeadPark$Pieces" "manX" "[I") (List.mem_of_getElem? (i := 1) rfl)) (fun _ h9 => h9) rfl dX5_leastLead_5 ?_
  refine lv_aload_n hx hb dX5_leastLead_8 rfl (lv_at hl 0 rfl) ?_
  refine va_get (D := (dC, dI)) (ci := 5) (v := .ref a2) (C := RX5) (T := TX5) (N := 5) hx hb hts inX5_leastLead_X5 hown hK hP 0 rfl rfl 1 (by decide) (hts (.fieldLink RX5 15 "LeadPark$Pieces" "manY" "[I") (List.mem_of_getElem? (i := 2) rfl)) (fun _ h9 => h9) rfl dX5_leastLead_9 ?_
  have hPc := hP.sub (ws' := (ceX5_layPoints cyI cyB cyJ cyZ a6 a7 a8 a9 a1 a2 b6_walls 233 233 g6_ways g6_wallCount g6_texts f7 f8 f9 f1 f2)) [6, 7, 8, 9, 1, 2] rfl
  have hDc := hD.sub (ws' := (ceX5_layPoints cyI cyB cyJ cyZ a6 a7 a8 a9 a1 a2 b6_walls 233 233 g6_ways g6_wallCount g6_texts f7 f8 f9 f1 f2)) [6, 7, 8, 9, 1, 2] (by decide) rfl
  have hFc := va_free (wc := (ceX5_layPoints cyI cyB cyJ cyZ a6 a7 a8 a9 a1 a2 b6_walls 233 233 g6_ways g6_wallCount g6_texts f7 f8 f9 f1 f2)) hD hS hA [6, 7, 8, 9, 1, 2] rfl
  refine va_calli (va_runS (As := [.ref a6, .int p1, .int p3, .ref a1, .ref a2]) (rest := []) ⟨hx, hb, hml, hown, hts⟩ (ctX5_layPoints l dC dI cyI cyB cyJ cyZ _ a6 a7 a8 a9 a1 a2 b6_walls 233 233 g6_ways g6_wallCount g6_texts f7 f8 f9 f1 f2 p1 p3 _ hw) (va_cwS 5 hts gX5_leastLead_X5_layPoints rfl rfl rfl (by decide +kernel) ⟨Nat.le_of_ble_eq_true rfl, Nat.le_of_ble_eq_true rfl⟩) ⟨wPre_blind, fun U hU hW => wPre_of hPc hK hDc hN hU hW⟩ rfl rfl hl.1 rfl (lv_room (Nat.le_of_ble_eq_true rfl)) dX5_leastLead_12 ⟨(Nat.zero_le _), (Nat.zero_le _)⟩) hS (fun q _ h => hFc q h) hFc (fun r2 u1 t H1 locs ht hvm hw hB hz1 hk1 hS => ?_)
  obtain ⟨hP1, hK1, hD1⟩ := hB
  rw [ht] at hP1
  obtain ⟨hP, hD⟩ := va_join (wr := pickW (ceX5_leastLead cyI cyB cyJ cyZ a0 a1 a2 a3 a4 a5 a6 a7 a8 a9 b6_walls g6_ways g6_wallCount g6_texts f7 f8 f9 f1 f2 f3 f4 f5) [0, 3, 4, 5]) (w1 := (ceX5_layPoints cyI cyB cyJ cyZ a6 a7 a8 a9 a1 a2 b6_walls 233 233 g6_ways g6_wallCount g6_texts f7 f8 f9 u1.1 u1.2)) hP hD [6, 7, 8, 9, 1, 2] [0, 3, 4, 5] rfl rfl (by decide) (by decide) hk1 hFc hP1 hD1
  have hP := hP.sub (ws' := (ceX5_leastLead cyI cyB cyJ cyZ a0 a1 a2 a3 a4 a5 a6 a7 a8 a9 b6_walls g6_ways g6_wallCount g6_texts f7 f8 f9 u1.1 u1.2 f3 f4 f5)) [0, 8, 9, 1, 2, 3, 4, 5, 6, 7] rfl
  have hD := hD.sub (ws' := (ceX5_leastLead cyI cyB cyJ cyZ a0 a1 a2 a3 a4 a5 a6 a7 a8 a9 b6_walls g6_ways g6_wallCount g6_texts f7 f8 f9 u1.1 u1.2 f3 f4 f5)) [0, 8, 9, 1, 2, 3, 4, 5, 6, 7] (by decide) rfl
  generalize H1 = H at hP hS ⊢
  refine lv_istore (lv' := [(5, .int r2), (0, .ref a0), (1, .ref a6), (2, .int p1), (3, .int p2), (4, .int p3)]) hx hb dX5_leastLead_15 hl (by decide) rfl (fun ls hl => ?_)
  refine lv_aload_n hx hb dX5_leastLead_17 rfl (lv_at hl 2 rfl) ?_
  refine lv_iload_n hx hb dX5_leastLead_18 rfl (lv_at hl 4 rfl) ?_
  refine lv_iload hx hb dX5_leastLead_19 (lv_at hl 5 rfl) ?_
  refine lv_aload_n hx hb dX5_leastLead_21 rfl (lv_at hl 1 rfl) ?_
  refine va_get (D := (dC, dI)) (ci := 5) (v := .ref a3) (C := RX5) (T := TX5) (N := 5) hx hb hts inX5_leastLead_X5 hown hK hP 0 rfl rfl 2 (by decide) (hts (.fieldLink RX5 18 "LeadPark$Pieces" "dogX" "[I") (List.mem_of_getElem? (i := 3) rfl)) (fun _ h9 => h9) rfl dX5_leastLead_22 ?_
  refine lv_aload_n hx hb dX5_leastLead_25 rfl (lv_at hl 1 rfl) ?_
  refine va_get (D := (dC, dI)) (ci := 5) (v := .ref a4) (C := RX5) (T := TX5) (N := 5) hx hb hts inX5_leastLead_X5 hown hK hP 0 rfl rfl 3 (by decide) (hts (.fieldLink RX5 21 "LeadPark$Pieces" "dogY" "[I") (List.mem_of_getElem? (i := 4) rfl)) (fun _ h9 => h9) rfl dX5_leastLead_26 ?_
  have hPc := hP.sub (ws' := (ceX5_layPoints cyI cyB cyJ cyZ a6 a7 a8 a9 a3 a4 b6_walls 233 233 g6_ways g6_wallCount g6_texts f7 f8 f9 f3 f4)) [6, 7, 8, 9, 3, 4] rfl
  have hDc := hD.sub (ws' := (ceX5_layPoints cyI cyB cyJ cyZ a6 a7 a8 a9 a3 a4 b6_walls 233 233 g6_ways g6_wallCount g6_texts f7 f8 f9 f3 f4)) [6, 7, 8, 9, 3, 4] (by decide) rfl
  have hFc := va_free (wc := (ceX5_layPoints cyI cyB cyJ cyZ a6 a7 a8 a9 a3 a4 b6_walls 233 233 g6_ways g6_wallCount g6_texts f7 f8 f9 f3 f4)) hD hS hA [6, 7, 8, 9, 3, 4] rfl
  refine va_calli (va_runS (As := [.ref a6, .int p2, .int p3, .ref a3, .ref a4]) (rest := []) ⟨hx, hb, hml, hown, hts⟩ (ctX5_layPoints l dC dI cyI cyB cyJ cyZ _ a6 a7 a8 a9 a3 a4 b6_walls 233 233 g6_ways g6_wallCount g6_texts f7 f8 f9 f3 f4 p2 p3 _ hw) (va_cwS 5 hts gX5_leastLead_X5_layPoints rfl rfl rfl (by decide +kernel) ⟨Nat.le_of_ble_eq_true rfl, Nat.le_of_ble_eq_true rfl⟩) ⟨wPre_blind, fun U hU hW => wPre_of hPc hK hDc hN hU hW⟩ rfl rfl hl.1 rfl (lv_room (Nat.le_of_ble_eq_true rfl)) dX5_leastLead_29 ⟨(Nat.zero_le _), (Nat.zero_le _)⟩) hS (fun q _ h => hFc q h) hFc (fun r4 u3 t H1 locs ht hvm hw hB hz1 hk1 hS => ?_)
  obtain ⟨hP1, hK1, hD1⟩ := hB
  rw [ht] at hP1
  obtain ⟨hP, hD⟩ := va_join (wr := pickW (ceX5_leastLead cyI cyB cyJ cyZ a0 a1 a2 a3 a4 a5 a6 a7 a8 a9 b6_walls g6_ways g6_wallCount g6_texts f7 f8 f9 u1.1 u1.2 f3 f4 f5) [0, 1, 2, 5]) (w1 := (ceX5_layPoints cyI cyB cyJ cyZ a6 a7 a8 a9 a3 a4 b6_walls 233 233 g6_ways g6_wallCount g6_texts f7 f8 f9 u3.1 u3.2)) hP hD [6, 7, 8, 9, 3, 4] [0, 1, 2, 5] rfl rfl (by decide) (by decide) hk1 hFc hP1 hD1
  have hP := hP.sub (ws' := (ceX5_leastLead cyI cyB cyJ cyZ a0 a1 a2 a3 a4 a5 a6 a7 a8 a9 b6_walls g6_ways g6_wallCount g6_texts f7 f8 f9 u1.1 u1.2 u3.1 u3.2 f5)) [0, 1, 2, 8, 9, 3, 4, 5, 6, 7] rfl
  have hD := hD.sub (ws' := (ceX5_leastLead cyI cyB cyJ cyZ a0 a1 a2 a3 a4 a5 a6 a7 a8 a9 b6_walls g6_ways g6_wallCount g6_texts f7 f8 f9 u1.1 u1.2 u3.1 u3.2 f5)) [0, 1, 2, 8, 9, 3, 4, 5, 6, 7] (by decide) rfl
  generalize H1 = H at hP hS ⊢
  refine lv_istore (lv' := [(6, .int r4), (5, .int r2), (0, .ref a0), (1, .ref a6), (2, .int p1), (3, .int p2), (4, .int p3)]) hx hb dX5_leastLead_32 hl (by decide) rfl (fun ls hl => ?_)
  refine lv_aload_n hx hb dX5_leastLead_34 rfl (lv_at hl 2 rfl) ?_
  refine va_get (D := (dC, dI)) (ci := 5) (v := .ref a5) (C := RX5) (T := TX5) (N := 5) hx hb hts inX5_leastLead_X5 hown hK hP 0 rfl rfl 4 (by decide) (hts (.fieldLink RX5 24 "LeadPark$Pieces" "best" "[I") (List.mem_of_getElem? (i := 5) rfl)) (fun _ h9 => h9) rfl dX5_leastLead_35 ?_
  refine lv_ldc (v := 2147483647) hx hb hown (hts (.constant RX5 31 (2147483647)) (List.mem_of_getElem? (i := 6) rfl)) dX5_leastLead_38 ?_
  have hPc := hP.sub (ws' := (ceJ7_fill_53178 cyI cyB cyJ cyZ a5 234 f5)) [5] rfl
  have hDc := hD.sub (ws' := (ceJ7_fill_53178 cyI cyB cyJ cyZ a5 234 f5)) [5] (by decide) rfl
  have hFc := va_free (wc := (ceJ7_fill_53178 cyI cyB cyJ cyZ a5 234 f5)) hD hS hA [5] rfl
  refine va_callv (va_runS (As := [.ref a5, .int 2147483647]) (rest := []) ⟨hx, hb, hml, hown, hts⟩ (ctJ7_fill_53178 l dC dI cyI cyB cyJ cyZ _ a5 234 f5 2147483647 _ hw) (va_cwS 2 hts gX5_leastLead_J7_fill_53178 rfl rfl rfl (by decide +kernel) ⟨Nat.le_of_ble_eq_true rfl, Nat.le_of_ble_eq_true rfl⟩) ⟨wPre_blind, fun U hU hW => wPre_of hPc hK hDc hN hU hW⟩ rfl rfl hl.1 rfl (lv_room (Nat.le_of_ble_eq_true rfl)) dX5_leastLead_40 ⟨(Nat.zero_le _), (Nat.zero_le _)⟩) hS (fun q _ h => hFc q h) hFc (fun u5 t H1 locs ht hvm hw hB hz1 hk1 hS => ?_)
  obtain ⟨hP1, hK1, hD1⟩ := hB
  rw [ht] at hP1
  obtain ⟨hP, hD⟩ := va_join (wr := pickW (ceX5_leastLead cyI cyB cyJ cyZ a0 a1 a2 a3 a4 a5 a6 a7 a8 a9 b6_walls g6_ways g6_wallCount g6_texts f7 f8 f9 u1.1 u1.2 u3.1 u3.2 f5) [0, 1, 2, 3, 4, 6, 7, 8, 9]) (w1 := (ceJ7_fill_53178 cyI cyB cyJ cyZ a5 234 u5)) hP hD [5] [0, 1, 2, 3, 4, 6, 7, 8, 9] rfl rfl (by decide) (by decide) hk1 hFc hP1 hD1
  have hP := hP.sub (ws' := (ceX5_leastLead cyI cyB cyJ cyZ a0 a1 a2 a3 a4 a5 a6 a7 a8 a9 b6_walls g6_ways g6_wallCount g6_texts f7 f8 f9 u1.1 u1.2 u3.1 u3.2 u5)) [0, 1, 2, 3, 4, 9, 5, 6, 7, 8] rfl
  have hD := hD.sub (ws' := (ceX5_leastLead cyI cyB cyJ cyZ a0 a1 a2 a3 a4 a5 a6 a7 a8 a9 b6_walls g6_ways g6_wallCount g6_texts f7 f8 f9 u1.1 u1.2 u3.1 u3.2 u5)) [0, 1, 2, 3, 4, 9, 5, 6, 7, 8] (by decide) rfl
  generalize H1 = H at hP hS ⊢
  refine lv_aload_n hx hb dX5_leastLead_43 rfl (lv_at hl 2 rfl) ?_
  refine va_get (D := (dC, dI)) (ci := 5) (v := .ref a5) (C := RX5) (T := TX5) (N := 5) hx hb hts inX5_leastLead_X5 hown hK hP 0 rfl rfl 4 (by decide) (hts (.fieldLink RX5 24 "LeadPark$Pieces" "best" "[I") (List.mem_of_getElem? (i := 5) rfl)) (fun _ h9 => h9) rfl dX5_leastLead_44 ?_
  refine lv_iconst (v := 0) hx hb dX5_leastLead_47 (by decide) ?_
  refine lv_iconst (v := 0) hx hb dX5_leastLead_48 (by decide) ?_
  obtain ⟨hi, hw⟩ := hw
  refine va_iast hx hb hK hP hD hS 5 0 rfl rfl hi dX5_leastLead_49 (fun H locs hP hD hS => ?_)
  have hP : va_P (dC, dI) vwCl (ceX5_leastLead cyI cyB cyJ cyZ a0 a1 a2 a3 a4 a5 a6 a7 a8 a9 b6_walls g6_ways g6_wallCount g6_texts f7 f8 f9 u1.1 u1.2 u3.1 u3.2 (upd u5 (0 : Int32).toNatClampNeg 0)) H := hP
  have hD : va_D A (ceX5_leastLead cyI cyB cyJ cyZ a0 a1 a2 a3 a4 a5 a6 a7 a8 a9 b6_walls g6_ways g6_wallCount g6_texts f7 f8 f9 u1.1 u1.2 u3.1 u3.2 (upd u5 (0 : Int32).toNatClampNeg 0)) := hD
  refine lv_iconst (v := 0) hx hb dX5_leastLead_50 (by decide) ?_
  refine lv_istore (lv' := [(7, .int 0), (6, .int r4), (5, .int r2), (0, .ref a0), (1, .ref a6), (2, .int p1), (3, .int p2), (4, .int p3)]) hx hb dX5_leastLead_51 hl (by decide) rfl (fun ls hl => ?_)
  obtain ⟨nn, hw⟩ := hw
  exact bX5_leastLead_53 C0 hK hN hA hQ nn u1.1 u1.2 u3.1 u3.2 (upd u5 (0 : Int32).toNatClampNeg 0) r2 r4 0 hw _ _ hP hD hS ls (lv_sub hl [3, 2, 1, 0] rfl)
