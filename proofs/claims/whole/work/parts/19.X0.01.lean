/-! LeadPark$Grid.leastSum ()I -/
abbrev ceX0_leastSum (cyI cyB cyJ cyZ : ClassId) (a0 a1 a2 : Nat) (g0_rows : Int32) (g0_columns : Int32) (f2 : Nat → Int32) (f1 : Nat → Int32) : va_W := [(a0, .inr (0, [.ref a2, .ref a1, .int g0_rows, .int g0_columns])), (a1, .inl (cyI, 1089, .inl f1)), (a2, .inl (cyI, 1089, .inl f2))]

theorem inX0_leastSum_X0 : ∀ w ∈ wsX00, w ∈ wsX0_leastSum := fun _ h => List.mem_cons_of_mem _ (List.mem_append_right _ h)
abbrev rmX0_leastSum : Room := { frames := 2, cells := 0, slots := 0, locals := 62 }
set_option maxRecDepth 100000 in
set_option maxHeartbeats 4000000 in
theorem bX0_leastSum_84 {p : Program} {l : Launch} {e : Env} {s : State} {m : MethodId} {args : Array Value} {below : List Frame} {meth : Method} {c : Code} {dC : Nat → ClassId} {dI : Nat → Nat → Nat} {cyI cyB cyJ cyZ : ClassId} {A : Nat → Prop} {a0 a1 a2 : Nat} (C0 : cxM p s m meth c args wsX0_leastSum RX0 cX0_leastSum 5 (some .int)) (hK : va_K (dC, dI) vwCl (tyA cyI cyB cyJ cyZ) s) (hN : nwA s) (hA : ∀ q : Nat, s.heap.size ≤ q → A q) {post : Int32 → ((Nat → Int32)) → Prop} {g0_rows : Int32} {g0_columns : Int32} {f2 : Nat → Int32} {k30 : (Nat → Int32) → Int32 → Int32 → Prop} {k19 : (Nat → Int32) → Int32 → Prop} {Q : State → Prop} (hQ : Q = MQ below (va_Qi post (fun u : (Nat → Int32) => wAt dC dI cyI cyB cyJ cyZ A (ceX0_leastSum cyI cyB cyJ cyZ a0 a1 a2 g0_rows g0_columns f2 u)) A) args s 0 0 A) (hk30 : ∀ (f1 : Nat → Int32) (x1 : Int32) (x2 : Int32), k30 f1 x1 x2 → AtW p l e rmX0_leastSum s m args below meth c dC dI A Q 5 0 0 (ceX0_leastSum cyI cyB cyJ cyZ a0 a1 a2 g0_rows g0_columns f2 f1) [(0, .ref a0), (1, .int x1), (2, .int x2)] 30 []) (hk19 : ∀ (f1 : Nat → Int32) (x1 : Int32), k19 f1 x1 → AtW p l e rmX0_leastSum s m args below meth c dC dI A Q 5 0 0 (ceX0_leastSum cyI cyB cyJ cyZ a0 a1 a2 g0_rows g0_columns f2 f1) [(0, .ref a0), (1, .int x1)] 19 []) : ∀ (f1 : Nat → Int32) (x1 : Int32) (x2 : Int32) (s1 : Int32) (s2 : Int32), wpX0_leastSum_84 k30 k19 post g0_rows g0_columns f2 f1 x1 x2 s1 s2 → AtW p l e rmX0_leastSum s m args below meth c dC dI A Q 5 0 0 (ceX0_leastSum cyI cyB cyJ cyZ a0 a1 a2 g0_rows g0_columns f2 f1) [(0, .ref a0), (1, .int x1), (2, .int x2)] 84 [.int s2, .int s1, .ref a1] := by
  intro f1 x1 x2 s1 s2 hw H locs hP hD hS ls hl
  have C1 := C0
  obtain ⟨hx, hb, hr, hml, hown, hts, hlocks⟩ := C1
  obtain ⟨hi, hw⟩ := hw
  refine va_iast hx hb hK hP hD hS 1 0 rfl rfl hi dX0_leastSum_84 (fun H locs hP hD hS => ?_)
  have hP : va_P (dC, dI) vwCl (ceX0_leastSum cyI cyB cyJ cyZ a0 a1 a2 g0_rows g0_columns f2 (upd f1 s1.toNatClampNeg s2)) H := hP
  have hD : va_D A (ceX0_leastSum cyI cyB cyJ cyZ a0 a1 a2 g0_rows g0_columns f2 (upd f1 s1.toNatClampNeg s2)) := hD
  obtain ⟨v1, ev1⟩ : ∃ y : Int32, y = x2 + (-1) := ⟨_, rfl⟩
  have hw := hw v1 ev1
  refine lv_iinc (v := v1) (lv' := [(2, .int v1), (0, .ref a0), (1, .int x1)]) hx hb dX0_leastSum_85 hl (k := 2) rfl (by rw [ev1]; rfl) (by decide) rfl (fun ls hl => ?_)
  refine lv_goto (tgt := 30) hx hb dX0_leastSum_88 (by decide) ?_
  exact hk30 (upd f1 s1.toNatClampNeg s2) x1 v1 hw H locs hP hD hS ls (lv_sub hl [1, 2, 0] rfl)
set_option maxRecDepth 100000 in
set_option maxHeartbeats 4000000 in
theorem bX0_leastSum_75 {p : Program} {l : Launch} {e : Env} {s : State} {m : MethodId} {args : Array Value} {below : List Frame} {meth : Method} {c : Code} {dC : Nat → ClassId} {dI : Nat → Nat → Nat} {cyI cyB cyJ cyZ : ClassId} {A : Nat → Prop} {a0 a1 a2 : Nat} (C0 : cxM p s m meth c args wsX0_leastSum RX0 cX0_leastSum 5 (some .int)) (hK : va_K (dC, dI) vwCl (tyA cyI cyB cyJ cyZ) s) (hN : nwA s) (hA : ∀ q : Nat, s.heap.size ≤ q → A q) {post : Int32 → ((Nat → Int32)) → Prop} {g0_rows : Int32} {g0_columns : Int32} {f2 : Nat → Int32} {k30 : (Nat → Int32) → Int32 → Int32 → Prop} {k19 : (Nat → Int32) → Int32 → Prop} {Q : State → Prop} (hQ : Q = MQ below (va_Qi post (fun u : (Nat → Int32) => wAt dC dI cyI cyB cyJ cyZ A (ceX0_leastSum cyI cyB cyJ cyZ a0 a1 a2 g0_rows g0_columns f2 u)) A) args s 0 0 A) (hk30 : ∀ (f1 : Nat → Int32) (x1 : Int32) (x2 : Int32), k30 f1 x1 x2 → AtW p l e rmX0_leastSum s m args below meth c dC dI A Q 5 0 0 (ceX0_leastSum cyI cyB cyJ cyZ a0 a1 a2 g0_rows g0_columns f2 f1) [(0, .ref a0), (1, .int x1), (2, .int x2)] 30 []) (hk19 : ∀ (f1 : Nat → Int32) (x1 : Int32), k19 f1 x1 → AtW p l e rmX0_leastSum s m args below meth c dC dI A Q 5 0 0 (ceX0_leastSum cyI cyB cyJ cyZ a0 a1 a2 g0_rows g0_columns f2 f1) [(0, .ref a0), (1, .int x1)] 19 []) : ∀ (f1 : Nat → Int32) (x1 : Int32) (x2 : Int32) (s1 : Int32), wpX0_leastSum_75 k30 k19 post g0_rows g0_columns f2 f1 x1 x2 s1 → AtW p l e rmX0_leastSum s m args below meth c dC dI A Q 5 0 0 (ceX0_leastSum cyI cyB cyJ cyZ a0 a1 a2 g0_rows g0_columns f2 f1) [(0, .ref a0), (1, .int x1), (2, .int x2)] 75 [.int s1, .ref a1] := by
  intro f1 x1 x2 s1 hw H locs hP hD hS ls hl
  have C1 := C0
  obtain ⟨hx, hb, hr, hml, hown, hts, hlocks⟩ := C1
  refine lv_ldc (v := 2147483647) hx hb hown (hts (.constant RX0 44 (2147483647)) (List.mem_of_getElem? (i := 5) rfl)) dX0_leastSum_75 ?_
  refine lv_goto (tgt := 84) hx hb dX0_leastSum_77 (by decide) ?_
  exact bX0_leastSum_84 C0 hK hN hA hQ hk30 hk19 f1 x1 x2 s1 2147483647 hw _ _ hP hD hS ls (lv_sub hl [0, 1, 2] rfl)
set_option maxRecDepth 100000 in
set_option maxHeartbeats 4000000 in
theorem bX0_leastSum_30 {p : Program} {l : Launch} {e : Env} {s : State} {m : MethodId} {args : Array Value} {below : List Frame} {meth : Method} {c : Code} {dC : Nat → ClassId} {dI : Nat → Nat → Nat} {cyI cyB cyJ cyZ : ClassId} {A : Nat → Prop} {a0 a1 a2 : Nat} (C0 : cxM p s m meth c args wsX0_leastSum RX0 cX0_leastSum 5 (some .int)) (hK : va_K (dC, dI) vwCl (tyA cyI cyB cyJ cyZ) s) (hN : nwA s) (hA : ∀ q : Nat, s.heap.size ≤ q → A q) {post : Int32 → ((Nat → Int32)) → Prop} {g0_rows : Int32} {g0_columns : Int32} {f2 : Nat → Int32} {k19 : (Nat → Int32) → Int32 → Prop} {Q : State → Prop} (hQ : Q = MQ below (va_Qi post (fun u : (Nat → Int32) => wAt dC dI cyI cyB cyJ cyZ A (ceX0_leastSum cyI cyB cyJ cyZ a0 a1 a2 g0_rows g0_columns f2 u)) A) args s 0 0 A) (hk19 : ∀ (f1 : Nat → Int32) (x1 : Int32), k19 f1 x1 → AtW p l e rmX0_leastSum s m args below meth c dC dI A Q 5 0 0 (ceX0_leastSum cyI cyB cyJ cyZ a0 a1 a2 g0_rows g0_columns f2 f1) [(0, .ref a0), (1, .int x1)] 19 []) : ∀ (n : Nat) (f1 : Nat → Int32) (x1 : Int32) (x2 : Int32), wpX0_leastSum_30 k19 post g0_rows g0_columns f2 n f1 x1 x2 → AtW p l e rmX0_leastSum s m args below meth c dC dI A Q 5 0 0 (ceX0_leastSum cyI cyB cyJ cyZ a0 a1 a2 g0_rows g0_columns f2 f1) [(0, .ref a0), (1, .int x1), (2, .int x2)] 30 [] := by
  intro n
  induction n with
  | zero => intro f1 x1 x2 hw; exact False.elim hw
  | succ n ih =>
    intro f1 x1 x2 hw H locs hP hD hS ls hl
    have C1 := C0
    obtain ⟨hx, hb, hr, hml, hown, hts, hlocks⟩ := C1
    refine lv_iload_n hx hb dX0_leastSum_30 rfl (lv_at hl 2 rfl) ?_
    refine lv_if_lt (tgt := 91) hx hb dX0_leastSum_31 (by decide) (fun hc => ?_) (fun hc => ?_)
    · have hw := hw.1 hc
      obtain ⟨v1, ev1⟩ : ∃ y : Int32, y = x1 + (-1) := ⟨_, rfl⟩
      have hw := hw v1 ev1
      refine lv_iinc (v := v1) (lv' := [(1, .int v1), (0, .ref a0), (2, .int x2)]) hx hb dX0_leastSum_91 hl (k := 1) rfl (by rw [ev1]; rfl) (by decide) rfl (fun ls hl => ?_)
      refine lv_goto (tgt := 19) hx hb dX0_leastSum_94 (by decide) ?_
      exact hk19 f1 v1 hw H locs hP hD hS ls (lv_sub hl [1, 0] rfl)
    · have hw := hw.2 hc
      refine lv_aload_n hx hb dX0_leastSum_34 rfl (lv_at hl 0 rfl) ?_
      refine lv_iload_n hx hb dX0_leastSum_35 rfl (lv_at hl 1 rfl) ?_
      refine lv_iload_n hx hb dX0_leastSum_36 rfl (lv_at hl 2 rfl) ?_
      have hPc := hP.sub (ws' := (ceX0_bestAhead cyI cyB cyJ cyZ a0 a1 a2 g0_rows g0_columns f1)) [0, 1] rfl
      have hDc := hD.sub (ws' := (ceX0_bestAhead cyI cyB cyJ cyZ a0 a1 a2 g0_rows g0_columns f1)) [0, 1] (by decide) rfl
      have hFc := va_free (wc := (ceX0_bestAhead cyI cyB cyJ cyZ a0 a1 a2 g0_rows g0_columns f1)) hD hS hA [0, 1] rfl
      refine va_calli (va_runV (As := [.int x1, .int x2]) (rest := []) ⟨hx, hb, hml, hown, hts⟩ (ctX0_bestAhead l dC dI cyI cyB cyJ cyZ _ a0 a1 a2 g0_rows g0_columns f1 x1 x2 _ hw) (cwV 2 hts gX0_leastSum_X0_bestAhead rfl rfl rfl (by decide +kernel) ⟨Nat.le_of_ble_eq_true rfl, Nat.le_of_ble_eq_true rfl⟩) ⟨wPre_blind, va_recv hK hPc (ci := 0) (q0 := 0) rfl rfl, fun U hU hW => wPre_of hPc hK hDc hN hU hW⟩ rfl rfl hl.1 rfl (lv_room (Nat.le_of_ble_eq_true rfl)) dX0_leastSum_37 ⟨(Nat.zero_le _), (Nat.zero_le _)⟩) hS (fun q _ h => hFc q h) hFc (fun r3 u2 t H1 locs ht hvm hw hB hz1 hk1 hS => ?_)
      obtain ⟨hP1, hK1, hD1⟩ := hB
      rw [ht] at hP1
      obtain ⟨hP, hD⟩ := va_join (wr := pickW (ceX0_leastSum cyI cyB cyJ cyZ a0 a1 a2 g0_rows g0_columns f2 f1) [2]) (w1 := (ceX0_bestAhead cyI cyB cyJ cyZ a0 a1 a2 g0_rows g0_columns f1)) hP hD [0, 1] [2] rfl rfl (by decide) (by decide) hk1 hFc hP1 hD1
      have hP := hP.sub (ws' := (ceX0_leastSum cyI cyB cyJ cyZ a0 a1 a2 g0_rows g0_columns f2 f1)) [1, 2, 0] rfl
      have hD := hD.sub (ws' := (ceX0_leastSum cyI cyB cyJ cyZ a0 a1 a2 g0_rows g0_columns f2 f1)) [1, 2, 0] (by decide) rfl
      generalize H1 = H at hP hS ⊢
      refine lv_istore_n (lv' := [(3, .int r3), (0, .ref a0), (1, .int x1), (2, .int x2)]) hx hb dX0_leastSum_40 rfl hl (by decide) rfl (fun ls hl => ?_)
      refine lv_aload_n hx hb dX0_leastSum_41 rfl (lv_at hl 1 rfl) ?_
      refine va_get (D := (dC, dI)) (ci := 0) (v := .ref a2) (C := RX0) (T := TX0) (N := 4) hx hb hts inX0_leastSum_X0 hown hK hP 0 rfl rfl 0 (by decide) (hts (.fieldLink RX0 11 "LeadPark$Grid" "prices" "[I") (List.mem_of_getElem? (i := 3) rfl)) (fun _ h9 => h9) rfl dX0_leastSum_42 ?_
      refine lv_iload_n hx hb dX0_leastSum_45 rfl (lv_at hl 2 rfl) ?_
      refine lv_iload_n hx hb dX0_leastSum_46 rfl (lv_at hl 3 rfl) ?_
      have hPc := hP.sub (ws' := ([] : va_W)) [] rfl
      have hDc := hD.sub (ws' := ([] : va_W)) [] (by decide) rfl
      have hFc := va_free (wc := ([] : va_W)) hD hS hA [] rfl
      refine va_calli (va_runS (As := [.int x1, .int x2]) (rest := [.ref a2]) ⟨hx, hb, hml, hown, hts⟩ (ctX0_cell l dC dI cyI cyB cyJ cyZ _ x1 x2 _ hw) (va_cwS 2 hts gX0_leastSum_X0_cell rfl rfl rfl (by decide +kernel) ⟨Nat.le_of_ble_eq_true rfl, Nat.le_of_ble_eq_true rfl⟩) ⟨wPre_blind, fun U hU hW => wPre_of hPc hK hDc hN hU hW⟩ rfl rfl hl.1 rfl (lv_room (Nat.le_of_ble_eq_true rfl)) dX0_leastSum_47 ⟨(Nat.zero_le _), (Nat.zero_le _)⟩) hS (fun q _ h => hFc q h) hFc (fun r5 u4 t H1 locs ht hvm hw hB hz1 hk1 hS => ?_)
      obtain ⟨hP1, hK1, hD1⟩ := hB
      rw [ht] at hP1
      obtain ⟨hP, hD⟩ := va_join (wr := pickW (ceX0_leastSum cyI cyB cyJ cyZ a0 a1 a2 g0_rows g0_columns f2 f1) [0, 1, 2]) (w1 := ([] : va_W)) hP hD [] [0, 1, 2] rfl rfl (by decide) (by decide) hk1 hFc hP1 hD1
      have hP := hP.sub (ws' := (ceX0_leastSum cyI cyB cyJ cyZ a0 a1 a2 g0_rows g0_columns f2 f1)) [0, 1, 2] rfl
      have hD := hD.sub (ws' := (ceX0_leastSum cyI cyB cyJ cyZ a0 a1 a2 g0_rows g0_columns f2 f1)) [0, 1, 2] (by decide) rfl
      generalize H1 = H at hP hS ⊢
      obtain ⟨hi, hw⟩ := hw
      refine va_iald hx hb hK hP 2 0 rfl rfl hi dX0_leastSum_50 ?_
      refine lv_topi (fun v6 ev6 => ?_)
      have hw := hw v6 ev6
      refine lv_istore (lv' := [(4, .int v6), (3, .int r3), (0, .ref a0), (1, .int x1), (2, .int x2)]) hx hb dX0_leastSum_51 hl (by decide) rfl (fun ls hl => ?_)
      refine lv_aload_n hx hb dX0_leastSum_53 rfl (lv_at hl 2 rfl) ?_
      refine va_get (D := (dC, dI)) (ci := 0) (v := .ref a1) (C := RX0) (T := TX0) (N := 4) hx hb hts inX0_leastSum_X0 hown hK hP 0 rfl rfl 1 (by decide) (hts (.fieldLink RX0 15 "LeadPark$Grid" "best" "[I") (List.mem_of_getElem? (i := 4) rfl)) (fun _ h9 => h9) rfl dX0_leastSum_54 ?_
      refine lv_iload_n hx hb dX0_leastSum_57 rfl (lv_at hl 3 rfl) ?_
      refine lv_iload_n hx hb dX0_leastSum_58 rfl (lv_at hl 4 rfl) ?_
      have hPc := hP.sub (ws' := ([] : va_W)) [] rfl
      have hDc := hD.sub (ws' := ([] : va_W)) [] (by decide) rfl
      have hFc := va_free (wc := ([] : va_W)) hD hS hA [] rfl
      refine va_calli (va_runS (As := [.int x1, .int x2]) (rest := [.ref a1]) ⟨hx, hb, hml, hown, hts⟩ (ctX0_cell l dC dI cyI cyB cyJ cyZ _ x1 x2 _ hw) (va_cwS 2 hts gX0_leastSum_X0_cell rfl rfl rfl (by decide +kernel) ⟨Nat.le_of_ble_eq_true rfl, Nat.le_of_ble_eq_true rfl⟩) ⟨wPre_blind, fun U hU hW => wPre_of hPc hK hDc hN hU hW⟩ rfl rfl hl.1 rfl (lv_room (Nat.le_of_ble_eq_true rfl)) dX0_leastSum_59 ⟨(Nat.zero_le _), (Nat.zero_le _)⟩) hS (fun q _ h => hFc q h) hFc (fun r8 u7 t H1 locs ht hvm hw hB hz1 hk1 hS => ?_)
      obtain ⟨hP1, hK1, hD1⟩ := hB
      rw [ht] at hP1
      obtain ⟨hP, hD⟩ := va_join (wr := pickW (ceX0_leastSum cyI cyB cyJ cyZ a0 a1 a2 g0_rows g0_columns f2 f1) [0, 1, 2]) (w1 := ([] : va_W)) hP hD [] [0, 1, 2] rfl rfl (by decide) (by decide) hk1 hFc hP1 hD1
      have hP := hP.sub (ws' := (ceX0_leastSum cyI cyB cyJ cyZ a0 a1 a2 g0_rows g0_columns f2 f1)) [0, 1, 2] rfl
      have hD := hD.sub (ws' := (ceX0_leastSum cyI cyB cyJ cyZ a0 a1 a2 g0_rows g0_columns f2 f1)) [0, 1, 2] (by decide) rfl
      generalize H1 = H at hP hS ⊢
      refine lv_iload_n hx hb dX0_leastSum_62 rfl (lv_at hl 1 rfl) ?_
      refine lv_ldc (v := 2147483647) hx hb hown (hts (.constant RX0 44 (2147483647)) (List.mem_of_getElem? (i := 5) rfl)) dX0_leastSum_63 ?_
      refine lv_icmp_eq (tgt := 75) hx hb dX0_leastSum_65 (by decide) (fun hc => ?_) (fun hc => ?_)
      · have hw := hw.1 hc
        exact bX0_leastSum_75 C0 hK hN hA hQ ih hk19 f1 x1 x2 r8 hw _ _ hP hD hS ls (lv_sub hl [2, 3, 4] rfl)
      · have hw := hw.2 hc
        refine lv_iload hx hb dX0_leastSum_68 (lv_at hl 0 rfl) ?_
        refine lv_ldc (v := 2147483647) hx hb hown (hts (.constant RX0 44 (2147483647)) (List.mem_of_getElem? (i := 5) rfl)) dX0_leastSum_70 ?_
        refine lv_icmp_ne (tgt := 80) hx hb dX0_leastSum_72 (by decide) (fun hc => ?_) (fun hc => ?_)
        · have hw := hw.1 hc
          refine lv_iload_n hx hb dX0_leastSum_80 rfl (lv_at hl 1 rfl) ?_
          refine lv_iload hx hb dX0_leastSum_81 (lv_at hl 0 rfl) ?_
          refine lv_iadd hx hb dX0_leastSum_83 ?_
          exact bX0_leastSum_84 C0 hK hN hA hQ ih hk19 f1 x1 x2 r8 (r3 + v6) hw _ _ hP hD hS ls (lv_sub hl [2, 3, 4] rfl)
        · have hw := hw.2 hc
          exact bX0_leastSum_75 C0 hK hN hA hQ ih hk19 f1 x1 x2 r8 hw _ _ hP hD hS ls (lv_sub hl [2, 3, 4] rfl)
set_option maxRecDepth 100000 in
set_option maxHeartbeats 4000000 in
theorem bX0_leastSum_19 {p : Program} {l : Launch} {e : Env} {s : State} {m : MethodId} {args : Array Value} {below : List Frame} {meth : Method} {c : Code} {dC : Nat → ClassId} {dI : Nat → Nat → Nat} {cyI cyB cyJ cyZ : ClassId} {A : Nat → Prop} {a0 a1 a2 : Nat} (C0 : cxM p s m meth c args wsX0_leastSum RX0 cX0_leastSum 5 (some .int)) (hK : va_K (dC, dI) vwCl (tyA cyI cyB cyJ cyZ) s) (hN : nwA s) (hA : ∀ q : Nat, s.heap.size ≤ q → A q) {post : Int32 → ((Nat → Int32)) → Prop} {g0_rows : Int32} {g0_columns : Int32} {f2 : Nat → Int32} {Q : State → Prop} (hQ : Q = MQ below (va_Qi post (fun u : (Nat → Int32) => wAt dC dI cyI cyB cyJ cyZ A (ceX0_leastSum cyI cyB cyJ cyZ a0 a1 a2 g0_rows g0_columns f2 u)) A) args s 0 0 A) : ∀ (n : Nat) (f1 : Nat → Int32) (x1 : Int32), wpX0_leastSum_19 post g0_rows g0_columns f2 n f1 x1 → AtW p l e rmX0_leastSum s m args below meth c dC dI A Q 5 0 0 (ceX0_leastSum cyI cyB cyJ cyZ a0 a1 a2 g0_rows g0_columns f2 f1) [(0, .ref a0), (1, .int x1)] 19 [] := by
  intro n
  induction n with
  | zero => intro f1 x1 hw; exact False.elim hw
  | succ n ih =>
    intro f1 x1 hw H locs hP hD hS ls hl
    have C1 := C0
    obtain ⟨hx, hb, hr, hml, hown, hts, hlocks⟩ := C1
    refine lv_iload_n hx hb dX0_leastSum_19 rfl (lv_at hl 1 rfl) ?_
    refine lv_if_lt (tgt := 97) hx hb dX0_leastSum_20 (by decide) (fun hc => ?_) (fun hc => ?_)
    · have hw := hw.1 hc
      refine lv_aload_n hx hb dX0_leastSum_97 rfl (lv_at hl 0 rfl) ?_
      refine va_get (D := (dC, dI)) (ci := 0) (v := .ref a1) (C := RX0) (T := TX0) (N := 4) hx hb hts inX0_leastSum_X0 hown hK hP 0 rfl rfl 1 (by decide) (hts (.fieldLink RX0 15 "LeadPark$Grid" "best" "[I") (List.mem_of_getElem? (i := 4) rfl)) (fun _ h9 => h9) rfl dX0_leastSum_98 ?_
      refine lv_iconst (v := 0) hx hb dX0_leastSum_101 (by decide) ?_
      refine lv_iconst (v := 0) hx hb dX0_leastSum_102 (by decide) ?_
      have hPc := hP.sub (ws' := ([] : va_W)) [] rfl
      have hDc := hD.sub (ws' := ([] : va_W)) [] (by decide) rfl
      have hFc := va_free (wc := ([] : va_W)) hD hS hA [] rfl
      refine va_calli (va_runS (As := [.int 0, .int 0]) (rest := [.ref a1]) ⟨hx, hb, hml, hown, hts⟩ (ctX0_cell l dC dI cyI cyB cyJ cyZ _ 0 0 _ hw) (va_cwS 2 hts gX0_leastSum_X0_cell rfl rfl rfl (by decide +kernel) ⟨Nat.le_of_ble_eq_true rfl, Nat.le_of_ble_eq_true rfl⟩) ⟨wPre_blind, fun U hU hW => wPre_of hPc hK hDc hN hU hW⟩ rfl rfl hl.1 rfl (lv_room (Nat.le_of_ble_eq_true rfl)) dX0_leastSum_103 ⟨(Nat.zero_le _), (Nat.zero_le _)⟩) hS (fun q _ h => hFc q h) hFc (fun r2 u1 t H1 locs ht hvm hw hB hz1 hk1 hS => ?_)
      obtain ⟨hP1, hK1, hD1⟩ := hB
      rw [ht] at hP1
      obtain ⟨hP, hD⟩ := va_join (wr := pickW (ceX0_leastSum cyI cyB cyJ cyZ a0 a1 a2 g0_rows g0_columns f2 f1) [0, 1, 2]) (w1 := ([] : va_W)) hP hD [] [0, 1, 2] rfl rfl (by decide) (by decide) hk1 hFc hP1 hD1
      have hP := hP.sub (ws' := (ceX0_leastSum cyI cyB cyJ cyZ a0 a1 a2 g0_rows g0_columns f2 f1)) [0, 1, 2] rfl
      have hD := hD.sub (ws' := (ceX0_leastSum cyI cyB cyJ cyZ a0 a1 a2 g0_rows g0_columns f2 f1)) [0, 1, 2] (by decide) rfl
      generalize H1 = H at hP hS ⊢
      obtain ⟨hi, hw⟩ := hw
      refine va_iald hx hb hK hP 1 0 rfl rfl hi dX0_leastSum_106 ?_
      rw [hQ]
      exact W.iret (v := f1 r2.toNatClampNeg) hx hb hr (fun t ht hW => ⟨⟨f1 r2.toNatClampNeg, (f1), rfl, hw, by rw [ht]; exact hP, va_K.moved hW.alike hK, hD⟩, hS.F ht⟩) hS.2.2 dX0_leastSum_107
    · have hw := hw.2 hc
      refine lv_aload_n hx hb dX0_leastSum_23 rfl (lv_at hl 0 rfl) ?_
      refine va_get (D := (dC, dI)) (ci := 0) (v := .int g0_columns) (C := RX0) (T := TX0) (N := 4) hx hb hts inX0_leastSum_X0 hown hK hP 0 rfl rfl 3 (by decide) (hts (.fieldLink RX0 22 "LeadPark$Grid" "columns" "I") (List.mem_of_getElem? (i := 2) rfl)) (fun _ h9 => h9) rfl dX0_leastSum_24 ?_
      refine lv_iconst (v := 1) hx hb dX0_leastSum_27 (by decide) ?_
      refine lv_isub hx hb dX0_leastSum_28 ?_
      refine lv_topi (fun v3 ev3 => ?_)
      have hw := hw v3 ev3
      refine lv_istore_n (lv' := [(2, .int v3), (0, .ref a0), (1, .int x1)]) hx hb dX0_leastSum_29 rfl hl (by decide) rfl (fun ls hl => ?_)
      obtain ⟨nn, hw⟩ := hw
      exact bX0_leastSum_30 C0 hK hN hA hQ ih nn f1 x1 v3 hw _ _ hP hD hS ls (lv_sub hl [1, 2, 0] rfl)
set_option maxRecDepth 100000 in
set_option maxHeartbeats 4000000 in
theorem ctX0_leastSum (l : Launch) (dC : Nat → ClassId) (dI : Nat → Nat → Nat) (cyI cyB cyJ cyZ : ClassId) (sz : Nat) (a0 a1 a2 : Nat) (g0_rows : Int32) (g0_columns : Int32) (f2 : Nat → Int32) (f1 : Nat → Int32) (post : Int32 → ((Nat → Int32)) → Prop) (hw : wpX0_leastSum post g0_rows g0_columns f2 f1 ) : Met l yX0_leastSum wsX0_leastSum rmX0_leastSum (va_Pc [.ref a0] (wPre dC dI cyI cyB cyJ cyZ sz (ceX0_leastSum cyI cyB cyJ cyZ a0 a1 a2 g0_rows g0_columns f2 f1))) (va_Qi post (fun u : (Nat → Int32) => wAt dC dI cyI cyB cyJ cyZ (va_A (ceX0_leastSum cyI cyB cyJ cyZ a0 a1 a2 g0_rows g0_columns f2 f1) sz) (ceX0_leastSum cyI cyB cyJ cyZ a0 a1 a2 g0_rows g0_columns f2 u)) (va_A (ceX0_leastSum cyI cyB cyJ cyZ a0 a1 a2 g0_rows g0_columns f2 f1) sz)) 0 0 (va_A (ceX0_leastSum cyI cyB cyJ cyZ a0 a1 a2 g0_rows g0_columns f2 f1) sz) := by
  refine Met.ofW (cc := cX0_leastSum) (maxL := 5) (ret := (some .int)) (by decide) rfl ?_
  intro p e s m args below meth c s₁ B hml hv
  obtain ⟨rfl, hsz, hP, hK, hD0, hN⟩ := hv
  have hx := B.exec
  have hb := B.bytes
  have hr := B.returns
  have hts := atoms_spec (ws := wsX0_leastSum) B.pre
  have hown : s.vm.findClass RX0 = some m.cls := findClass_of_methodNamed B.named
  have hlocks := B.notSynchronized
  subst hsz
  have hD := hD0.self (sz := s.heap.size)
  generalize hAe : va_A (ceX0_leastSum cyI cyB cyJ cyZ a0 a1 a2 g0_rows g0_columns f2 f1) s.heap.size = A at hD ⊢
  have hA : ∀ q : Nat, s.heap.size ≤ q → A q := fun q h => by rw [← hAe]; exact Or.inr h
  have hS : va_S A s.heap s.heap [] := va_S.rf
  have C0 : cxM p s m meth c _ wsX0_leastSum RX0 cX0_leastSum 5 (some .int) := ⟨hx, hb, hr, hml, hown, hts, hlocks⟩
  have hl := lv_entry ([.ref a0]) (n := 5) (Nat.le_of_ble_eq_true rfl)
  rw [lg_entry_eq]
  generalize (lg_sl ([.ref a0]) ++ List.replicate (5 - (lg_sl ([.ref a0])).length) Slot.unset).toArray = ls at hl ⊢
  have hl : lv_has ls 5 [(0, .ref a0)] := hl
  show W p l e rmX0_leastSum s m _ below meth c _ _ _ _ _ _
  refine wq (fun Q hQ => ?_)
  refine lv_aload_n hx hb dX0_leastSum_0 rfl (lv_at hl 0 rfl) ?_
  refine lv_aload_n hx hb dX0_leastSum_1 rfl (lv_at hl 0 rfl) ?_
  refine va_get (D := (dC, dI)) (ci := 0) (v := .int g0_rows) (C := RX0) (T := TX0) (N := 4) hx hb hts inX0_leastSum_X0 hown hK hP 0 rfl rfl 2 (by decide) (hts (.fieldLink RX0 18 "LeadPark$Grid" "rows" "I") (List.mem_of_getElem? (i := 1) rfl)) (fun _ h9 => h9) rfl dX0_leastSum_2 ?_
  refine lv_aload_n hx hb dX0_leastSum_5 rfl (lv_at hl 0 rfl) ?_
  refine va_get (D := (dC, dI)) (ci := 0) (v := .int g0_columns) (C := RX0) (T := TX0) (N := 4) hx hb hts inX0_leastSum_X0 hown hK hP 0 rfl rfl 3 (by decide) (hts (.fieldLink RX0 22 "LeadPark$Grid" "columns" "I") (List.mem_of_getElem? (i := 2) rfl)) (fun _ h9 => h9) rfl dX0_leastSum_6 ?_
  have hPc := hP.sub (ws' := (ceX0_fence cyI cyB cyJ cyZ a0 a1 a2 g0_rows g0_columns f1)) [0, 1] rfl
  have hDc := hD.sub (ws' := (ceX0_fence cyI cyB cyJ cyZ a0 a1 a2 g0_rows g0_columns f1)) [0, 1] (by decide) rfl
  have hFc := va_free (wc := (ceX0_fence cyI cyB cyJ cyZ a0 a1 a2 g0_rows g0_columns f1)) hD hS hA [0, 1] rfl
  refine va_callv (va_runV (As := [.int g0_rows, .int g0_columns]) (rest := []) ⟨hx, hb, hml, hown, hts⟩ (ctX0_fence l dC dI cyI cyB cyJ cyZ _ a0 a1 a2 g0_rows g0_columns f1 g0_rows g0_columns _ hw) (cwV 2 hts gX0_leastSum_X0_fence rfl rfl rfl (by decide +kernel) ⟨Nat.le_of_ble_eq_true rfl, Nat.le_of_ble_eq_true rfl⟩) ⟨wPre_blind, va_recv hK hPc (ci := 0) (q0 := 0) rfl rfl, fun U hU hW => wPre_of hPc hK hDc hN hU hW⟩ rfl rfl hl.1 rfl (lv_room (Nat.le_of_ble_eq_true rfl)) dX0_leastSum_9 ⟨(Nat.zero_le _), (Nat.zero_le _)⟩) hS (fun q _ h => hFc q h) hFc (fun u1 t H1 locs ht hvm hw hB hz1 hk1 hS => ?_)
  obtain ⟨hP1, hK1, hD1⟩ := hB
  rw [ht] at hP1
  obtain ⟨hP, hD⟩ := va_join (wr := pickW (ceX0_leastSum cyI cyB cyJ cyZ a0 a1 a2 g0_rows g0_columns f2 f1) [2]) (w1 := (ceX0_fence cyI cyB cyJ cyZ a0 a1 a2 g0_rows g0_columns u1)) hP hD [0, 1] [2] rfl rfl (by decide) (by decide) hk1 hFc hP1 hD1
  have hP := hP.sub (ws' := (ceX0_leastSum cyI cyB cyJ cyZ a0 a1 a2 g0_rows g0_columns f2 u1)) [1, 2, 0] rfl
  have hD := hD.sub (ws' := (ceX0_leastSum cyI cyB cyJ cyZ a0 a1 a2 g0_rows g0_columns f2 u1)) [1, 2, 0] (by decide) rfl
  generalize H1 = H at hP hS ⊢
  refine lv_aload_n hx hb dX0_leastSum_12 rfl (lv_at hl 0 rfl) ?_
  refine va_get (D := (dC, dI)) (ci := 0) (v := .int g0_rows) (C := RX0) (T := TX0) (N := 4) hx hb hts inX0_leastSum_X0 hown hK hP 0 rfl rfl 2 (by decide) (hts (.fieldLink RX0 18 "LeadPark$Grid" "rows" "I") (List.mem_of_getElem? (i := 1) rfl)) (fun _ h9 => h9) rfl dX0_leastSum_13 ?_
  refine lv_iconst (v := 1) hx hb dX0_leastSum_16 (by decide) ?_
  refine lv_isub hx hb dX0_leastSum_17 ?_
  refine lv_topi (fun v2 ev2 => ?_)
  have hw := hw v2 ev2
  refine lv_istore_n (lv' := [(1, .int v2), (0, .ref a0)]) hx hb dX0_leastSum_18 rfl hl (by decide) rfl (fun ls hl => ?_)
  obtain ⟨nn, hw⟩ := hw
  exact bX0_leastSum_19 C0 hK hN hA hQ nn u1 v2 hw _ _ hP hD hS ls (lv_sub hl [1, 0] rfl)
/-! LeadPark$Grid.improve (I)Z -/
abbrev ceX0_improve (cyI cyB cyJ cyZ : ClassId) (a0 a1 a2 : Nat) (g0_rows : Int32) (g0_columns : Int32) (f2 : Nat → Int32) (f1 : Nat → Int32) : va_W := [(a0, .inr (0, [.ref a2, .ref a1, .int g0_rows, .int g0_columns])), (a1, .inl (cyI, 1089, .inl f1)), (a2, .inl (cyI, 1089, .inl f2))]

theorem inX0_improve_X0 : ∀ w ∈ wsX00, w ∈ wsX0_improve := fun _ h => List.mem_cons_of_mem _ (List.mem_append_right _ h)
abbrev rmX0_improve : Room := { frames := 1, cells := 0, slots := 0, locals := 40 }
set_option maxRecDepth 100000 in
set_option maxHeartbeats 4000000 in
theorem ctX0_improve (l : Launch) (dC : Nat → ClassId) (dI : Nat → Nat → Nat) (cyI cyB cyJ cyZ : ClassId) (sz : Nat) (a0 a1 a2 : Nat) (g0_rows : Int32) (g0_columns : Int32) (f2 : Nat → Int32) (f1 : Nat → Int32) (p0 : Int32) (post : Int32 → ((Nat → Int32)) → Prop) (hw : wpX0_improve post f2 f1 p0) : Met l yX0_improve wsX0_improve rmX0_improve (va_Pc [.ref a0, .int p0] (wPre dC dI cyI cyB cyJ cyZ sz (ceX0_improve cyI cyB cyJ cyZ a0 a1 a2 g0_rows g0_columns f2 f1))) (va_Qi post (fun u : (Nat → Int32) => wAt dC dI cyI cyB cyJ cyZ (va_A (ceX0_improve cyI cyB cyJ cyZ a0 a1 a2 g0_rows g0_columns f2 f1) sz) (ceX0_improve cyI cyB cyJ cyZ a0 a1 a2 g0_rows g0_columns f2 u)) (va_A (ceX0_improve cyI cyB cyJ cyZ a0 a1 a2 g0_rows g0_columns f2 f1) sz)) 0 0 (va_A (ceX0_improve cyI cyB cyJ cyZ a0 a1 a2 g0_rows g0_columns f2 f1) sz) := by
  refine Met.ofW (cc := cX0_improve) (maxL := 6) (ret := (some .boolean)) (by decide) rfl ?_
  intro p e s m args below meth c s₁ B hml hv
  obtain ⟨rfl, hsz, hP, hK, hD0, hN⟩ := hv
  have hx := B.exec
  have hb := B.bytes
  have hr := B.returns
  have hts := atoms_spec (ws := wsX0_improve) B.pre
  have hown : s.vm.findClass RX0 = some m.cls := findClass_of_methodNamed B.named
  have hlocks := B.notSynchronized
  subst hsz
  have hD := hD0.self (sz := s.heap.size)
  generalize hAe : va_A (ceX0_improve cyI cyB cyJ cyZ a0 a1 a2 g0_rows g0_columns f2 f1) s.heap.size = A at hD ⊢
  have hA : ∀ q : Nat, s.heap.size ≤ q → A q := fun q h => by rw [← hAe]; exact Or.inr h
  have hS : va_S A s.heap s.heap [] := va_S.rf
  have C0 : cxM p s m meth c _ wsX0_improve RX0 cX0_improve 6 (some .boolean) := ⟨hx, hb, hr, hml, hown, hts, hlocks⟩
  have hl := lv_entry ([.ref a0, .int p0]) (n := 6) (Nat.le_of_ble_eq_true rfl)
  rw [lg_entry_eq]
  generalize (lg_sl ([.ref a0, .int p0]) ++ List.replicate (6 - (lg_sl ([.ref a0, .int p0])).length) Slot.unset).toArray = ls at hl ⊢
  have hl : lv_has ls 6 [(0, .ref a0), (1, .int p0)] := hl
  show W p l e rmX0_improve s m _ below meth c _ _ _ _ _ _
  refine wq (fun Q hQ => ?_)
  refine lv_aload_n hx hb dX0_improve_0 rfl (lv_at hl 0 rfl) ?_
  refine va_get (D := (dC, dI)) (ci := 0) (v := .ref a1) (C := RX0) (T := TX0) (N := 4) hx hb hts inX0_improve_X0 hown hK hP 0 rfl rfl 1 (by decide) (hts (.fieldLink RX0 15 "LeadPark$Grid" "best" "[I") (List.mem_of_getElem? (i := 1) rfl)) (fun _ h9 => h9) rfl dX0_improve_1 ?_
  refine lv_iload_n hx hb dX0_improve_4 rfl (lv_at hl 1 rfl) ?_
  refine lv_bipush (v := 33) hx hb dX0_improve_5 (by decide) ?_
  refine lv_isub hx hb dX0_improve_7 ?_
  obtain ⟨hi, hw⟩ := hw
  refine va_iald hx hb hK hP 1 0 rfl rfl hi dX0_improve_8 ?_
  refine lv_aload_n hx hb dX0_improve_9 rfl (lv_at hl 0 rfl) ?_
  refine va_get (D := (dC, dI)) (ci := 0) (v := .ref a1) (C := RX0) (T := TX0) (N := 4) hx hb hts inX0_improve_X0 hown hK hP 0 rfl rfl 1 (by decide) (hts (.fieldLink RX0 15 "LeadPark$Grid" "best" "[I") (List.mem_of_getElem? (i := 1) rfl)) (fun _ h9 => h9) rfl dX0_improve_10 ?_
  refine lv_iload_n hx hb dX0_improve_13 rfl (lv_at hl 1 rfl) ?_
  refine lv_bipush (v := 33) hx hb dX0_improve_14 (by decide) ?_
  refine lv_isub hx hb dX0_improve_16 ?_
  refine lv_iconst (v := 1) hx hb dX0_improve_17 (by decide) ?_
  refine lv_isub hx hb dX0_improve_18 ?_
  obtain ⟨hi, hw⟩ := hw
  refine va_iald hx hb hK hP 1 0 rfl rfl hi dX0_improve_19 ?_
  refine lv_aload_n hx hb dX0_improve_20 rfl (lv_at hl 0 rfl) ?_
  refine va_get (D := (dC, dI)) (ci := 0) (v := .ref a1) (C := RX0) (T := TX0) (N := 4) hx hb hts inX0_improve_X0 hown hK hP 0 rfl rfl 1 (by decide) (hts (.fieldLink RX0 15 "LeadPark$Grid" "best" "[I") (List.mem_of_getElem? (i := 1) rfl)) (fun _ h9 => h9) rfl dX0_improve_21 ?_
  refine lv_iload_n hx hb dX0_improve_24 rfl (lv_at hl 1 rfl) ?_
  refine lv_bipush (v := 33) hx hb dX0_improve_25 (by decide) ?_
  refine lv_isub hx hb dX0_improve_27 ?_
  refine lv_iconst (v := 1) hx hb dX0_improve_28 (by decide) ?_
  refine lv_iadd hx hb dX0_improve_29 ?_
  obtain ⟨hi, hw⟩ := hw
  refine va_iald hx hb hK hP 1 0 rfl rfl hi dX0_improve_30 ?_
  refine va_mmin hx hb (hml.trans hl.1.symm) hown (hts (.methodLink RX0 61 Lib.Math.min.name) (List.mem_of_getElem? (i := 2) rfl)) (hts (.static Lib.Math.min.name) (List.mem_of_getElem? (i := 3) rfl)) (hts (.initialized "java/lang/Math") (List.mem_of_getElem? (i := 4) rfl)) (hts (.code Lib.Math.min.name Lib.Math.min.code 2 (some .int)) (List.mem_of_getElem? (i := 5) rfl)) (Nat.le_of_ble_eq_true rfl) (Nat.le_of_ble_eq_true rfl) (by decide) (by decide) dX0_improve_31 ?_
  refine va_mmin hx hb (hml.trans hl.1.symm) hown (hts (.methodLink RX0 61 Lib.Math.min.name) (List.mem_of_getElem? (i := 2) rfl)) (hts (.static Lib.Math.min.name) (List.mem_of_getElem? (i := 3) rfl)) (hts (.initialized "java/lang/Math") (List.mem_of_getElem? (i := 4) rfl)) (hts (.code Lib.Math.min.name Lib.Math.min.code 2 (some .int)) (List.mem_of_getElem? (i := 5) rfl)) (Nat.le_of_ble_eq_true rfl) (Nat.le_of_ble_eq_true rfl) (by decide) (by decide) dX0_improve_34 ?_
  refine lv_topi (fun v1 ev1 => ?_)
  have hw := hw v1 ev1
  refine lv_istore_n (lv' := [(2, .int v1), (0, .ref a0), (1, .int p0)]) hx hb dX0_improve_37 rfl hl (by decide) rfl (fun ls hl => ?_)
  refine lv_aload_n hx hb dX0_improve_38 rfl (lv_at hl 1 rfl) ?_
  refine va_get (D := (dC, dI)) (ci := 0) (v := .ref a1) (C := RX0) (T := TX0) (N := 4) hx hb hts inX0_improve_X0 hown hK hP 0 rfl rfl 1 (by decide) (hts (.fieldLink RX0 15 "LeadPark$Grid" "best" "[I") (List.mem_of_getElem? (i := 1) rfl)) (fun _ h9 => h9) rfl dX0_improve_39 ?_
  refine lv_iload_n hx hb dX0_improve_42 rfl (lv_at hl 2 rfl) ?_
  refine lv_bipush (v := 33) hx hb dX0_improve_43 (by decide) ?_
  refine lv_iadd hx hb dX0_improve_45 ?_
  obtain ⟨hi, hw⟩ := hw
  refine va_iald hx hb hK hP 1 0 rfl rfl hi dX0_improve_46 ?_
  refine lv_aload_n hx hb dX0_improve_47 rfl (lv_at hl 1 rfl) ?_
  refine va_get (D := (dC, dI)) (ci := 0) (v := .ref a1) (C := RX0) (T := TX0) (N := 4) hx hb hts inX0_improve_X0 hown hK hP 0 rfl rfl 1 (by decide) (hts (.fieldLink RX0 15 "LeadPark$Grid" "best" "[I") (List.mem_of_getElem? (i := 1) rfl)) (fun _ h9 => h9) rfl dX0_improve_48 ?_
  refine lv_iload_n hx hb dX0_improve_51 rfl (lv_at hl 2 rfl) ?_
  refine lv_bipush (v := 33) hx hb dX0_improve_52 (by decide) ?_
  refine lv_iadd hx hb dX0_improve_54 ?_
  refine lv_iconst (v := 1) hx hb dX0_improve_55 (by decide) ?_
  refine lv_isub hx hb dX0_improve_56 ?_
  obtain ⟨hi, hw⟩ := hw
  refine va_iald hx hb hK hP 1 0 rfl rfl hi dX0_improve_57 ?_
  refine lv_aload_n hx hb dX0_improve_58 rfl (lv_at hl 1 rfl) ?_
  refine va_get (D := (dC, dI)) (ci := 0) (v := .ref a1) (C := RX0) (T := TX0) (N := 4) hx hb hts inX0_improve_X0 hown hK hP 0 rfl rfl 1 (by decide) (hts (.fieldLink RX0 15 "LeadPark$Grid" "best" "[I") (List.mem_of_getElem? (i := 1) rfl)) (fun _ h9 => h9) rfl dX0_improve_59 ?_
  refine lv_iload_n hx hb dX0_improve_62 rfl (lv_at hl 2 rfl) ?_
  refine lv_bipush (v := 33) hx hb dX0_improve_63 (by decide) ?_
  refine lv_iadd hx hb dX0_improve_65 ?_
  refine lv_iconst (v := 1) hx hb dX0_improve_66 (by decide) ?_
  refine lv_iadd hx hb dX0_improve_67 ?_
  obtain ⟨hi, hw⟩ := hw
  refine va_iald hx hb hK hP 1 0 rfl rfl hi dX0_improve_68 ?_
  refine va_mmin hx hb (hml.trans hl.1.symm) hown (hts (.methodLink RX0 61 Lib.Math.min.name) (List.mem_of_getElem? (i := 2) rfl)) (hts (.static Lib.Math.min.name) (List.mem_of_getElem? (i := 3) rfl)) (hts (.initialized "java/lang/Math") (List.mem_of_getElem? (i := 4) rfl)) (hts (.code Lib.Math.min.name Lib.Math.min.code 2 (some .int)) (List.mem_of_getElem? (i := 5) rfl)) (Nat.le_of_ble_eq_true rfl) (Nat.le_of_ble_eq_true rfl) (by decide) (by decide) dX0_improve_69 ?_
  refine va_mmin hx hb (hml.trans hl.1.symm) hown (hts (.methodLink RX0 61 Lib.Math.min.name) (List.mem_of_getElem? (i := 2) rfl)) (hts (.static Lib.Math.min.name) (List.mem_of_getElem? (i := 3) rfl)) (hts (.initialized "java/lang/Math") (List.mem_of_getElem? (i := 4) rfl)) (hts (.code Lib.Math.min.name Lib.Math.min.code 2 (some .int)) (List.mem_of_getElem? (i := 5) rfl)) (Nat.le_of_ble_eq_true rfl) (Nat.le_of_ble_eq_true rfl) (by decide) (by decide) dX0_improve_72 ?_
  refine lv_topi (fun v2 ev2 => ?_)
  have hw := hw v2 ev2
  refine lv_istore_n (lv' := [(3, .int v2), (2, .int v1), (0, .ref a0), (1, .int p0)]) hx hb dX0_improve_75 rfl hl (by decide) rfl (fun ls hl => ?_)
  refine lv_aload_n hx hb dX0_improve_76 rfl (lv_at hl 2 rfl) ?_
  refine va_get (D := (dC, dI)) (ci := 0) (v := .ref a1) (C := RX0) (T := TX0) (N := 4) hx hb hts inX0_improve_X0 hown hK hP 0 rfl rfl 1 (by decide) (hts (.fieldLink RX0 15 "LeadPark$Grid" "best" "[I") (List.mem_of_getElem? (i := 1) rfl)) (fun _ h9 => h9) rfl dX0_improve_77 ?_
  refine lv_iload_n hx hb dX0_improve_80 rfl (lv_at hl 3 rfl) ?_
  refine lv_iconst (v := 1) hx hb dX0_improve_81 (by decide) ?_
  refine lv_isub hx hb dX0_improve_82 ?_
  obtain ⟨hi, hw⟩ := hw
  refine va_iald hx hb hK hP 1 0 rfl rfl hi dX0_improve_83 ?_
  refine lv_aload_n hx hb dX0_improve_84 rfl (lv_at hl 2 rfl) ?_
  refine va_get (D := (dC, dI)) (ci := 0) (v := .ref a1) (C := RX0) (T := TX0) (N := 4) hx hb hts inX0_improve_X0 hown hK hP 0 rfl rfl 1 (by decide) (hts (.fieldLink RX0 15 "LeadPark$Grid" "best" "[I") (List.mem_of_getElem? (i := 1) rfl)) (fun _ h9 => h9) rfl dX0_improve_85 ?_
  refine lv_iload_n hx hb dX0_improve_88 rfl (lv_at hl 3 rfl) ?_
  refine lv_iconst (v := 1) hx hb dX0_improve_89 (by decide) ?_
  refine lv_iadd hx hb dX0_improve_90 ?_
  obtain ⟨hi, hw⟩ := hw
  refine va_iald hx hb hK hP 1 0 rfl rfl hi dX0_improve_91 ?_
  refine va_mmin hx hb (hml.trans hl.1.symm) hown (hts (.methodLink RX0 61 Lib.Math.min.name) (List.mem_of_getElem? (i := 2) rfl)) (hts (.static Lib.Math.min.name) (List.mem_of_getElem? (i := 3) rfl)) (hts (.initialized "java/lang/Math") (List.mem_of_getElem? (i := 4) rfl)) (hts (.code Lib.Math.min.name Lib.Math.min.code 2 (some .int)) (List.mem_of_getElem? (i := 5) rfl)) (Nat.le_of_ble_eq_true rfl) (Nat.le_of_ble_eq_true rfl) (by decide) (by decide) dX0_improve_92 ?_
  refine lv_topi (fun v3 ev3 => ?_)
  have hw := hw v3 ev3
  refine lv_istore (lv' := [(4, .int v3), (3, .int v2), (2, .int v1), (0, .ref a0), (1, .int p0)]) hx hb dX0_improve_95 hl (by decide) rfl (fun ls hl => ?_)
  refine lv_aload_n hx hb dX0_improve_97 rfl (lv_at hl 3 rfl) ?_
  refine va_get (D := (dC, dI)) (ci := 0) (v := .ref a2) (C := RX0) (T := TX0) (N := 4) hx hb hts inX0_improve_X0 hown hK hP 0 rfl rfl 0 (by decide) (hts (.fieldLink RX0 11 "LeadPark$Grid" "prices" "[I") (List.mem_of_getElem? (i := 6) rfl)) (fun _ h9 => h9) rfl dX0_improve_98 ?_
  refine lv_iload_n hx hb dX0_improve_101 rfl (lv_at hl 4 rfl) ?_
  obtain ⟨hi, hw⟩ := hw
  refine va_iald hx hb hK hP 2 0 rfl rfl hi dX0_improve_102 ?_
  refine lv_iload hx hb dX0_improve_103 (lv_at hl 0 rfl) ?_
  refine lv_iload_n hx hb dX0_improve_105 rfl (lv_at hl 2 rfl) ?_
  refine lv_iload_n hx hb dX0_improve_106 rfl (lv_at hl 1 rfl) ?_
  refine va_mmin hx hb (hml.trans hl.1.symm) hown (hts (.methodLink RX0 61 Lib.Math.min.name) (List.mem_of_getElem? (i := 2) rfl)) (hts (.static Lib.Math.min.name) (List.mem_of_getElem? (i := 3) rfl)) (hts (.initialized "java/lang/Math") (List.mem_of_getElem? (i := 4) rfl)) (hts (.code Lib.Math.min.name Lib.Math.min.code 2 (some .int)) (List.mem_of_getElem? (i := 5) rfl)) (Nat.le_of_ble_eq_true rfl) (Nat.le_of_ble_eq_true rfl) (by decide) (by decide) dX0_improve_107 ?_
  refine va_mmin hx hb (hml.trans hl.1.symm) hown (hts (.methodLink RX0 61 Lib.Math.min.name) (List.mem_of_getElem? (i := 2) rfl)) (hts (.static Lib.Math.min.name) (List.mem_of_getElem? (i := 3) rfl)) (hts (.initialized "java/lang/Math") (List.mem_of_getElem? (i := 4) rfl)) (hts (.code Lib.Math.min.name Lib.Math.min.code 2 (some .int)) (List.mem_of_getElem? (i := 5) rfl)) (Nat.le_of_ble_eq_true rfl) (Nat.le_of_ble_eq_true rfl) (by decide) (by decide) dX0_improve_110 ?_
  refine va_mmax hx hb (hml.trans hl.1.symm) hown (hts (.methodLink RX0 56 Lib.Math.max.name) (List.mem_of_getElem? (i := 7) rfl)) (hts (.static Lib.Math.max.name) (List.mem_of_getElem? (i := 8) rfl)) (hts (.initialized "java/lang/Math") (List.mem_of_getElem? (i := 4) rfl)) (hts (.code Lib.Math.max.name Lib.Math.max.code 2 (some .int)) (List.mem_of_getElem? (i := 9) rfl)) (Nat.le_of_ble_eq_true rfl) (Nat.le_of_ble_eq_true rfl) (by decide) (by decide) dX0_improve_113 ?_
  refine lv_topi (fun v4 ev4 => ?_)
  have hw := hw v4 ev4
  refine lv_istore (lv' := [(5, .int v4), (4, .int v3), (3, .int v2), (2, .int v1), (0, .ref a0), (1, .int p0)]) hx hb dX0_improve_116 hl (by decide) rfl (fun ls hl => ?_)
  refine lv_iload hx hb dX0_improve_118 (lv_at hl 0 rfl) ?_
  refine lv_aload_n hx hb dX0_improve_120 rfl (lv_at hl 4 rfl) ?_
  refine va_get (D := (dC, dI)) (ci := 0) (v := .ref a1) (C := RX0) (T := TX0) (N := 4) hx hb hts inX0_improve_X0 hown hK hP 0 rfl rfl 1 (by decide) (hts (.fieldLink RX0 15 "LeadPark$Grid" "best" "[I") (List.mem_of_getElem? (i := 1) rfl)) (fun _ h9 => h9) rfl dX0_improve_121 ?_
  refine lv_iload_n hx hb dX0_improve_124 rfl (lv_at hl 5 rfl) ?_
  obtain ⟨hi, hw⟩ := hw
  refine va_iald hx hb hK hP 1 0 rfl rfl hi dX0_improve_125 ?_
  refine lv_icmp_lt (tgt := 131) hx hb dX0_improve_126 (by decide) (fun hc => ?_) (fun hc => ?_)
  · have hw := hw.1 hc
    refine lv_aload_n hx hb dX0_improve_131 rfl (lv_at hl 4 rfl) ?_
    refine va_get (D := (dC, dI)) (ci := 0) (v := .ref a1) (C := RX0) (T := TX0) (N := 4) hx hb hts inX0_improve_X0 hown hK hP 0 rfl rfl 1 (by decide) (hts (.fieldLink RX0 15 "LeadPark$Grid" "best" "[I") (List.mem_of_getElem? (i := 1) rfl)) (fun _ h9 => h9) rfl dX0_improve_132 ?_
    refine lv_iload_n hx hb dX0_improve_135 rfl (lv_at hl 5 rfl) ?_
    refine lv_iload hx hb dX0_improve_136 (lv_at hl 0 rfl) ?_
    obtain ⟨hi, hw⟩ := hw
    refine va_iast hx hb hK hP hD hS 1 0 rfl rfl hi dX0_improve_138 (fun H locs hP hD hS => ?_)
    have hP : va_P (dC, dI) vwCl (ceX0_improve cyI cyB cyJ cyZ a0 a1 a2 g0_rows g0_columns f2 (upd f1 p0.toNatClampNeg v4)) H := hP
    have hD : va_D A (ceX0_improve cyI cyB cyJ cyZ a0 a1 a2 g0_rows g0_columns f2 (upd f1 p0.toNatClampNeg v4)) := hD
    refine lv_iconst (v := 1) hx hb dX0_improve_139 (by decide) ?_
    rw [hQ]
    exact W.zret (v := 1) (ty := .boolean) hx hb hr rfl (fun t ht hW => ⟨⟨1, ((upd f1 p0.toNatClampNeg v4)), rfl, hw, by rw [ht]; exact hP, va_K.moved hW.alike hK, hD⟩, hS.F ht⟩) hS.2.2 dX0_improve_140
  · have hw := hw.2 hc
    refine lv_iconst (v := 0) hx hb dX0_improve_129 (by decide) ?_
    rw [hQ]
    exact W.zret (v := 0) (ty := .boolean) hx hb hr rfl (fun t ht hW => ⟨⟨0, (f1), rfl, hw, by rw [ht]; exact hP, va_K.moved hW.alike hK, hD⟩, hS.F ht⟩) hS.2.2 dX0_improve_130
/-! LeadPark$Grid.leastGoingBack ()I -/
abbrev ceX0_leastGoingBack (cyI cyB cyJ cyZ : ClassId) (a0 a1 a2 : Nat) (g0_rows : Int32) (g0_columns : Int32) (f2 : Nat → Int32) (f1 : Nat → Int32) : va_W := [(a0, .inr (0, [.ref a2, .ref a1, .int g0_rows, .int g0_columns])), (a1, .inl (cyI, 1089, .inl f1)), (a2, .inl (cyI, 1089, .inl f2))]

theorem inX0_leastGoingBack_X0 : ∀ w ∈ wsX00, w ∈ wsX0_leastGoingBack := fun _ h => List.mem_cons_of_mem _ (List.mem_append_right _ h)
abbrev rmX0_leastGoingBack : Room := { frames := 2, cells := 0, slots := 0, locals := 65 }
set_option maxRecDepth 100000 in
set_option maxHeartbeats 4000000 in
theorem bX0_leastGoingBack_168 {p : Program} {l : Launch} {e : Env} {s : State} {m : MethodId} {args : Array Value} {below : List Frame} {meth : Method} {c : Code} {dC : Nat → ClassId} {dI : Nat → Nat → Nat} {cyI cyB cyJ cyZ : ClassId} {A : Nat → Prop} {a0 a1 a2 : Nat} (C0 : cxM p s m meth c args wsX0_leastGoingBack RX0 cX0_leastGoingBack 5 (some .int)) (hK : va_K (dC, dI) vwCl (tyA cyI cyB cyJ cyZ) s) (hN : nwA s) (hA : ∀ q : Nat, s.heap.size ≤ q → A q) {post : Int32 → ((Nat → Int32)) → Prop} {g0_rows : Int32} {g0_columns : Int32} {f2 : Nat → Int32} {Q : State → Prop} (hQ : Q = MQ below (va_Qi post (fun u : (Nat → Int32) => wAt dC dI cyI cyB cyJ cyZ A (ceX0_leastGoingBack cyI cyB cyJ cyZ a0 a1 a2 g0_rows g0_columns f2 u)) A) args s 0 0 A) : ∀ (f1 : Nat → Int32), wpX0_leastGoingBack_168 post g0_rows g0_columns f2 f1 → AtW p l e rmX0_leastGoingBack s m args below meth c dC dI A Q 5 0 0 (ceX0_leastGoingBack cyI cyB cyJ cyZ a0 a1 a2 g0_rows g0_columns f2 f1) [(0, .ref a0)] 168 [] := by
  intro f1 hw H locs hP hD hS ls hl
  have C1 := C0
  obtain ⟨hx, hb, hr, hml, hown, hts, hlocks⟩ := C1
  refine lv_aload_n hx hb dX0_leastGoingBack_168 rfl (lv_at hl 0 rfl) ?_
  refine va_get (D := (dC, dI)) (ci := 0) (v := .ref a1) (C := RX0) (T := TX0) (N := 4) hx hb hts inX0_leastGoingBack_X0 hown hK hP 0 rfl rfl 1 (by decide) (hts (.fieldLink RX0 15 "LeadPark$Grid" "best" "[I") (List.mem_of_getElem? (i := 1) rfl)) (fun _ h9 => h9) rfl dX0_leastGoingBack_169 ?_
  refine lv_iconst (v := 0) hx hb dX0_leastGoingBack_172 (by decide) ?_
  refine lv_iconst (v := 0) hx hb dX0_leastGoingBack_173 (by decide) ?_
  have hPc := hP.sub (ws' := ([] : va_W)) [] rfl
  have hDc := hD.sub (ws' := ([] : va_W)) [] (by decide) rfl
  have hFc := va_free (wc := ([] : va_W)) hD hS hA [] rfl
  refine va_calli (va_runS (As := [.int 0, .int 0]) (rest := [.ref a1]) ⟨hx, hb, hml, hown, hts⟩ (ctX0_cell l dC dI cyI cyB cyJ cyZ _ 0 0 _ hw) (va_cwS 2 hts gX0_leastGoingBack_X0_cell rfl rfl rfl (by decide +kernel) ⟨Nat.le_of_ble_eq_true rfl, Nat.le_of_ble_eq_true rfl⟩) ⟨wPre_blind, fun U hU hW => wPre_of hPc hK hDc hN hU hW⟩ rfl rfl hl.1 rfl (lv_room (Nat.le_of_ble_eq_true rfl)) dX0_leastGoingBack_174 ⟨(Nat.zero_le _), (Nat.zero_le _)⟩) hS (fun q _ h => hFc q h) hFc (fun r2 u1 t H1 locs ht hvm hw hB hz1 hk1 hS => ?_)
  obtain ⟨hP1, hK1, hD1⟩ := hB
  rw [ht] at hP1
  obtain ⟨hP, hD⟩ := va_join (wr := pickW (ceX0_leastGoingBack cyI cyB cyJ cyZ a0 a1 a2 g0_rows g0_columns f2 f1) [0, 1, 2]) (w1 := ([] : va_W)) hP hD [] [0, 1, 2] rfl rfl (by decide) (by decide) hk1 hFc hP1 hD1
  have hP := hP.sub (ws' := (ceX0_leastGoingBack cyI cyB cyJ cyZ a0 a1 a2 g0_rows g0_columns f2 f1)) [0, 1, 2] rfl
  have hD := hD.sub (ws' := (ceX0_leastGoingBack cyI cyB cyJ cyZ a0 a1 a2 g0_rows g0_columns f2 f1)) [0, 1, 2] (by decide) rfl
  generalize H1 = H at hP hS ⊢
  obtain ⟨hi, hw⟩ := hw
  refine va_iald hx hb hK hP 1 0 rfl rfl hi dX0_leastGoingBack_177 ?_
  rw [hQ]
  exact W.iret (v := f1 r2.toNatClampNeg) hx hb hr (fun t ht hW => ⟨⟨f1 r2.toNatClampNeg, (f1), rfl, hw, by rw [ht]; exact hP, va_K.moved hW.alike hK, hD⟩, hS.F ht⟩) hS.2.2 dX0_leastGoingBack_178
set_option maxRecDepth 100000 in
set_option maxHeartbeats 4000000 in
theorem bX0_leastGoingBack_128 {p : Program} {l : Launch} {e : Env} {s : State} {m : MethodId} {args : Array Value} {below : List Frame} {meth : Method} {c : Code} {dC : Nat → ClassId} {dI : Nat → Nat → Nat} {cyI cyB cyJ cyZ : ClassId} {A : Nat → Prop} {a0 a1 a2 : Nat} (C0 : cxM p s m meth c args wsX0_leastGoingBack RX0 cX0_leastGoingBack 5 (some .int)) (hK : va_K (dC, dI) vwCl (tyA cyI cyB cyJ cyZ) s) (hN : nwA s) (hA : ∀ q : Nat, s.heap.size ≤ q → A q) {post : Int32 → ((Nat → Int32)) → Prop} {g0_rows : Int32} {g0_columns : Int32} {f2 : Nat → Int32} {k117 : (Nat → Int32) → Int32 → Int32 → Int32 → Prop} {k53 : (Nat → Int32) → Int32 → Int32 → Prop} {Q : State → Prop} (hQ : Q = MQ below (va_Qi post (fun u : (Nat → Int32) => wAt dC dI cyI cyB cyJ cyZ A (ceX0_leastGoingBack cyI cyB cyJ cyZ a0 a1 a2 g0_rows g0_columns f2 u)) A) args s 0 0 A) (hk117 : ∀ (f1 : Nat → Int32) (x1 : Int32) (x2 : Int32) (x3 : Int32), k117 f1 x1 x2 x3 → AtW p l e rmX0_leastGoingBack s m args below meth c dC dI A Q 5 0 0 (ceX0_leastGoingBack cyI cyB cyJ cyZ a0 a1 a2 g0_rows g0_columns f2 f1) [(0, .ref a0), (1, .int x1), (2, .int x2), (3, .int x3)] 117 []) (hk53 : ∀ (f1 : Nat → Int32) (x1 : Int32) (x2 : Int32), k53 f1 x1 x2 → AtW p l e rmX0_leastGoingBack s m args below meth c dC dI A Q 5 0 0 (ceX0_leastGoingBack cyI cyB cyJ cyZ a0 a1 a2 g0_rows g0_columns f2 f1) [(0, .ref a0), (1, .int x1), (2, .int x2)] 53 []) : ∀ (n : Nat) (f1 : Nat → Int32) (x1 : Int32) (x2 : Int32) (x3 : Int32) (x4 : Int32), wpX0_leastGoingBack_128 k117 k53 post g0_rows g0_columns f2 n f1 x1 x2 x3 x4 → AtW p l e rmX0_leastGoingBack s m args below meth c dC dI A Q 5 0 0 (ceX0_leastGoingBack cyI cyB cyJ cyZ a0 a1 a2 g0_rows g0_columns f2 f1) [(0, .ref a0), (1, .int x1), (2, .int x2), (3, .int x3), (4, .int x4)] 128 [] := by
  intro n
  induction n with
  | zero => intro f1 x1 x2 x3 x4 hw; exact False.elim hw
  | succ n ih =>
    intro f1 x1 x2 x3 x4 hw H locs hP hD hS ls hl
    have C1 := C0
    obtain ⟨hx, hb, hr, hml, hown, hts, hlocks⟩ := C1
    refine lv_iload hx hb dX0_leastGoingBack_128 (lv_at hl 4 rfl) ?_
    refine lv_aload_n hx hb dX0_leastGoingBack_130 rfl (lv_at hl 0 rfl) ?_
    refine va_get (D := (dC, dI)) (ci := 0) (v := .int g0_columns) (C := RX0) (T := TX0) (N := 4) hx hb hts inX0_leastGoingBack_X0 hown hK hP 0 rfl rfl 3 (by decide) (hts (.fieldLink RX0 22 "LeadPark$Grid" "columns" "I") (List.mem_of_getElem? (i := 4) rfl)) (fun _ h9 => h9) rfl dX0_leastGoingBack_131 ?_
    refine lv_icmp_ge (tgt := 156) hx hb dX0_leastGoingBack_134 (by decide) (fun hc => ?_) (fun hc => ?_)
    · have hw := hw.1 hc
      obtain ⟨v1, ev1⟩ : ∃ y : Int32, y = x3 + 1 := ⟨_, rfl⟩
      have hw := hw v1 ev1
      refine lv_iinc (v := v1) (lv' := [(3, .int v1), (0, .ref a0), (1, .int x1), (2, .int x2), (4, .int x4)]) hx hb dX0_leastGoingBack_156 hl (k := 3) rfl (by rw [ev1]; rfl) (by decide) rfl (fun ls hl => ?_)
      refine lv_goto (tgt := 117) hx hb dX0_leastGoingBack_159 (by decide) ?_
      exact hk117 f1 x1 x2 v1 hw H locs hP hD hS ls (lv_sub hl [1, 2, 3, 0] rfl)
    · have hw := hw.2 hc
      refine lv_iload_n hx hb dX0_leastGoingBack_137 rfl (lv_at hl 1 rfl) ?_
      refine lv_aload_n hx hb dX0_leastGoingBack_138 rfl (lv_at hl 0 rfl) ?_
      refine lv_iload_n hx hb dX0_leastGoingBack_139 rfl (lv_at hl 3 rfl) ?_
      refine lv_iload hx hb dX0_leastGoingBack_140 (lv_at hl 4 rfl) ?_
      have hPc := hP.sub (ws' := ([] : va_W)) [] rfl
      have hDc := hD.sub (ws' := ([] : va_W)) [] (by decide) rfl
      have hFc := va_free (wc := ([] : va_W)) hD hS hA [] rfl
      refine va_calli (va_runS (As := [.int x3, .int x4]) (rest := [.ref a0, .int x1]) ⟨hx, hb, hml, hown, hts⟩ (ctX0_cell l dC dI cyI cyB cyJ cyZ _ x3 x4 _ hw) (va_cwS 2 hts gX0_leastGoingBack_X0_cell rfl rfl rfl (by decide +kernel) ⟨Nat.le_of_ble_eq_true rfl, Nat.le_of_ble_eq_true rfl⟩) ⟨wPre_blind, fun U hU hW => wPre_of hPc hK hDc hN hU hW⟩ rfl rfl hl.1 rfl (lv_room (Nat.le_of_ble_eq_true rfl)) dX0_leastGoingBack_142 ⟨(Nat.zero_le _), (Nat.zero_le _)⟩) hS (fun q _ h => hFc q h) hFc (fun r3 u2 t H1 locs ht hvm hw hB hz1 hk1 hS => ?_)
      obtain ⟨hP1, hK1, hD1⟩ := hB
      rw [ht] at hP1
      obtain ⟨hP, hD⟩ := va_join (wr := pickW (ceX0_leastGoingBack cyI cyB cyJ cyZ a0 a1 a2 g0_rows g0_columns f2 f1) [0, 1, 2]) (w1 := ([] : va_W)) hP hD [] [0, 1, 2] rfl rfl (by decide) (by decide) hk1 hFc hP1 hD1
      have hP := hP.sub (ws' := (ceX0_leastGoingBack cyI cyB cyJ cyZ a0 a1 a2 g0_rows g0_columns f2 f1)) [0, 1, 2] rfl
      have hD := hD.sub (ws' := (ceX0_leastGoingBack cyI cyB cyJ cyZ a0 a1 a2 g0_rows g0_columns f2 f1)) [0, 1, 2] (by decide) rfl
      generalize H1 = H at hP hS ⊢
      have hPc := hP.sub (ws' := (ceX0_improve cyI cyB cyJ cyZ a0 a1 a2 g0_rows g0_columns f2 f1)) [0, 1, 2] rfl
      have hDc := hD.sub (ws' := (ceX0_improve cyI cyB cyJ cyZ a0 a1 a2 g0_rows g0_columns f2 f1)) [0, 1, 2] (by decide) rfl
      have hFc := va_free (wc := (ceX0_improve cyI cyB cyJ cyZ a0 a1 a2 g0_rows g0_columns f2 f1)) hD hS hA [0, 1, 2] rfl
      refine va_calli (va_runV (As := [.int r3]) (rest := [.int x1]) ⟨hx, hb, hml, hown, hts⟩ (ctX0_improve l dC dI cyI cyB cyJ cyZ _ a0 a1 a2 g0_rows g0_columns f2 f1 r3 _ hw) (cwV 1 hts gX0_leastGoingBack_X0_improve rfl rfl rfl (by decide +kernel) ⟨Nat.le_of_ble_eq_true rfl, Nat.le_of_ble_eq_true rfl⟩) ⟨wPre_blind, va_recv hK hPc (ci := 0) (q0 := 0) rfl rfl, fun U hU hW => wPre_of hPc hK hDc hN hU hW⟩ rfl rfl hl.1 rfl (lv_room (Nat.le_of_ble_eq_true rfl)) dX0_leastGoingBack_145 ⟨(Nat.zero_le _), (Nat.zero_le _)⟩) hS (fun q _ h => hFc q h) hFc (fun r5 u4 t H1 locs ht hvm hw hB hz1 hk1 hS => ?_)
      obtain ⟨hP1, hK1, hD1⟩ := hB
      rw [ht] at hP1
      obtain ⟨hP, hD⟩ := va_join (wr := pickW (ceX0_leastGoingBack cyI cyB cyJ cyZ a0 a1 a2 g0_rows g0_columns f2 f1) []) (w1 := (ceX0_improve cyI cyB cyJ cyZ a0 a1 a2 g0_rows g0_columns f2 u4)) hP hD [0, 1, 2] [] rfl rfl (by decide) (by decide) hk1 hFc hP1 hD1
      have hP := hP.sub (ws' := (ceX0_leastGoingBack cyI cyB cyJ cyZ a0 a1 a2 g0_rows g0_columns f2 u4)) [0, 1, 2] rfl
      have hD := hD.sub (ws' := (ceX0_leastGoingBack cyI cyB cyJ cyZ a0 a1 a2 g0_rows g0_columns f2 u4)) [0, 1, 2] (by decide) rfl
      generalize H1 = H at hP hS ⊢
      refine lv_ior hx hb dX0_leastGoingBack_148 ?_
      refine lv_topi (fun v6 ev6 => ?_)
      have hw := hw v6 ev6
      refine lv_istore_n (lv' := [(1, .int v6), (0, .ref a0), (2, .int x2), (3, .int x3), (4, .int x4)]) hx hb dX0_leastGoingBack_149 rfl hl (by decide) rfl (fun ls hl => ?_)
      obtain ⟨v7, ev7⟩ : ∃ y : Int32, y = x4 + 1 := ⟨_, rfl⟩
      have hw := hw v7 ev7
      refine lv_iinc (v := v7) (lv' := [(4, .int v7), (1, .int v6), (0, .ref a0), (2, .int x2), (3, .int x3)]) hx hb dX0_leastGoingBack_150 hl (k := 4) rfl (by rw [ev7]; rfl) (by decide) rfl (fun ls hl => ?_)
      refine lv_goto (tgt := 128) hx hb dX0_leastGoingBack_153 (by decide) ?_
      exact ih u4 v6 x2 x3 v7 hw H locs hP hD hS ls (lv_sub hl [2, 1, 3, 4, 0] rfl)
set_option maxRecDepth 100000 in
set_option maxHeartbeats 4000000 in
theorem bX0_leastGoingBack_117 {p : Program} {l : Launch} {e : Env} {s : State} {m : MethodId} {args : Array Value} {below : List Frame} {meth : Method} {c : Code} {dC : Nat → ClassId} {dI : Nat → Nat → Nat} {cyI cyB cyJ cyZ : ClassId} {A : Nat → Prop} {a0 a1 a2 : Nat} (C0 : cxM p s m meth c args wsX0_leastGoingBack RX0 cX0_leastGoingBack 5 (some .int)) (hK : va_K (dC, dI) vwCl (tyA cyI cyB cyJ cyZ) s) (hN : nwA s) (hA : ∀ q : Nat, s.heap.size ≤ q → A q) {post : Int32 → ((Nat → Int32)) → Prop} {g0_rows : Int32} {g0_columns : Int32} {f2 : Nat → Int32} {k53 : (Nat → Int32) → Int32 → Int32 → Prop} {Q : State → Prop} (hQ : Q = MQ below (va_Qi post (fun u : (Nat → Int32) => wAt dC dI cyI cyB cyJ cyZ A (ceX0_leastGoingBack cyI cyB cyJ cyZ a0 a1 a2 g0_rows g0_columns f2 u)) A) args s 0 0 A) (hk53 : ∀ (f1 : Nat → Int32) (x1 : Int32) (x2 : Int32), k53 f1 x1 x2 → AtW p l e rmX0_leastGoingBack s m args below meth c dC dI A Q 5 0 0 (ceX0_leastGoingBack cyI cyB cyJ cyZ a0 a1 a2 g0_rows g0_columns f2 f1) [(0, .ref a0), (1, .int x1), (2, .int x2)] 53 []) : ∀ (n : Nat) (f1 : Nat → Int32) (x1 : Int32) (x2 : Int32) (x3 : Int32), wpX0_leastGoingBack_117 k53 post g0_rows g0_columns f2 n f1 x1 x2 x3 → AtW p l e rmX0_leastGoingBack s m args below meth c dC dI A Q 5 0 0 (ceX0_leastGoingBack cyI cyB cyJ cyZ a0 a1 a2 g0_rows g0_columns f2 f1) [(0, .ref a0), (1, .int x1), (2, .int x2), (3, .int x3)] 117 [] := by
  intro n
  induction n with
  | zero => intro f1 x1 x2 x3 hw; exact False.elim hw
  | succ n ih =>
    intro f1 x1 x2 x3 hw H locs hP hD hS ls hl
    have C1 := C0
    obtain ⟨hx, hb, hr, hml, hown, hts, hlocks⟩ := C1
    refine lv_iload_n hx hb dX0_leastGoingBack_117 rfl (lv_at hl 3 rfl) ?_
    refine lv_aload_n hx hb dX0_leastGoingBack_118 rfl (lv_at hl 0 rfl) ?_
    refine va_get (D := (dC, dI)) (ci := 0) (v := .int g0_rows) (C := RX0) (T := TX0) (N := 4) hx hb hts inX0_leastGoingBack_X0 hown hK hP 0 rfl rfl 2 (by decide) (hts (.fieldLink RX0 18 "LeadPark$Grid" "rows" "I") (List.mem_of_getElem? (i := 3) rfl)) (fun _ h9 => h9) rfl dX0_leastGoingBack_119 ?_
    refine lv_icmp_ge (tgt := 162) hx hb dX0_leastGoingBack_122 (by decide) (fun hc => ?_) (fun hc => ?_)
    · have hw := hw.1 hc
      obtain ⟨v1, ev1⟩ : ∃ y : Int32, y = x2 + 1 := ⟨_, rfl⟩
      have hw := hw v1 ev1
      refine lv_iinc (v := v1) (lv' := [(2, .int v1), (0, .ref a0), (1, .int x1), (3, .int x3)]) hx hb dX0_leastGoingBack_162 hl (k := 2) rfl (by rw [ev1]; rfl) (by decide) rfl (fun ls hl => ?_)
      refine lv_goto (tgt := 53) hx hb dX0_leastGoingBack_165 (by decide) ?_
      exact hk53 f1 x1 v1 hw H locs hP hD hS ls (lv_sub hl [1, 2, 0] rfl)
    · have hw := hw.2 hc
      refine lv_iconst (v := 0) hx hb dX0_leastGoingBack_125 (by decide) ?_
      refine lv_istore (lv' := [(4, .int 0), (0, .ref a0), (1, .int x1), (2, .int x2), (3, .int x3)]) hx hb dX0_leastGoingBack_126 hl (by decide) rfl (fun ls hl => ?_)
      obtain ⟨nn, hw⟩ := hw
      exact bX0_leastGoingBack_128 C0 hK hN hA hQ ih hk53 nn f1 x1 x2 x3 0 hw _ _ hP hD hS ls (lv_sub hl [1, 2, 3, 4, 0] rfl)
set_option maxRecDepth 100000 in
set_option maxHeartbeats 4000000 in
theorem bX0_leastGoingBack_85 {p : Program} {l : Launch} {e : Env} {s : State} {m : MethodId} {args : Array Value} {below : List Frame} {meth : Method} {c : Code} {dC : Nat → ClassId} {dI : Nat → Nat → Nat} {cyI cyB cyJ cyZ : ClassId} {A : Nat → Prop} {a0 a1 a2 : Nat} (C0 : cxM p s m meth c args wsX0_leastGoingBack RX0 cX0_leastGoingBack 5 (some .int)) (hK : va_K (dC, dI) vwCl (tyA cyI cyB cyJ cyZ) s) (hN : nwA s) (hA : ∀ q : Nat, s.heap.size ≤ q → A q) {post : Int32 → ((Nat → Int32)) → Prop} {g0_rows : Int32} {g0_columns : Int32} {f2 : Nat → Int32} {k73 : (Nat → Int32) → Int32 → Int32 → Int32 → Prop} {k53 : (Nat → Int32) → Int32 → Int32 → Prop} {Q : State → Prop} (hQ : Q = MQ below (va_Qi post (fun u : (Nat → Int32) => wAt dC dI cyI cyB cyJ cyZ A (ceX0_leastGoingBack cyI cyB cyJ cyZ a0 a1 a2 g0_rows g0_columns f2 u)) A) args s 0 0 A) (hk73 : ∀ (f1 : Nat → Int32) (x1 : Int32) (x2 : Int32) (x3 : Int32), k73 f1 x1 x2 x3 → AtW p l e rmX0_leastGoingBack s m args below meth c dC dI A Q 5 0 0 (ceX0_leastGoingBack cyI cyB cyJ cyZ a0 a1 a2 g0_rows g0_columns f2 f1) [(0, .ref a0), (1, .int x1), (2, .int x2), (3, .int x3)] 73 []) (hk53 : ∀ (f1 : Nat → Int32) (x1 : Int32) (x2 : Int32), k53 f1 x1 x2 → AtW p l e rmX0_leastGoingBack s m args below meth c dC dI A Q 5 0 0 (ceX0_leastGoingBack cyI cyB cyJ cyZ a0 a1 a2 g0_rows g0_columns f2 f1) [(0, .ref a0), (1, .int x1), (2, .int x2)] 53 []) : ∀ (n : Nat) (f1 : Nat → Int32) (x1 : Int32) (x2 : Int32) (x3 : Int32) (x4 : Int32), wpX0_leastGoingBack_85 k73 k53 post g0_rows g0_columns f2 n f1 x1 x2 x3 x4 → AtW p l e rmX0_leastGoingBack s m args below meth c dC dI A Q 5 0 0 (ceX0_leastGoingBack cyI cyB cyJ cyZ a0 a1 a2 g0_rows g0_columns f2 f1) [(0, .ref a0), (1, .int x1), (2, .int x2), (3, .int x3), (4, .int x4)] 85 [] := by
  intro n
  induction n with
  | zero => intro f1 x1 x2 x3 x4 hw; exact False.elim hw
  | succ n ih =>
    intro f1 x1 x2 x3 x4 hw H locs hP hD hS ls hl
    have C1 := C0
    obtain ⟨hx, hb, hr, hml, hown, hts, hlocks⟩ := C1
    refine lv_iload hx hb dX0_leastGoingBack_85 (lv_at hl 4 rfl) ?_
    refine lv_if_lt (tgt := 109) hx hb dX0_leastGoingBack_87 (by decide) (fun hc => ?_) (fun hc => ?_)
    · have hw := hw.1 hc
      obtain ⟨v1, ev1⟩ : ∃ y : Int32, y = x3 + (-1) := ⟨_, rfl⟩
      have hw := hw v1 ev1
      refine lv_iinc (v := v1) (lv' := [(3, .int v1), (0, .ref a0), (1, .int x1), (2, .int x2), (4, .int x4)]) hx hb dX0_leastGoingBack_109 hl (k := 3) rfl (by rw [ev1]; rfl) (by decide) rfl (fun ls hl => ?_)
      refine lv_goto (tgt := 73) hx hb dX0_leastGoingBack_112 (by decide) ?_
      exact hk73 f1 x1 x2 v1 hw H locs hP hD hS ls (lv_sub hl [1, 2, 3, 0] rfl)
    · have hw := hw.2 hc
      refine lv_iload_n hx hb dX0_leastGoingBack_90 rfl (lv_at hl 1 rfl) ?_
      refine lv_aload_n hx hb dX0_leastGoingBack_91 rfl (lv_at hl 0 rfl) ?_
      refine lv_iload_n hx hb dX0_leastGoingBack_92 rfl (lv_at hl 3 rfl) ?_
      refine lv_iload hx hb dX0_leastGoingBack_93 (lv_at hl 4 rfl) ?_
      have hPc := hP.sub (ws' := ([] : va_W)) [] rfl
      have hDc := hD.sub (ws' := ([] : va_W)) [] (by decide) rfl
      have hFc := va_free (wc := ([] : va_W)) hD hS hA [] rfl
      refine va_calli (va_runS (As := [.int x3, .int x4]) (rest := [.ref a0, .int x1]) ⟨hx, hb, hml, hown, hts⟩ (ctX0_cell l dC dI cyI cyB cyJ cyZ _ x3 x4 _ hw) (va_cwS 2 hts gX0_leastGoingBack_X0_cell rfl rfl rfl (by decide +kernel) ⟨Nat.le_of_ble_eq_true rfl, Nat.le_of_ble_eq_true rfl⟩) ⟨wPre_blind, fun U hU hW => wPre_of hPc hK hDc hN hU hW⟩ rfl rfl hl.1 rfl (lv_room (Nat.le_of_ble_eq_true rfl)) dX0_leastGoingBack_95 ⟨(Nat.zero_le _), (Nat.zero_le _)⟩) hS (fun q _ h => hFc q h) hFc (fun r3 u2 t H1 locs ht hvm hw hB hz1 hk1 hS => ?_)
      obtain ⟨hP1, hK1, hD1⟩ := hB
      rw [ht] at hP1
      obtain ⟨hP, hD⟩ := va_join (wr := pickW (ceX0_leastGoingBack cyI cyB cyJ cyZ a0 a1 a2 g0_rows g0_columns f2 f1) [0, 1, 2]) (w1 := ([] : va_W)) hP hD [] [0, 1, 2] rfl rfl (by decide) (by decide) hk1 hFc hP1 hD1
      have hP := hP.sub (ws' := (ceX0_leastGoingBack cyI cyB cyJ cyZ a0 a1 a2 g0_rows g0_columns f2 f1)) [0, 1, 2] rfl
      have hD := hD.sub (ws' := (ceX0_leastGoingBack cyI cyB cyJ cyZ a0 a1 a2 g0_rows g0_columns f2 f1)) [0, 1, 2] (by decide) rfl
      generalize H1 = H at hP hS ⊢
      have hPc := hP.sub (ws' := (ceX0_improve cyI cyB cyJ cyZ a0 a1 a2 g0_rows g0_columns f2 f1)) [0, 1, 2] rfl
      have hDc := hD.sub (ws' := (ceX0_improve cyI cyB cyJ cyZ a0 a1 a2 g0_rows g0_columns f2 f1)) [0, 1, 2] (by decide) rfl
      have hFc := va_free (wc := (ceX0_improve cyI cyB cyJ cyZ a0 a1 a2 g0_rows g0_columns f2 f1)) hD hS hA [0, 1, 2] rfl
      refine va_calli (va_runV (As := [.int r3]) (rest := [.int x1]) ⟨hx, hb, hml, hown, hts⟩ (ctX0_improve l dC dI cyI cyB cyJ cyZ _ a0 a1 a2 g0_rows g0_columns f2 f1 r3 _ hw) (cwV 1 hts gX0_leastGoingBack_X0_improve rfl rfl rfl (by decide +kernel) ⟨Nat.le_of_ble_eq_true rfl, Nat.le_of_ble_eq_true rfl⟩) ⟨wPre_blind, va_recv hK hPc (ci := 0) (q0 := 0) rfl rfl, fun U hU hW => wPre_of hPc hK hDc hN hU hW⟩ rfl rfl hl.1 rfl (lv_room (Nat.le_of_ble_eq_true rfl)) dX0_leastGoingBack_98 ⟨(Nat.zero_le _), (Nat.zero_le _)⟩) hS (fun q _ h => hFc q h) hFc (fun r5 u4 t H1 locs ht hvm hw hB hz1 hk1 hS => ?_)
      obtain ⟨hP1, hK1, hD1⟩ := hB
      rw [ht] at hP1
      obtain ⟨hP, hD⟩ := va_join (wr := pickW (ceX0_leastGoingBack cyI cyB cyJ cyZ a0 a1 a2 g0_rows g0_columns f2 f1) []) (w1 := (ceX0_improve cyI cyB cyJ cyZ a0 a1 a2 g0_rows g0_columns f2 u4)) hP hD [0, 1, 2] [] rfl rfl (by decide) (by decide) hk1 hFc hP1 hD1
      have hP := hP.sub (ws' := (ceX0_leastGoingBack cyI cyB cyJ cyZ a0 a1 a2 g0_rows g0_columns f2 u4)) [0, 1, 2] rfl
      have hD := hD.sub (ws' := (ceX0_leastGoingBack cyI cyB cyJ cyZ a0 a1 a2 g0_rows g0_columns f2 u4)) [0, 1, 2] (by decide) rfl
      generalize H1 = H at hP hS ⊢
      refine lv_ior hx hb dX0_leastGoingBack_101 ?_
      refine lv_topi (fun v6 ev6 => ?_)
      have hw := hw v6 ev6
      refine lv_istore_n (lv' := [(1, .int v6), (0, .ref a0), (2, .int x2), (3, .int x3), (4, .int x4)]) hx hb dX0_leastGoingBack_102 rfl hl (by decide) rfl (fun ls hl => ?_)
      obtain ⟨v7, ev7⟩ : ∃ y : Int32, y = x4 + (-1) := ⟨_, rfl⟩
      have hw := hw v7 ev7
      refine lv_iinc (v := v7) (lv' := [(4, .int v7), (1, .int v6), (0, .ref a0), (2, .int x2), (3, .int x3)]) hx hb dX0_leastGoingBack_103 hl (k := 4) rfl (by rw [ev7]; rfl) (by decide) rfl (fun ls hl => ?_)
      refine lv_goto (tgt := 85) hx hb dX0_leastGoingBack_106 (by decide) ?_
      exact ih u4 v6 x2 x3 v7 hw H locs hP hD hS ls (lv_sub hl [2, 1, 3, 4, 0] rfl)
set_option maxRecDepth 100000 in
set_option maxHeartbeats 4000000 in
theorem bX0_leastGoingBack_73 {p : Program} {l : Launch} {e : Env} {s : State} {m : MethodId} {args : Array Value} {below : List Frame} {meth : Method} {c : Code} {dC : Nat → ClassId} {dI : Nat → Nat → Nat} {cyI cyB cyJ cyZ : ClassId} {A : Nat → Prop} {a0 a1 a2 : Nat} (C0 : cxM p s m meth c args wsX0_leastGoingBack RX0 cX0_leastGoingBack 5 (some .int)) (hK : va_K (dC, dI) vwCl (tyA cyI cyB cyJ cyZ) s) (hN : nwA s) (hA : ∀ q : Nat, s.heap.size ≤ q → A q) {post : Int32 → ((Nat → Int32)) → Prop} {g0_rows : Int32} {g0_columns : Int32} {f2 : Nat → Int32} {k53 : (Nat → Int32) → Int32 → Int32 → Prop} {Q : State → Prop} (hQ : Q = MQ below (va_Qi post (fun u : (Nat → Int32) => wAt dC dI cyI cyB cyJ cyZ A (ceX0_leastGoingBack cyI cyB cyJ cyZ a0 a1 a2 g0_rows g0_columns f2 u)) A) args s 0 0 A) (hk53 : ∀ (f1 : Nat → Int32) (x1 : Int32) (x2 : Int32), k53 f1 x1 x2 → AtW p l e rmX0_leastGoingBack s m args below meth c dC dI A Q 5 0 0 (ceX0_leastGoingBack cyI cyB cyJ cyZ a0 a1 a2 g0_rows g0_columns f2 f1) [(0, .ref a0), (1, .int x1), (2, .int x2)] 53 []) : ∀ (n : Nat) (f1 : Nat → Int32) (x1 : Int32) (x2 : Int32) (x3 : Int32), wpX0_leastGoingBack_73 k53 post g0_rows g0_columns f2 n f1 x1 x2 x3 → AtW p l e rmX0_leastGoingBack s m args below meth c dC dI A Q 5 0 0 (ceX0_leastGoingBack cyI cyB cyJ cyZ a0 a1 a2 g0_rows g0_columns f2 f1) [(0, .ref a0), (1, .int x1), (2, .int x2), (3, .int x3)] 73 [] := by
  intro n
  induction n with
  | zero => intro f1 x1 x2 x3 hw; exact False.elim hw
  | succ n ih =>
    intro f1 x1 x2 x3 hw H locs hP hD hS ls hl
    have C1 := C0
    obtain ⟨hx, hb, hr, hml, hown, hts, hlocks⟩ := C1
    refine lv_iload_n hx hb dX0_leastGoingBack_73 rfl (lv_at hl 3 rfl) ?_
    refine lv_if_lt (tgt := 115) hx hb dX0_leastGoingBack_74 (by decide) (fun hc => ?_) (fun hc => ?_)
    · have hw := hw.1 hc
      refine lv_iconst (v := 0) hx hb dX0_leastGoingBack_115 (by decide) ?_
      refine lv_istore_n (lv' := [(3, .int 0), (0, .ref a0), (1, .int x1), (2, .int x2)]) hx hb dX0_leastGoingBack_116 rfl hl (by decide) rfl (fun ls hl => ?_)
      obtain ⟨nn, hw⟩ := hw
      exact bX0_leastGoingBack_117 C0 hK hN hA hQ hk53 nn f1 x1 x2 0 hw _ _ hP hD hS ls (lv_sub hl [1, 2, 3, 0] rfl)
    · have hw := hw.2 hc
      refine lv_aload_n hx hb dX0_leastGoingBack_77 rfl (lv_at hl 0 rfl) ?_
      refine va_get (D := (dC, dI)) (ci := 0) (v := .int g0_columns) (C := RX0) (T := TX0) (N := 4) hx hb hts inX0_leastGoingBack_X0 hown hK hP 0 rfl rfl 3 (by decide) (hts (.fieldLink RX0 22 "LeadPark$Grid" "columns" "I") (List.mem_of_getElem? (i := 4) rfl)) (fun _ h9 => h9) rfl dX0_leastGoingBack_78 ?_
      refine lv_iconst (v := 1) hx hb dX0_leastGoingBack_81 (by decide) ?_
      refine lv_isub hx hb dX0_leastGoingBack_82 ?_
      refine lv_topi (fun v1 ev1 => ?_)
      have hw := hw v1 ev1
      refine lv_istore (lv' := [(4, .int v1), (0, .ref a0), (1, .int x1), (2, .int x2), (3, .int x3)]) hx hb dX0_leastGoingBack_83 hl (by decide) rfl (fun ls hl => ?_)
      obtain ⟨nn, hw⟩ := hw
      exact bX0_leastGoingBack_85 C0 hK hN hA hQ ih hk53 nn f1 x1 x2 x3 v1 hw _ _ hP hD hS ls (lv_sub hl [1, 2, 3, 4, 0] rfl)
set_option maxRecDepth 100000 in
set_option maxHeartbeats 4000000 in
theorem bX0_leastGoingBack_53 {p : Program} {l : Launch} {e : Env} {s : State} {m : MethodId} {args : Array Value} {below : List Frame} {meth : Method} {c : Code} {dC : Nat → ClassId} {dI : Nat → Nat → Nat} {cyI cyB cyJ cyZ : ClassId} {A : Nat → Prop} {a0 a1 a2 : Nat} (C0 : cxM p s m meth c args wsX0_leastGoingBack RX0 cX0_leastGoingBack 5 (some .int)) (hK : va_K (dC, dI) vwCl (tyA cyI cyB cyJ cyZ) s) (hN : nwA s) (hA : ∀ q : Nat, s.heap.size ≤ q → A q) {post : Int32 → ((Nat → Int32)) → Prop} {g0_rows : Int32} {g0_columns : Int32} {f2 : Nat → Int32} {Q : State → Prop} (hQ : Q = MQ below (va_Qi post (fun u : (Nat → Int32) => wAt dC dI cyI cyB cyJ cyZ A (ceX0_leastGoingBack cyI cyB cyJ cyZ a0 a1 a2 g0_rows g0_columns f2 u)) A) args s 0 0 A) : ∀ (n : Nat) (f1 : Nat → Int32) (x1 : Int32) (x2 : Int32), wpX0_leastGoingBack_53 post g0_rows g0_columns f2 n f1 x1 x2 → AtW p l e rmX0_leastGoingBack s m args below meth c dC dI A Q 5 0 0 (ceX0_leastGoingBack cyI cyB cyJ cyZ a0 a1 a2 g0_rows g0_columns f2 f1) [(0, .ref a0), (1, .int x1), (2, .int x2)] 53 [] := by
  intro n
  induction n with
  | zero => intro f1 x1 x2 hw; exact False.elim hw
  | succ n ih =>
    intro f1 x1 x2 hw H locs hP hD hS ls hl
    have C1 := C0
    obtain ⟨hx, hb, hr, hml, hown, hts, hlocks⟩ := C1
    refine lv_iload_n hx hb dX0_leastGoingBack_53 rfl (lv_at hl 1 rfl) ?_
    refine lv_if_eq (tgt := 168) hx hb dX0_leastGoingBack_54 (by decide) (fun hc => ?_) (fun hc => ?_)
    · have hw := hw.1 hc
      exact bX0_leastGoingBack_168 C0 hK hN hA hQ f1 hw _ _ hP hD hS ls (lv_sub hl [0] rfl)
    · have hw := hw.2 hc
      refine lv_iload_n hx hb dX0_leastGoingBack_57 rfl (lv_at hl 2 rfl) ?_
      refine lv_sipush (v := 900) hx hb dX0_leastGoingBack_58 (by decide) ?_
      refine lv_icmp_ge (tgt := 168) hx hb dX0_leastGoingBack_61 (by decide) (fun hc => ?_) (fun hc => ?_)
      · have hw := hw.1 hc
        exact bX0_leastGoingBack_168 C0 hK hN hA hQ f1 hw _ _ hP hD hS ls (lv_sub hl [0] rfl)
      · have hw := hw.2 hc
        refine lv_iconst (v := 0) hx hb dX0_leastGoingBack_64 (by decide) ?_
        refine lv_istore_n (lv' := [(1, .int 0), (0, .ref a0), (2, .int x2)]) hx hb dX0_leastGoingBack_65 rfl hl (by decide) rfl (fun ls hl => ?_)
        refine lv_aload_n hx hb dX0_leastGoingBack_66 rfl (lv_at hl 1 rfl) ?_
        refine va_get (D := (dC, dI)) (ci := 0) (v := .int g0_rows) (C := RX0) (T := TX0) (N := 4) hx hb hts inX0_leastGoingBack_X0 hown hK hP 0 rfl rfl 2 (by decide) (hts (.fieldLink RX0 18 "LeadPark$Grid" "rows" "I") (List.mem_of_getElem? (i := 3) rfl)) (fun _ h9 => h9) rfl dX0_leastGoingBack_67 ?_
        refine lv_iconst (v := 1) hx hb dX0_leastGoingBack_70 (by decide) ?_
        refine lv_isub hx hb dX0_leastGoingBack_71 ?_
        refine lv_topi (fun v1 ev1 => ?_)
        have hw := hw v1 ev1
        refine lv_istore_n (lv' := [(3, .int v1), (1, .int 0), (0, .ref a0), (2, .int x2)]) hx hb dX0_leastGoingBack_72 rfl hl (by decide) rfl (fun ls hl => ?_)
        obtain ⟨nn, hw⟩ := hw
        exact bX0_leastGoingBack_73 C0 hK hN hA hQ ih nn f1 0 x2 v1 hw _ _ hP hD hS ls (lv_sub hl [2, 1, 3, 0] rfl)
set_option maxRecDepth 100000 in
set_option maxHeartbeats 4000000 in
theorem ctX0_leastGoingBack (l : Launch) (dC : Nat → ClassId) (dI : Nat → Nat → Nat) (cyI cyB cyJ cyZ : ClassId) (sz : Nat) (a0 a1 a2 : Nat) (g0_rows : Int32) (g0_columns : Int32) (f2 : Nat → Int32) (f1 : Nat → Int32) (post : Int32 → ((Nat → Int32)) → Prop) (hw : wpX0_leastGoingBack post g0_rows g0_columns f2 f1 ) : Met l yX0_leastGoingBack wsX0_leastGoingBack rmX0_leastGoingBack (va_Pc [.ref a0] (wPre dC dI cyI cyB cyJ cyZ sz (ceX0_leastGoingBack cyI cyB cyJ cyZ a0 a1 a2 g0_rows g0_columns f2 f1))) (va_Qi post (fun u : (Nat → Int32) => wAt dC dI cyI cyB cyJ cyZ (va_A (ceX0_leastGoingBack cyI cyB cyJ cyZ a0 a1 a2 g0_rows g0_columns f2 f1) sz) (ceX0_leastGoingBack cyI cyB cyJ cyZ a0 a1 a2 g0_rows g0_columns f2 u)) (va_A (ceX0_leastGoingBack cyI cyB cyJ cyZ a0 a1 a2 g0_rows g0_columns f2 f1) sz)) 0 0 (va_A (ceX0_leastGoingBack cyI cyB cyJ cyZ a0 a1 a2 g0_rows g0_columns f2 f1) sz) := by
  refine Met.ofW (cc := cX0_leastGoingBack) (maxL := 5) (ret := (some .int)) (by decide) rfl ?_
  intro p e s m args below meth c s₁ B hml hv
  obtain ⟨rfl, hsz, hP, hK, hD0, hN⟩ := hv
  have hx := B.exec
  have hb := B.bytes
  have hr := B.returns
  have hts := atoms_spec (ws := wsX0_leastGoingBack) B.pre
  have hown : s.vm.findClass RX0 = some m.cls := findClass_of_methodNamed B.named
  have hlocks := B.notSynchronized
  subst hsz
  have hD := hD0.self (sz := s.heap.size)
  generalize hAe : va_A (ceX0_leastGoingBack cyI cyB cyJ cyZ a0 a1 a2 g0_rows g0_columns f2 f1) s.heap.size = A at hD ⊢
  have hA : ∀ q : Nat, s.heap.size ≤ q → A q := fun q h => by rw [← hAe]; exact Or.inr h
  have hS : va_S A s.heap s.heap [] := va_S.rf
  have C0 : cxM p s m meth c _ wsX0_leastGoingBack RX0 cX0_leastGoingBack 5 (some .int) := ⟨hx, hb, hr, hml, hown, hts, hlocks⟩
  have hl := lv_entry ([.ref a0]) (n := 5) (Nat.le_of_ble_eq_true rfl)
  rw [lg_entry_eq]
  generalize (lg_sl ([.ref a0]) ++ List.replicate (5 - (lg_sl ([.ref a0])).length) Slot.unset).toArray = ls at hl ⊢
  have hl : lv_has ls 5 [(0, .ref a0)] := hl
  show W p l e rmX0_leastGoingBack s m _ below meth c _ _ _ _ _ _
  refine wq (fun Q hQ => ?_)
  refine lv_aload_n hx hb dX0_leastGoingBack_0 rfl (lv_at hl 0 rfl) ?_
  refine va_get (D := (dC, dI)) (ci := 0) (v := .ref a1) (C := RX0) (T := TX0) (N := 4) hx hb hts inX0_leastGoingBack_X0 hown hK hP 0 rfl rfl 1 (by decide) (hts (.fieldLink RX0 15 "LeadPark$Grid" "best" "[I") (List.mem_of_getElem? (i := 1) rfl)) (fun _ h9 => h9) rfl dX0_leastGoingBack_1 ?_
  refine lv_ldc (v := 2147483647) hx hb hown (hts (.constant RX0 44 (2147483647)) (List.mem_of_getElem? (i := 2) rfl)) dX0_leastGoingBack_4 ?_
  have hPc := hP.sub (ws' := (ceJ7_fill_53178 cyI cyB cyJ cyZ a1 1089 f1)) [1] rfl
  have hDc := hD.sub (ws' := (ceJ7_fill_53178 cyI cyB cyJ cyZ a1 1089 f1)) [1] (by decide) rfl
  have hFc := va_free (wc := (ceJ7_fill_53178 cyI cyB cyJ cyZ a1 1089 f1)) hD hS hA [1] rfl
  refine va_callv (va_runS (As := [.ref a1, .int 2147483647]) (rest := []) ⟨hx, hb, hml, hown, hts⟩ (ctJ7_fill_53178 l dC dI cyI cyB cyJ cyZ _ a1 1089 f1 2147483647 _ hw) (va_cwS 2 hts gX0_leastGoingBack_J7_fill_53178 rfl rfl rfl (by decide +kernel) ⟨Nat.le_of_ble_eq_true rfl, Nat.le_of_ble_eq_true rfl⟩) ⟨wPre_blind, fun U hU hW => wPre_of hPc hK hDc hN hU hW⟩ rfl rfl hl.1 rfl (lv_room (Nat.le_of_ble_eq_true rfl)) dX0_leastGoingBack_6 ⟨(Nat.zero_le _), (Nat.zero_le _)⟩) hS (fun q _ h => hFc q h) hFc (fun u1 t H1 locs ht hvm hw hB hz1 hk1 hS => ?_)
  obtain ⟨hP1, hK1, hD1⟩ := hB
  rw [ht] at hP1
  obtain ⟨hP, hD⟩ := va_join (wr := pickW (ceX0_leastGoingBack cyI cyB cyJ cyZ a0 a1 a2 g0_rows g0_columns f2 f1) [0, 2]) (w1 := (ceJ7_fill_53178 cyI cyB cyJ cyZ a1 1089 u1)) hP hD [1] [0, 2] rfl rfl (by decide) (by decide) hk1 hFc hP1 hD1
  have hP := hP.sub (ws' := (ceX0_leastGoingBack cyI cyB cyJ cyZ a0 a1 a2 g0_rows g0_columns f2 u1)) [0, 2, 1] rfl
  have hD := hD.sub (ws' := (ceX0_leastGoingBack cyI cyB cyJ cyZ a0 a1 a2 g0_rows g0_columns f2 u1)) [0, 2, 1] (by decide) rfl
  generalize H1 = H at hP hS ⊢
  refine lv_aload_n hx hb dX0_leastGoingBack_9 rfl (lv_at hl 0 rfl) ?_
  refine va_get (D := (dC, dI)) (ci := 0) (v := .ref a1) (C := RX0) (T := TX0) (N := 4) hx hb hts inX0_leastGoingBack_X0 hown hK hP 0 rfl rfl 1 (by decide) (hts (.fieldLink RX0 15 "LeadPark$Grid" "best" "[I") (List.mem_of_getElem? (i := 1) rfl)) (fun _ h9 => h9) rfl dX0_leastGoingBack_10 ?_
  refine lv_aload_n hx hb dX0_leastGoingBack_13 rfl (lv_at hl 0 rfl) ?_
  refine va_get (D := (dC, dI)) (ci := 0) (v := .int g0_rows) (C := RX0) (T := TX0) (N := 4) hx hb hts inX0_leastGoingBack_X0 hown hK hP 0 rfl rfl 2 (by decide) (hts (.fieldLink RX0 18 "LeadPark$Grid" "rows" "I") (List.mem_of_getElem? (i := 3) rfl)) (fun _ h9 => h9) rfl dX0_leastGoingBack_14 ?_
  refine lv_iconst (v := 1) hx hb dX0_leastGoingBack_17 (by decide) ?_
  refine lv_isub hx hb dX0_leastGoingBack_18 ?_
  refine lv_aload_n hx hb dX0_leastGoingBack_19 rfl (lv_at hl 0 rfl) ?_
  refine va_get (D := (dC, dI)) (ci := 0) (v := .int g0_columns) (C := RX0) (T := TX0) (N := 4) hx hb hts inX0_leastGoingBack_X0 hown hK hP 0 rfl rfl 3 (by decide) (hts (.fieldLink RX0 22 "LeadPark$Grid" "columns" "I") (List.mem_of_getElem? (i := 4) rfl)) (fun _ h9 => h9) rfl dX0_leastGoingBack_20 ?_
  refine lv_iconst (v := 1) hx hb dX0_leastGoingBack_23 (by decide) ?_
  refine lv_isub hx hb dX0_leastGoingBack_24 ?_
  have hPc := hP.sub (ws' := ([] : va_W)) [] rfl
  have hDc := hD.sub (ws' := ([] : va_W)) [] (by decide) rfl
  have hFc := va_free (wc := ([] : va_W)) hD hS hA [] rfl
  refine va_calli (va_runS (As := [.int (g0_rows - 1), .int (g0_columns - 1)]) (rest := [.ref a1]) ⟨hx, hb, hml, hown, hts⟩ (ctX0_cell l dC dI cyI cyB cyJ cyZ _ (g0_rows - 1) (g0_columns - 1) _ hw) (va_cwS 2 hts gX0_leastGoingBack_X0_cell rfl rfl rfl (by decide +kernel) ⟨Nat.le_of_ble_eq_true rfl, Nat.le_of_ble_eq_true rfl⟩) ⟨wPre_blind, fun U hU hW => wPre_of hPc hK hDc hN hU hW⟩ rfl rfl hl.1 rfl (lv_room (Nat.le_of_ble_eq_true rfl)) dX0_leastGoingBack_25 ⟨(Nat.zero_le _), (Nat.zero_le _)⟩) hS (fun q _ h => hFc q h) hFc (fun r3 u2 t H1 locs ht hvm hw hB hz1 hk1 hS => ?_)
  obtain ⟨hP1, hK1, hD1⟩ := hB
  rw [ht] at hP1
  obtain ⟨hP, hD⟩ := va_join (wr := pickW (ceX0_leastGoingBack cyI cyB cyJ cyZ a0 a1 a2 g0_rows g0_columns f2 u1) [0, 1, 2]) (w1 := ([] : va_W)) hP hD [] [0, 1, 2] rfl rfl (by decide) (by decide) hk1 hFc hP1 hD1
  have hP := hP.sub (ws' := (ceX0_leastGoingBack cyI cyB cyJ cyZ a0 a1 a2 g0_rows g0_columns f2 u1)) [0, 1, 2] rfl
  have hD := hD.sub (ws' := (ceX0_leastGoingBack cyI cyB cyJ cyZ a0 a1 a2 g0_rows g0_columns f2 u1)) [0, 1, 2] (by decide) rfl
  generalize H1 = H at hP hS ⊢
  refine lv_aload_n hx hb dX0_leastGoingBack_28 rfl (lv_at hl 0 rfl) ?_
  refine va_get (D := (dC, dI)) (ci := 0) (v := .ref a2) (C := RX0) (T := TX0) (N := 4) hx hb hts inX0_leastGoingBack_X0 hown hK hP 0 rfl rfl 0 (by decide) (hts (.fieldLink RX0 11 "LeadPark$Grid" "prices" "[I") (List.mem_of_getElem? (i := 5) rfl)) (fun _ h9 => h9) rfl dX0_leastGoingBack_29 ?_
  refine lv_aload_n hx hb dX0_leastGoingBack_32 rfl (lv_at hl 0 rfl) ?_
  refine va_get (D := (dC, dI)) (ci := 0) (v := .int g0_rows) (C := RX0) (T := TX0) (N := 4) hx hb hts inX0_leastGoingBack_X0 hown hK hP 0 rfl rfl 2 (by decide) (hts (.fieldLink RX0 18 "LeadPark$Grid" "rows" "I") (List.mem_of_getElem? (i := 3) rfl)) (fun _ h9 => h9) rfl dX0_leastGoingBack_33 ?_
  refine lv_iconst (v := 1) hx hb dX0_leastGoingBack_36 (by decide) ?_
  refine lv_isub hx hb dX0_leastGoingBack_37 ?_
  refine lv_aload_n hx hb dX0_leastGoingBack_38 rfl (lv_at hl 0 rfl) ?_
  refine va_get (D := (dC, dI)) (ci := 0) (v := .int g0_columns) (C := RX0) (T := TX0) (N := 4) hx hb hts inX0_leastGoingBack_X0 hown hK hP 0 rfl rfl 3 (by decide) (hts (.fieldLink RX0 22 "LeadPark$Grid" "columns" "I") (List.mem_of_getElem? (i := 4) rfl)) (fun _ h9 => h9) rfl dX0_leastGoingBack_39 ?_
  refine lv_iconst (v := 1) hx hb dX0_leastGoingBack_42 (by decide) ?_
  refine lv_isub hx hb dX0_leastGoingBack_43 ?_
  have hPc := hP.sub (ws' := ([] : va_W)) [] rfl
  have hDc := hD.sub (ws' := ([] : va_W)) [] (by decide) rfl
  have hFc := va_free (wc := ([] : va_W)) hD hS hA [] rfl
  refine va_calli (va_runS (As := [.int (g0_rows - 1), .int (g0_columns - 1)]) (rest := [.ref a2, .int r3, .ref a1]) ⟨hx, hb, hml, hown, hts⟩ (ctX0_cell l dC dI cyI cyB cyJ cyZ _ (g0_rows - 1) (g0_columns - 1) _ hw) (va_cwS 2 hts gX0_leastGoingBack_X0_cell rfl rfl rfl (by decide +kernel) ⟨Nat.le_of_ble_eq_true rfl, Nat.le_of_ble_eq_true rfl⟩) ⟨wPre_blind, fun U hU hW => wPre_of hPc hK hDc hN hU hW⟩ rfl rfl hl.1 rfl (lv_room (Nat.le_of_ble_eq_true rfl)) dX0_leastGoingBack_44 ⟨(Nat.zero_le _), (Nat.zero_le _)⟩) hS (fun q _ h => hFc q h) hFc (fun r5 u4 t H1 locs ht hvm hw hB hz1 hk1 hS => ?_)
  obtain ⟨hP1, hK1, hD1⟩ := hB
  rw [ht] at hP1
  obtain ⟨hP, hD⟩ := va_join (wr := pickW (ceX0_leastGoingBack cyI cyB cyJ cyZ a0 a1 a2 g0_rows g0_columns f2 u1) [0, 1, 2]) (w1 := ([] : va_W)) hP hD [] [0, 1, 2] rfl rfl (by decide) (by decide) hk1 hFc hP1 hD1
  have hP := hP.sub (ws' := (ceX0_leastGoingBack cyI cyB cyJ cyZ a0 a1 a2 g0_rows g0_columns f2 u1)) [0, 1, 2] rfl
  have hD := hD.sub (ws' := (ceX0_leastGoingBack cyI cyB cyJ cyZ a0 a1 a2 g0_rows g0_columns f2 u1)) [0, 1, 2] (by decide) rfl
  generalize H1 = H at hP hS ⊢
  obtain ⟨hi, hw⟩ := hw
  refine va_iald hx hb hK hP 2 0 rfl rfl hi dX0_leastGoingBack_47 ?_
  obtain ⟨hi, hw⟩ := hw
  refine va_iast hx hb hK hP hD hS 1 0 rfl rfl hi dX0_leastGoingBack_48 (fun H locs hP hD hS => ?_)
  have hP : va_P (dC, dI) vwCl (ceX0_leastGoingBack cyI cyB cyJ cyZ a0 a1 a2 g0_rows g0_columns f2 (upd u1 r3.toNatClampNeg (f2 r5.toNatClampNeg))) H := hP
  have hD : va_D A (ceX0_leastGoingBack cyI cyB cyJ cyZ a0 a1 a2 g0_rows g0_columns f2 (upd u1 r3.toNatClampNeg (f2 r5.toNatClampNeg))) := hD
  refine lv_iconst (v := 1) hx hb dX0_leastGoingBack_49 (by decide) ?_
  refine lv_istore_n (lv' := [(1, .int 1), (0, .ref a0)]) hx hb dX0_leastGoingBack_50 rfl hl (by decide) rfl (fun ls hl => ?_)
  refine lv_iconst (v := 0) hx hb dX0_leastGoingBack_51 (by decide) ?_
  refine lv_istore_n (lv' := [(2, .int 0), (1, .int 1), (0, .ref a0)]) hx hb dX0_leastGoingBack_52 rfl hl (by decide) rfl (fun ls hl => ?_)
  obtain ⟨nn, hw⟩ := hw
  exact bX0_leastGoingBack_53 C0 hK hN hA hQ nn (upd u1 r3.toNatClampNeg (f2 r5.toNatClampNeg)) 1 0 hw _ _ hP hD hS ls (lv_sub hl [2, 1, 0] rfl)
/-! LeadPark.orNone (I)I -/

abbrev rmX10_orNone : Room := { frames := 0, cells := 0, slots := 0, locals := 0 }
set_option maxRecDepth 100000 in
set_option maxHeartbeats 4000000 in
theorem ctX10_orNone (l : Launch) (dC : Nat → ClassId) (dI : Nat → Nat → Nat) (cyI cyB cyJ cyZ : ClassId) (sz : Nat) (p0 : Int32) (post : Int32 → Unit → Prop) (hw : wpX10_orNone post p0) : Met l yX10_orNone wsX10_orNone rmX10_orNone (va_Pc [.int p0] (wPre dC dI cyI cyB cyJ cyZ sz ([] : va_W))) (va_Qi post (fun u : Unit => wAt dC dI cyI cyB cyJ cyZ (va_A ([] : va_W) sz) ([] : va_W)) (va_A ([] : va_W) sz)) 0 0 (va_A ([] : va_W) sz) := by
  refine Met.ofW (cc := cX10_orNone) (maxL := 1) (ret := (some .int)) (by decide) rfl ?_
  intro p e s m args below meth c s₁ B hml hv
  obtain ⟨rfl, hsz, hP, hK, hD0, hN⟩ := hv
  have hx := B.exec
  have hb := B.bytes
  have hr := B.returns
  have hts := atoms_spec (ws := wsX10_orNone) B.pre
  have hown : s.vm.findClass RX10 = some m.cls := findClass_of_methodNamed B.named
  have hlocks := B.notSynchronized
  subst hsz
  have hD := hD0.self (sz := s.heap.size)
  generalize hAe : va_A ([] : va_W) s.heap.size = A at hD ⊢
  have hA : ∀ q : Nat, s.heap.size ≤ q → A q := fun q h => by rw [← hAe]; exact Or.inr h
  have hS : va_S A s.heap s.heap [] := va_S.rf
  have C0 : cxM p s m meth c _ wsX10_orNone RX10 cX10_orNone 1 (some .int) := ⟨hx, hb, hr, hml, hown, hts, hlocks⟩
  have hl := lv_entry ([.int p0]) (n := 1) (Nat.le_of_ble_eq_true rfl)
  rw [lg_entry_eq]
  generalize (lg_sl ([.int p0]) ++ List.replicate (1 - (lg_sl ([.int p0])).length) Slot.unset).toArray = ls at hl ⊢
  have hl : lv_has ls 1 [(0, .int p0)] := hl
  show W p l e rmX10_orNone s m _ below meth c _ _ _ _ _ _
  refine wq (fun Q hQ => ?_)
  refine lv_iload_n hx hb dX10_orNone_0 rfl (lv_at hl 0 rfl) ?_
  refine lv_ldc (v := 2147483647) hx hb hown (hts (.constant RX10 224 (2147483647)) (List.mem_of_getElem? (i := 1) rfl)) dX10_orNone_1 ?_
  refine lv_icmp_ne (tgt := 10) hx hb dX10_orNone_3 (by decide) (fun hc => ?_) (fun hc => ?_)
  · have hw := hw.1 hc
    refine lv_iload_n hx hb dX10_orNone_10 rfl (lv_at hl 0 rfl) ?_
    rw [hQ]
    exact W.iret (v := p0) hx hb hr (fun t ht hW => ⟨⟨p0, (), rfl, hw, by rw [ht]; exact hP, va_K.moved hW.alike hK, hD⟩, hS.F ht⟩) hS.2.2 dX10_orNone_11
  · have hw := hw.2 hc
    refine lv_iconst (v := (-1)) hx hb dX10_orNone_6 (by decide) ?_
    refine lv_goto (tgt := 11) hx hb dX10_orNone_7 (by decide) ?_
    rw [hQ]
    exact W.iret (v := (-1)) hx hb hr (fun t ht hW => ⟨⟨(-1), (), rfl, hw, by rw [ht]; exact hP, va_K.moved hW.alike hK, hD⟩, hS.F ht⟩) hS.2.2 dX10_orNone_11
/-! LeadPark$Grid.leastRound (Z)I -/
abbrev ceX0_leastRound (cyI cyB cyJ cyZ : ClassId) (a0 a1 a2 : Nat) (g0_rows : Int32) (g0_columns : Int32) (f2 : Nat → Int32) (f1 : Nat → Int32) : va_W := [(a0, .inr (0, [.ref a2, .ref a1, .int g0_rows, .int g0_columns])), (a1, .inl (cyI, 1089, .inl f1)), (a2, .inl (cyI, 1089, .inl f2))]

theorem inX0_leastRound_X0 : ∀ w ∈ wsX00, w ∈ wsX0_leastRound := fun _ h => List.mem_cons_of_mem _ (List.mem_append_right _ h)
abbrev rmX0_leastRound : Room := { frames := 3, cells := 0, slots := 0, locals := 89 }
set_option maxRecDepth 100000 in
set_option maxHeartbeats 4000000 in
theorem bX0_leastRound_82 {p : Program} {l : Launch} {e : Env} {s : State} {m : MethodId} {args : Array Value} {below : List Frame} {meth : Method} {c : Code} {dC : Nat → ClassId} {dI : Nat → Nat → Nat} {cyI cyB cyJ cyZ : ClassId} {A : Nat → Prop} {a0 a1 a2 : Nat} (C0 : cxM p s m meth c args wsX0_leastRound RX0 cX0_leastRound 8 (some .int)) (hK : va_K (dC, dI) vwCl (tyA cyI cyB cyJ cyZ) s) (hN : nwA s) (hA : ∀ q : Nat, s.heap.size ≤ q → A q) {post : Int32 → ((Nat → Int32)) → Prop} {g0_rows : Int32} {g0_columns : Int32} {f2 : Nat → Int32} {k48 : (Nat → Int32) → Int32 → Int32 → Int32 → Int32 → Int32 → Int32 → Prop} {Q : State → Prop} (hQ : Q = MQ below (va_Qi post (fun u : (Nat → Int32) => wAt dC dI cyI cyB cyJ cyZ A (ceX0_leastRound cyI cyB cyJ cyZ a0 a1 a2 g0_rows g0_columns f2 u)) A) args s 0 0 A) (hk48 : ∀ (f1 : Nat → Int32) (x1 : Int32) (x2 : Int32) (x3 : Int32) (x4 : Int32) (x5 : Int32) (x6 : Int32), k48 f1 x1 x2 x3 x4 x5 x6 → AtW p l e rmX0_leastRound s m args below meth c dC dI A Q 8 0 0 (ceX0_leastRound cyI cyB cyJ cyZ a0 a1 a2 g0_rows g0_columns f2 f1) [(0, .ref a0), (1, .int x1), (2, .int x2), (3, .int x3), (4, .int x4), (5, .int x5), (6, .int x6)] 48 []) : ∀ (f1 : Nat → Int32) (x1 : Int32) (x2 : Int32) (x3 : Int32) (x4 : Int32) (x5 : Int32) (x6 : Int32), wpX0_leastRound_82 k48 post g0_rows g0_columns f2 f1 x1 x2 x3 x4 x5 x6 → AtW p l e rmX0_leastRound s m args below meth c dC dI A Q 8 0 0 (ceX0_leastRound cyI cyB cyJ cyZ a0 a1 a2 g0_rows g0_columns f2 f1) [(0, .ref a0), (1, .int x1), (2, .int x2), (3, .int x3), (4, .int x4), (5, .int x5), (6, .int x6)] 82 [] := by
  intro f1 x1 x2 x3 x4 x5 x6 hw H locs hP hD hS ls hl
  have C1 := C0
  obtain ⟨hx, hb, hr, hml, hown, hts, hlocks⟩ := C1
  obtain ⟨v1, ev1⟩ : ∃ y : Int32, y = x6 + 1 := ⟨_, rfl⟩
  have hw := hw v1 ev1
  refine lv_iinc (v := v1) (lv' := [(6, .int v1), (0, .ref a0), (1, .int x1), (2, .int x2), (3, .int x3), (4, .int x4), (5, .int x5)]) hx hb dX0_leastRound_82 hl (k := 6) rfl (by rw [ev1]; rfl) (by decide) rfl (fun ls hl => ?_)
  refine lv_goto (tgt := 48) hx hb dX0_leastRound_85 (by decide) ?_
  exact hk48 f1 x1 x2 x3 x4 x5 v1 hw H locs hP hD hS ls (lv_sub hl [1, 2, 3, 4, 5, 6, 0] rfl)
set_option maxRecDepth 100000 in
set_option maxHeartbeats 4000000 in
theorem bX0_leastRound_48 {p : Program} {l : Launch} {e : Env} {s : State} {m : MethodId} {args : Array Value} {below : List Frame} {meth : Method} {c : Code} {dC : Nat → ClassId} {dI : Nat → Nat → Nat} {cyI cyB cyJ cyZ : ClassId} {A : Nat → Prop} {a0 a1 a2 : Nat} (C0 : cxM p s m meth c args wsX0_leastRound RX0 cX0_leastRound 8 (some .int)) (hK : va_K (dC, dI) vwCl (tyA cyI cyB cyJ cyZ) s) (hN : nwA s) (hA : ∀ q : Nat, s.heap.size ≤ q → A q) {post : Int32 → ((Nat → Int32)) → Prop} {g0_rows : Int32} {g0_columns : Int32} {f2 : Nat → Int32} {Q : State → Prop} (hQ : Q = MQ below (va_Qi post (fun u : (Nat → Int32) => wAt dC dI cyI cyB cyJ cyZ A (ceX0_leastRound cyI cyB cyJ cyZ a0 a1 a2 g0_rows g0_columns f2 u)) A) args s 0 0 A) : ∀ (n : Nat) (f1 : Nat → Int32) (x1 : Int32) (x2 : Int32) (x3 : Int32) (x4 : Int32) (x5 : Int32) (x6 : Int32), wpX0_leastRound_48 post g0_rows g0_columns f2 n f1 x1 x2 x3 x4 x5 x6 → AtW p l e rmX0_leastRound s m args below meth c dC dI A Q 8 0 0 (ceX0_leastRound cyI cyB cyJ cyZ a0 a1 a2 g0_rows g0_columns f2 f1) [(0, .ref a0), (1, .int x1), (2, .int x2), (3, .int x3), (4, .int x4), (5, .int x5), (6, .int x6)] 48 [] := by
  intro n
  induction n with
  | zero => intro f1 x1 x2 x3 x4 x5 x6 hw; exact False.elim hw
  | succ n ih =>
    intro f1 x1 x2 x3 x4 x5 x6 hw H locs hP hD hS ls hl
    have C1 := C0
    obtain ⟨hx, hb, hr, hml, hown, hts, hlocks⟩ := C1
    refine lv_iload hx hb dX0_leastRound_48 (lv_at hl 6 rfl) ?_
    refine lv_aload_n hx hb dX0_leastRound_50 rfl (lv_at hl 0 rfl) ?_
    refine va_get (D := (dC, dI)) (ci := 0) (v := .int g0_columns) (C := RX0) (T := TX0) (N := 4) hx hb hts inX0_leastRound_X0 hown hK hP 0 rfl rfl 3 (by decide) (hts (.fieldLink RX0 22 "LeadPark$Grid" "columns" "I") (List.mem_of_getElem? (i := 2) rfl)) (fun _ h9 => h9) rfl dX0_leastRound_51 ?_
    refine lv_icmp_ge (tgt := 88) hx hb dX0_leastRound_54 (by decide) (fun hc => ?_) (fun hc => ?_)
    · have hw := hw.1 hc
      refine lv_iload_n hx hb dX0_leastRound_88 rfl (lv_at hl 1 rfl) ?_
      refine lv_if_eq (tgt := 97) hx hb dX0_leastRound_89 (by decide) (fun hc => ?_) (fun hc => ?_)
      · have hw := hw.1 hc
        refine lv_iload hx hb dX0_leastRound_97 (lv_at hl 4 rfl) ?_
        have hPc := hP.sub (ws' := ([] : va_W)) [] rfl
        have hDc := hD.sub (ws' := ([] : va_W)) [] (by decide) rfl
        have hFc := va_free (wc := ([] : va_W)) hD hS hA [] rfl
        refine va_calli (va_runSN (As := [.int x4]) (rest := []) ⟨hx, hb, hml, hown, hts⟩ (ctX10_orNone l dC dI cyI cyB cyJ cyZ _ x4 _ hw) ⟨va_cnB 1 hts ggX0_leastRound_X10_orNone rfl rfl rfl (hN _ (List.mem_of_getElem? (i := 52) rfl)) (hts (.initialized RX10) (List.mem_of_getElem? (i := 30) rfl)) (by decide +kernel) ⟨Nat.le_of_ble_eq_true rfl, Nat.le_of_ble_eq_true rfl⟩, (hts (.static yX10_orNone) (List.mem_of_getElem? (i := 29) rfl)), trivial⟩ ⟨wPre_blind, fun U hU hW => wPre_of hPc hK hDc hN hU hW⟩ rfl rfl hl.1 rfl (lv_room (Nat.le_of_ble_eq_true rfl)) dX0_leastRound_99 ⟨(Nat.zero_le _), (Nat.zero_le _)⟩) hS (fun q _ h => hFc q h) hFc (fun r2 u1 t H1 locs ht hvm hw hB hz1 hk1 hS => ?_)
        obtain ⟨hP1, hK1, hD1⟩ := hB
        rw [ht] at hP1
        obtain ⟨hP, hD⟩ := va_join (wr := pickW (ceX0_leastRound cyI cyB cyJ cyZ a0 a1 a2 g0_rows g0_columns f2 f1) [0, 1, 2]) (w1 := ([] : va_W)) hP hD [] [0, 1, 2] rfl rfl (by decide) (by decide) hk1 hFc hP1 hD1
        have hP := hP.sub (ws' := (ceX0_leastRound cyI cyB cyJ cyZ a0 a1 a2 g0_rows g0_columns f2 f1)) [0, 1, 2] rfl
        have hD := hD.sub (ws' := (ceX0_leastRound cyI cyB cyJ cyZ a0 a1 a2 g0_rows g0_columns f2 f1)) [0, 1, 2] (by decide) rfl
        generalize H1 = H at hP hS ⊢
        rw [hQ]
        exact W.iret (v := r2) hx hb hr (fun t ht hW => ⟨⟨r2, (f1), rfl, hw, by rw [ht]; exact hP, va_K.moved hW.alike hK, hD⟩, hS.F ht⟩) hS.2.2 dX0_leastRound_102
      · have hw := hw.2 hc
        refine lv_iload hx hb dX0_leastRound_92 (lv_at hl 5 rfl) ?_
        refine lv_goto (tgt := 102) hx hb dX0_leastRound_94 (by decide) ?_
        rw [hQ]
        exact W.iret (v := x5) hx hb hr (fun t ht hW => ⟨⟨x5, (f1), rfl, hw, by rw [ht]; exact hP, va_K.moved hW.alike hK, hD⟩, hS.F ht⟩) hS.2.2 dX0_leastRound_102
    · have hw := hw.2 hc
      refine lv_aload_n hx hb dX0_leastRound_57 rfl (lv_at hl 0 rfl) ?_
      refine lv_iload_n hx hb dX0_leastRound_58 rfl (lv_at hl 2 rfl) ?_
      refine lv_iload_n hx hb dX0_leastRound_59 rfl (lv_at hl 3 rfl) ?_
      refine lv_iload hx hb dX0_leastRound_60 (lv_at hl 6 rfl) ?_
      have hPc := hP.sub (ws' := (ceX0_settle cyI cyB cyJ cyZ a0 a1 a2 g0_rows g0_columns f2 f1)) [0, 1, 2] rfl
      have hDc := hD.sub (ws' := (ceX0_settle cyI cyB cyJ cyZ a0 a1 a2 g0_rows g0_columns f2 f1)) [0, 1, 2] (by decide) rfl
      have hFc := va_free (wc := (ceX0_settle cyI cyB cyJ cyZ a0 a1 a2 g0_rows g0_columns f2 f1)) hD hS hA [0, 1, 2] rfl
      refine va_calli (va_runV (As := [.int x2, .int x3, .int x6]) (rest := []) ⟨hx, hb, hml, hown, hts⟩ (ctX0_settle l dC dI cyI cyB cyJ cyZ _ a0 a1 a2 g0_rows g0_columns f2 f1 x2 x3 x6 _ hw) (cwV 3 hts gX0_leastRound_X0_settle rfl rfl rfl (by decide +kernel) ⟨Nat.le_of_ble_eq_true rfl, Nat.le_of_ble_eq_true rfl⟩) ⟨wPre_blind, va_recv hK hPc (ci := 0) (q0 := 0) rfl rfl, fun U hU hW => wPre_of hPc hK hDc hN hU hW⟩ rfl rfl hl.1 rfl (lv_room (Nat.le_of_ble_eq_true rfl)) dX0_leastRound_62 ⟨(Nat.zero_le _), (Nat.zero_le _)⟩) hS (fun q _ h => hFc q h) hFc (fun r4 u3 t H1 locs ht hvm hw hB hz1 hk1 hS => ?_)
      obtain ⟨hP1, hK1, hD1⟩ := hB
      rw [ht] at hP1
      obtain ⟨hP, hD⟩ := va_join (wr := pickW (ceX0_leastRound cyI cyB cyJ cyZ a0 a1 a2 g0_rows g0_columns f2 f1) []) (w1 := (ceX0_settle cyI cyB cyJ cyZ a0 a1 a2 g0_rows g0_columns f2 u3)) hP hD [0, 1, 2] [] rfl rfl (by decide) (by decide) hk1 hFc hP1 hD1
      have hP := hP.sub (ws' := (ceX0_leastRound cyI cyB cyJ cyZ a0 a1 a2 g0_rows g0_columns f2 u3)) [0, 1, 2] rfl
      have hD := hD.sub (ws' := (ceX0_leastRound cyI cyB cyJ cyZ a0 a1 a2 g0_rows g0_columns f2 u3)) [0, 1, 2] (by decide) rfl
      generalize H1 = H at hP hS ⊢
      refine lv_istore (lv' := [(7, .int r4), (0, .ref a0), (1, .int x1), (2, .int x2), (3, .int x3), (4, .int x4), (5, .int x5), (6, .int x6)]) hx hb dX0_leastRound_65 hl (by decide) rfl (fun ls hl => ?_)
      refine lv_iload hx hb dX0_leastRound_67 (lv_at hl 0 rfl) ?_
      refine lv_iload hx hb dX0_leastRound_69 (lv_at hl 5 rfl) ?_
      refine lv_icmp_ge (tgt := 82) hx hb dX0_leastRound_71 (by decide) (fun hc => ?_) (fun hc => ?_)
      · have hw := hw.1 hc
        exact bX0_leastRound_82 C0 hK hN hA hQ ih u3 x1 x2 x3 x4 x5 x6 hw _ _ hP hD hS ls (lv_sub hl [1, 2, 3, 4, 5, 6, 7] rfl)
      · have hw := hw.2 hc
        refine lv_iload hx hb dX0_leastRound_74 (lv_at hl 0 rfl) ?_
        refine lv_istore (lv' := [(4, .int r4), (7, .int r4), (0, .ref a0), (1, .int x1), (2, .int x2), (3, .int x3), (5, .int x5), (6, .int x6)]) hx hb dX0_leastRound_76 hl (by decide) rfl (fun ls hl => ?_)
        refine lv_iload hx hb dX0_leastRound_78 (lv_at hl 7 rfl) ?_
        refine lv_istore (lv' := [(5, .int x6), (4, .int r4), (7, .int r4), (0, .ref a0), (1, .int x1), (2, .int x2), (3, .int x3), (6, .int x6)]) hx hb dX0_leastRound_80 hl (by decide) rfl (fun ls hl => ?_)
        exact bX0_leastRound_82 C0 hK hN hA hQ ih u3 x1 x2 x3 r4 x6 x6 hw _ _ hP hD hS ls (lv_sub hl [3, 4, 5, 6, 1, 0, 7] rfl)
set_option maxRecDepth 100000 in
set_option maxHeartbeats 4000000 in
theorem bX0_leastRound_37 {p : Program} {l : Launch} {e : Env} {s : State} {m : MethodId} {args : Array Value} {below : List Frame} {meth : Method} {c : Code} {dC : Nat → ClassId} {dI : Nat → Nat → Nat} {cyI cyB cyJ cyZ : ClassId} {A : Nat → Prop} {a0 a1 a2 : Nat} (C0 : cxM p s m meth c args wsX0_leastRound RX0 cX0_leastRound 8 (some .int)) (hK : va_K (dC, dI) vwCl (tyA cyI cyB cyJ cyZ) s) (hN : nwA s) (hA : ∀ q : Nat, s.heap.size ≤ q → A q) {post : Int32 → ((Nat → Int32)) → Prop} {g0_rows : Int32} {g0_columns : Int32} {f2 : Nat → Int32} {Q : State → Prop} (hQ : Q = MQ below (va_Qi post (fun u : (Nat → Int32) => wAt dC dI cyI cyB cyJ cyZ A (ceX0_leastRound cyI cyB cyJ cyZ a0 a1 a2 g0_rows g0_columns f2 u)) A) args s 0 0 A) : ∀ (f1 : Nat → Int32) (x1 : Int32) (x2 : Int32) (s0 : Int32), wpX0_leastRound_37 post g0_rows g0_columns f2 f1 x1 x2 s0 → AtW p l e rmX0_leastRound s m args below meth c dC dI A Q 8 0 0 (ceX0_leastRound cyI cyB cyJ cyZ a0 a1 a2 g0_rows g0_columns f2 f1) [(0, .ref a0), (1, .int x1), (2, .int x2)] 37 [.int s0] := by
  intro f1 x1 x2 s0 hw H locs hP hD hS ls hl
  have C1 := C0
  obtain ⟨hx, hb, hr, hml, hown, hts, hlocks⟩ := C1
  refine lv_istore_n (lv' := [(3, .int s0), (0, .ref a0), (1, .int x1), (2, .int x2)]) hx hb dX0_leastRound_37 rfl hl (by decide) rfl (fun ls hl => ?_)
  refine lv_ldc (v := 2147483647) hx hb hown (hts (.constant RX0 44 (2147483647)) (List.mem_of_getElem? (i := 3) rfl)) dX0_leastRound_38 ?_
  refine lv_istore (lv' := [(4, .int 2147483647), (3, .int s0), (0, .ref a0), (1, .int x1), (2, .int x2)]) hx hb dX0_leastRound_40 hl (by decide) rfl (fun ls hl => ?_)
  refine lv_iconst (v := (-1)) hx hb dX0_leastRound_42 (by decide) ?_
  refine lv_istore (lv' := [(5, .int (-1)), (4, .int 2147483647), (3, .int s0), (0, .ref a0), (1, .int x1), (2, .int x2)]) hx hb dX0_leastRound_43 hl (by decide) rfl (fun ls hl => ?_)
  refine lv_iconst (v := 0) hx hb dX0_leastRound_45 (by decide) ?_
  refine lv_istore (lv' := [(6, .int 0), (5, .int (-1)), (4, .int 2147483647), (3, .int s0), (0, .ref a0), (1, .int x1), (2, .int x2)]) hx hb dX0_leastRound_46 hl (by decide) rfl (fun ls hl => ?_)
  obtain ⟨nn, hw⟩ := hw
  exact bX0_leastRound_48 C0 hK hN hA hQ nn f1 x1 x2 s0 2147483647 (-1) 0 hw _ _ hP hD hS ls (lv_sub hl [4, 5, 6, 3, 2, 1, 0] rfl)
set_option maxRecDepth 100000 in
set_option maxHeartbeats 4000000 in
theorem bX0_leastRound_18 {p : Program} {l : Launch} {e : Env} {s : State} {m : MethodId} {args : Array Value} {below : List Frame} {meth : Method} {c : Code} {dC : Nat → ClassId} {dI : Nat → Nat → Nat} {cyI cyB cyJ cyZ : ClassId} {A : Nat → Prop} {a0 a1 a2 : Nat} (C0 : cxM p s m meth c args wsX0_leastRound RX0 cX0_leastRound 8 (some .int)) (hK : va_K (dC, dI) vwCl (tyA cyI cyB cyJ cyZ) s) (hN : nwA s) (hA : ∀ q : Nat, s.heap.size ≤ q → A q) {post : Int32 → ((Nat → Int32)) → Prop} {g0_rows : Int32} {g0_columns : Int32} {f2 : Nat → Int32} {Q : State → Prop} (hQ : Q = MQ below (va_Qi post (fun u : (Nat → Int32) => wAt dC dI cyI cyB cyJ cyZ A (ceX0_leastRound cyI cyB cyJ cyZ a0 a1 a2 g0_rows g0_columns f2 u)) A) args s 0 0 A) : ∀ (f1 : Nat → Int32) (x1 : Int32) (s0 : Int32), wpX0_leastRound_18 post g0_rows g0_columns f2 f1 x1 s0 → AtW p l e rmX0_leastRound s m args below meth c dC dI A Q 8 0 0 (ceX0_leastRound cyI cyB cyJ cyZ a0 a1 a2 g0_rows g0_columns f2 f1) [(0, .ref a0), (1, .int x1)] 18 [.int s0] := by
  intro f1 x1 s0 hw H locs hP hD hS ls hl
  have C1 := C0
  obtain ⟨hx, hb, hr, hml, hown, hts, hlocks⟩ := C1
  refine lv_istore_n (lv' := [(2, .int s0), (0, .ref a0), (1, .int x1)]) hx hb dX0_leastRound_18 rfl hl (by decide) rfl (fun ls hl => ?_)
  refine lv_aload_n hx hb dX0_leastRound_19 rfl (lv_at hl 1 rfl) ?_
  refine va_get (D := (dC, dI)) (ci := 0) (v := .int g0_columns) (C := RX0) (T := TX0) (N := 4) hx hb hts inX0_leastRound_X0 hown hK hP 0 rfl rfl 3 (by decide) (hts (.fieldLink RX0 22 "LeadPark$Grid" "columns" "I") (List.mem_of_getElem? (i := 2) rfl)) (fun _ h9 => h9) rfl dX0_leastRound_20 ?_
  refine lv_iconst (v := 1) hx hb dX0_leastRound_23 (by decide) ?_
  refine lv_icmp_ne (tgt := 31) hx hb dX0_leastRound_24 (by decide) (fun hc => ?_) (fun hc => ?_)
  · have hw := hw.1 hc
    refine lv_aload_n hx hb dX0_leastRound_31 rfl (lv_at hl 1 rfl) ?_
    refine va_get (D := (dC, dI)) (ci := 0) (v := .int g0_columns) (C := RX0) (T := TX0) (N := 4) hx hb hts inX0_leastRound_X0 hown hK hP 0 rfl rfl 3 (by decide) (hts (.fieldLink RX0 22 "LeadPark$Grid" "columns" "I") (List.mem_of_getElem? (i := 2) rfl)) (fun _ h9 => h9) rfl dX0_leastRound_32 ?_
    refine lv_iconst (v := 1) hx hb dX0_leastRound_35 (by decide) ?_
    refine lv_iadd hx hb dX0_leastRound_36 ?_
    exact bX0_leastRound_37 C0 hK hN hA hQ f1 x1 s0 (g0_columns + 1) hw _ _ hP hD hS ls (lv_sub hl [1, 2, 0] rfl)
  · have hw := hw.2 hc
    refine lv_iconst (v := 1) hx hb dX0_leastRound_27 (by decide) ?_
    refine lv_goto (tgt := 37) hx hb dX0_leastRound_28 (by decide) ?_
    exact bX0_leastRound_37 C0 hK hN hA hQ f1 x1 s0 1 hw _ _ hP hD hS ls (lv_sub hl [1, 2, 0] rfl)
set_option maxRecDepth 100000 in
set_option maxHeartbeats 4000000 in
theorem ctX0_leastRound (l : Launch) (dC : Nat → ClassId) (dI : Nat → Nat → Nat) (cyI cyB cyJ cyZ : ClassId) (sz : Nat) (a0 a1 a2 : Nat) (g0_rows : Int32) (g0_columns : Int32) (f2 : Nat → Int32) (f1 : Nat → Int32) (p0 : Int32) (post : Int32 → ((Nat → Int32)) → Prop) (hw : wpX0_leastRound post g0_rows g0_columns f2 f1 p0) : Met l yX0_leastRound wsX0_leastRound rmX0_leastRound (va_Pc [.ref a0, .int p0] (wPre dC dI cyI cyB cyJ cyZ sz (ceX0_leastRound cyI cyB cyJ cyZ a0 a1 a2 g0_rows g0_columns f2 f1))) (va_Qi post (fun u : (Nat → Int32) => wAt dC dI cyI cyB cyJ cyZ (va_A (ceX0_leastRound cyI cyB cyJ cyZ a0 a1 a2 g0_rows g0_columns f2 f1) sz) (ceX0_leastRound cyI cyB cyJ cyZ a0 a1 a2 g0_rows g0_columns f2 u)) (va_A (ceX0_leastRound cyI cyB cyJ cyZ a0 a1 a2 g0_rows g0_columns f2 f1) sz)) 0 0 (va_A (ceX0_leastRound cyI cyB cyJ cyZ a0 a1 a2 g0_rows g0_columns f2 f1) sz) := by
  refine Met.ofW (cc := cX0_leastRound) (maxL := 8) (ret := (some .int)) (by decide) rfl ?_
  intro p e s m args below meth c s₁ B hml hv
  obtain ⟨rfl, hsz, hP, hK, hD0, hN⟩ := hv
  have hx := B.exec
  have hb := B.bytes
  have hr := B.returns
  have hts := atoms_spec (ws := wsX0_leastRound) B.pre
  have hown : s.vm.findClass RX0 = some m.cls := findClass_of_methodNamed B.named
  have hlocks := B.notSynchronized
  subst hsz
  have hD := hD0.self (sz := s.heap.size)
  generalize hAe : va_A (ceX0_leastRound cyI cyB cyJ cyZ a0 a1 a2 g0_rows g0_columns f2 f1) s.heap.size = A at hD ⊢
  have hA : ∀ q : Nat, s.heap.size ≤ q → A q := fun q h => by rw [← hAe]; exact Or.inr h
  have hS : va_S A s.heap s.heap [] := va_S.rf
  have C0 : cxM p s m meth c _ wsX0_leastRound RX0 cX0_leastRound 8 (some .int) := ⟨hx, hb, hr, hml, hown, hts, hlocks⟩
  have hl := lv_entry ([.ref a0, .int p0]) (n := 8) (Nat.le_of_ble_eq_true rfl)
  rw [lg_entry_eq]
  generalize (lg_sl ([.ref a0, .int p0]) ++ List.replicate (8 - (lg_sl ([.ref a0, .int p0])).length) Slot.unset).toArray = ls at hl ⊢
  have hl : lv_has ls 8 [(0, .ref a0), (1, .int p0)] := hl
  show W p l e rmX0_leastRound s m _ below meth c _ _ _ _ _ _
  refine wq (fun Q hQ => ?_)
  refine lv_aload_n hx hb dX0_leastRound_0 rfl (lv_at hl 0 rfl) ?_
  refine va_get (D := (dC, dI)) (ci := 0) (v := .int g0_rows) (C := RX0) (T := TX0) (N := 4) hx hb hts inX0_leastRound_X0 hown hK hP 0 rfl rfl 2 (by decide) (hts (.fieldLink RX0 18 "LeadPark$Grid" "rows" "I") (List.mem_of_getElem? (i := 1) rfl)) (fun _ h9 => h9) rfl dX0_leastRound_1 ?_
  refine lv_iconst (v := 1) hx hb dX0_leastRound_4 (by decide) ?_
  refine lv_icmp_ne (tgt := 12) hx hb dX0_leastRound_5 (by decide) (fun hc => ?_) (fun hc => ?_)
  · have hw := hw.1 hc
    refine lv_aload_n hx hb dX0_leastRound_12 rfl (lv_at hl 0 rfl) ?_
    refine va_get (D := (dC, dI)) (ci := 0) (v := .int g0_rows) (C := RX0) (T := TX0) (N := 4) hx hb hts inX0_leastRound_X0 hown hK hP 0 rfl rfl 2 (by decide) (hts (.fieldLink RX0 18 "LeadPark$Grid" "rows" "I") (List.mem_of_getElem? (i := 1) rfl)) (fun _ h9 => h9) rfl dX0_leastRound_13 ?_
    refine lv_iconst (v := 1) hx hb dX0_leastRound_16 (by decide) ?_
    refine lv_iadd hx hb dX0_leastRound_17 ?_
    exact bX0_leastRound_18 C0 hK hN hA hQ f1 p0 (g0_rows + 1) hw _ _ hP hD hS ls (lv_sub hl [0, 1] rfl)
  · have hw := hw.2 hc
    refine lv_iconst (v := 1) hx hb dX0_leastRound_8 (by decide) ?_
    refine lv_goto (tgt := 18) hx hb dX0_leastRound_9 (by decide) ?_
    exact bX0_leastRound_18 C0 hK hN hA hQ f1 p0 1 hw _ _ hP hD hS ls (lv_sub hl [0, 1] rfl)
