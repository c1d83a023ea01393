/-! LeadPark$Grid.cell (II)I -/

abbrev rmX0_cell : Room := { frames := 0, cells := 0, slots := 0, locals := 0 }
set_option maxRecDepth 100000 in
set_option maxHeartbeats 4000000 in
theorem ctX0_cell (l : Launch) (dC : Nat → ClassId) (dI : Nat → Nat → Nat) (cyI cyB cyJ cyZ : ClassId) (sz : Nat) (p0 : Int32) (p1 : Int32) (post : Int32 → Unit → Prop) (hw : wpX0_cell post p0 p1) : Met l yX0_cell wsX0_cell rmX0_cell (va_Pc [.int p0, .int p1] (wPre dC dI cyI cyB cyJ cyZ sz ([] : va_W))) (va_Qi post (fun u : Unit => wAt dC dI cyI cyB cyJ cyZ (va_A ([] : va_W) sz) ([] : va_W)) (va_A ([] : va_W) sz)) 0 0 (va_A ([] : va_W) sz) := by
  refine Met.ofW (cc := cX0_cell) (maxL := 2) (ret := (some .int)) (by decide) rfl ?_
  intro p e s m args below meth c s₁ B hml hv
  obtain ⟨rfl, hsz, hP, hK, hD0, hN⟩ := hv
  have hx := B.exec
  have hb := B.bytes
  have hr := B.returns
  have hts := atoms_spec (ws := wsX0_cell) B.pre
  have hown : s.vm.findClass RX0 = some m.cls := findClass_of_methodNamed B.named
  have hlocks := B.notSynchronized
  subst hsz
  have hD := hD0.self (sz := s.heap.size)
  generalize hAe : va_A ([] : va_W) s.heap.size = A at hD ⊢
  have hA : ∀ q : Nat, s.heap.size ≤ q → A q := fun q h => by rw [← hAe]; exact Or.inr h
  have hS : va_S A s.heap s.heap [] := va_S.rf
  have C0 : cxM p s m meth c _ wsX0_cell RX0 cX0_cell 2 (some .int) := ⟨hx, hb, hr, hml, hown, hts, hlocks⟩
  have hl := lv_entry ([.int p0, .int p1]) (n := 2) (Nat.le_of_ble_eq_true rfl)
  rw [lg_entry_eq]
  generalize (lg_sl ([.int p0, .int p1]) ++ List.replicate (2 - (lg_sl ([.int p0, .int p1])).length) Slot.unset).toArray = ls at hl ⊢
  have hl : lv_has ls 2 [(0, .int p0), (1, .int p1)] := hl
  show W p l e rmX0_cell s m _ below meth c _ _ _ _ _ _
  refine wq (fun Q hQ => ?_)
  refine lv_iload_n hx hb dX0_cell_0 rfl (lv_at hl 0 rfl) ?_
  refine lv_iconst (v := 1) hx hb dX0_cell_1 (by decide) ?_
  refine lv_iadd hx hb dX0_cell_2 ?_
  refine lv_bipush (v := 33) hx hb dX0_cell_3 (by decide) ?_
  refine lv_imul hx hb dX0_cell_5 ?_
  refine lv_iload_n hx hb dX0_cell_6 rfl (lv_at hl 1 rfl) ?_
  refine lv_iadd hx hb dX0_cell_7 ?_
  refine lv_iconst (v := 1) hx hb dX0_cell_8 (by decide) ?_
  refine lv_iadd hx hb dX0_cell_9 ?_
  rw [hQ]
  exact W.iret (v := (((p0 + 1) * 33) + p1) + 1) hx hb hr (fun t ht hW => ⟨⟨(((p0 + 1) * 33) + p1) + 1, (), rfl, hw, by rw [ht]; exact hP, va_K.moved hW.alike hK, hD⟩, hS.F ht⟩) hS.2.2 dX0_cell_10
/-! LeadPark$Grid.lay (LLeadPark$Scene;II)V -/
abbrev ceX0_lay (cyI cyB cyJ cyZ : ClassId) (a0 a1 a2 a3 a4 a5 a6 a7 a8 a9 a10 b0_best b2_marks b2_stroll : Nat) (g2_drawSeed : Int32) (g3_ways : Int32) (g3_texts : Int32) (g8_lines : Int32) (g3_wallCount : Int32) (f4 : Nat → Int32) (f5 : Nat → Int32) (f6 : Nat → Int32) (f7 : Nat → Int32) (g8_size : Int32) (f10 : Nat → Int32) (g0_rows : Int32) (g0_columns : Int32) (f1 : Nat → Int32) (f9 : Nat → Int32) : va_W := [(a0, .inr (0, [.ref a1, .ref b0_best, .int g0_rows, .int g0_columns])), (a1, .inl (cyI, 1089, .inl f1)), (a2, .inr (6, [.ref a3, .ref a8, .ref b2_marks, .ref b2_stroll, .int g2_drawSeed])), (a3, .inr (1, [.ref a5, .ref a6, .ref a4, .ref a7, .int g3_ways, .int g3_wallCount, .int g3_texts])), (a4, .inl (cyI, 12, .inl f4)), (a5, .inl (cyI, 360, .inl f5)), (a6, .inl (cyI, 360, .inl f6)), (a7, .inl (cyI, 32, .inl f7)), (a8, .inr (2, [.ref a10, .ref a9, .int g8_size, .int g8_lines])), (a9, .inl (cyI, 7, .inl f9)), (a10, .inl (cyI, 400, .inl f10))]

theorem inX0_lay_X0 : ∀ w ∈ wsX00, w ∈ wsX0_lay := fun _ h => List.mem_cons_of_mem _ (List.mem_append_left _ (List.mem_append_right _ h))
theorem inX0_lay_X1 : ∀ w ∈ wsX10, w ∈ wsX0_lay := fun _ h => List.mem_cons_of_mem _ (List.mem_append_left _ (List.mem_append_left _ (List.mem_append_right _ h)))
theorem inX0_lay_X6 : ∀ w ∈ wsX60, w ∈ wsX0_lay := fun _ h => List.mem_cons_of_mem _ (List.mem_append_left _ (List.mem_append_left _ (List.mem_append_left _ (List.mem_append_right _ h))))
abbrev rmX0_lay : Room := { frames := 4, cells := 0, slots := 0, locals := 128 }
set_option maxRecDepth 100000 in
set_option maxHeartbeats 4000000 in
theorem bX0_lay_92 {p : Program} {l : Launch} {e : Env} {s : State} {m : MethodId} {args : Array Value} {below : List Frame} {meth : Method} {c : Code} {dC : Nat → ClassId} {dI : Nat → Nat → Nat} {cyI cyB cyJ cyZ : ClassId} {A : Nat → Prop} {a0 a1 a2 a3 a4 a5 a6 a7 a8 a9 a10 b0_best b2_marks b2_stroll : Nat} {g2_drawSeed : Int32} {g3_ways : Int32} {g3_texts : Int32} {g8_lines : Int32} (C0 : cxM p s m meth c args wsX0_lay RX0 cX0_lay 6 none) (hK : va_K (dC, dI) vwCl (tyA cyI cyB cyJ cyZ) s) (hN : nwA s) (hA : ∀ q : Nat, s.heap.size ≤ q → A q) {post : (Int32 × Int32 × (Nat → Int32) × (Nat → Int32)) → Prop} {g3_wallCount : Int32} {f4 : Nat → Int32} {f5 : Nat → Int32} {f6 : Nat → Int32} {f7 : Nat → Int32} {g8_size : Int32} {f10 : Nat → Int32} {k41 : Int32 → Int32 → (Nat → Int32) → (Nat → Int32) → Int32 → Int32 → Int32 → Int32 → Prop} {k29 : Int32 → Int32 → (Nat → Int32) → (Nat → Int32) → Int32 → Int32 → Int32 → Prop} {Q : State → Prop} (hQ : Q = MQ below (va_Qv post (fun u : Int32 × Int32 × (Nat → Int32) × (Nat → Int32) => wAt dC dI cyI cyB cyJ cyZ A (ceX0_lay cyI cyB cyJ cyZ a0 a1 a2 a3 a4 a5 a6 a7 a8 a9 a10 b0_best b2_marks b2_stroll g2_drawSeed g3_ways g3_texts g8_lines g3_wallCount f4 f5 f6 f7 g8_size f10 u.1 u.2.1 u.2.2.1 u.2.2.2)) A) args s 0 0 A) (hk41 : ∀ (g0_rows : Int32) (g0_columns : Int32) (f1 : Nat → Int32) (f9 : Nat → Int32) (x2 : Int32) (x3 : Int32) (x4 : Int32) (x5 : Int32), k41 g0_rows g0_columns f1 f9 x2 x3 x4 x5 → AtW p l e rmX0_lay s m args below meth c dC dI A Q 6 0 0 (ceX0_lay cyI cyB cyJ cyZ a0 a1 a2 a3 a4 a5 a6 a7 a8 a9 a10 b0_best b2_marks b2_stroll g2_drawSeed g3_ways g3_texts g8_lines g3_wallCount f4 f5 f6 f7 g8_size f10 g0_rows g0_columns f1 f9) [(0, .ref a0), (1, .ref a2), (2, .int x2), (3, .int x3), (4, .int x4), (5, .int x5)] 41 []) (hk29 : ∀ (g0_rows : Int32) (g0_columns : Int32) (f1 : Nat → Int32) (f9 : Nat → Int32) (x2 : Int32) (x3 : Int32) (x4 : Int32), k29 g0_rows g0_columns f1 f9 x2 x3 x4 → AtW p l e rmX0_lay s m args below meth c dC dI A Q 6 0 0 (ceX0_lay cyI cyB cyJ cyZ a0 a1 a2 a3 a4 a5 a6 a7 a8 a9 a10 b0_best b2_marks b2_stroll g2_drawSeed g3_ways g3_texts g8_lines g3_wallCount f4 f5 f6 f7 g8_size f10 g0_rows g0_columns f1 f9) [(0, .ref a0), (1, .ref a2), (2, .int x2), (3, .int x3), (4, .int x4)] 29 []) : ∀ (g0_rows : Int32) (g0_columns : Int32) (f1 : Nat → Int32) (f9 : Nat → Int32) (x2 : Int32) (x3 : Int32) (x4 : Int32) (x5 : Int32) (s1 : Int32) (s2 : Int32), wpX0_lay_92 k41 k29 post g3_wallCount f4 f5 f6 f7 g8_size f10 g0_rows g0_columns f1 f9 x2 x3 x4 x5 s1 s2 → AtW p l e rmX0_lay s m args below meth c dC dI A Q 6 0 0 (ceX0_lay cyI cyB cyJ cyZ a0 a1 a2 a3 a4 a5 a6 a7 a8 a9 a10 b0_best b2_marks b2_stroll g2_drawSeed g3_ways g3_texts g8_lines g3_wallCount f4 f5 f6 f7 g8_size f10 g0_rows g0_columns f1 f9) [(0, .ref a0), (1, .ref a2), (2, .int x2), (3, .int x3), (4, .int x4), (5, .int x5)] 92 [.int s2, .int s1, .ref a1] := by
  intro g0_rows g0_columns f1 f9 x2 x3 x4 x5 s1 s2 hw H locs hP hD hS ls hl
  have C1 := C0
  obtain ⟨hx, hb, hr, hml, hown, hts, hlocks⟩ := C1
  obtain ⟨hi, hw⟩ := hw
  refine va_iast hx hb hK hP hD hS 1 0 rfl rfl hi dX0_lay_92 (fun H locs hP hD hS => ?_)
  have hP : va_P (dC, dI) vwCl (ceX0_lay cyI cyB cyJ cyZ a0 a1 a2 a3 a4 a5 a6 a7 a8 a9 a10 b0_best b2_marks b2_stroll g2_drawSeed g3_ways g3_texts g8_lines g3_wallCount f4 f5 f6 f7 g8_size f10 g0_rows g0_columns (upd f1 s1.toNatClampNeg s2) f9) H := hP
  have hD : va_D A (ceX0_lay cyI cyB cyJ cyZ a0 a1 a2 a3 a4 a5 a6 a7 a8 a9 a10 b0_best b2_marks b2_stroll g2_drawSeed g3_ways g3_texts g8_lines g3_wallCount f4 f5 f6 f7 g8_size f10 g0_rows g0_columns (upd f1 s1.toNatClampNeg s2) f9) := hD
  obtain ⟨v1, ev1⟩ : ∃ y : Int32, y = x5 + 1 := ⟨_, rfl⟩
  have hw := hw v1 ev1
  refine lv_iinc (v := v1) (lv' := [(5, .int v1), (0, .ref a0), (1, .ref a2), (2, .int x2), (3, .int x3), (4, .int x4)]) hx hb dX0_lay_93 hl (k := 5) rfl (by rw [ev1]; rfl) (by decide) rfl (fun ls hl => ?_)
  refine lv_goto (tgt := 41) hx hb dX0_lay_96 (by decide) ?_
  exact hk41 g0_rows g0_columns (upd f1 s1.toNatClampNeg s2) f9 x2 x3 x4 v1 hw H locs hP hD hS ls (lv_sub hl [1, 2, 3, 4, 5, 0] rfl)
set_option maxRecDepth 100000 in
set_option maxHeartbeats 4000000 in
theorem bX0_lay_41 {p : Program} {l : Launch} {e : Env} {s : State} {m : MethodId} {args : Array Value} {below : List Frame} {meth : Method} {c : Code} {dC : Nat → ClassId} {dI : Nat → Nat → Nat} {cyI cyB cyJ cyZ : ClassId} {A : Nat → Prop} {a0 a1 a2 a3 a4 a5 a6 a7 a8 a9 a10 b0_best b2_marks b2_stroll : Nat} {g2_drawSeed : Int32} {g3_ways : Int32} {g3_texts : Int32} {g8_lines : Int32} (C0 : cxM p s m meth c args wsX0_lay RX0 cX0_lay 6 none) (hK : va_K (dC, dI) vwCl (tyA cyI cyB cyJ cyZ) s) (hN : nwA s) (hA : ∀ q : Nat, s.heap.size ≤ q → A q) {post : (Int32 × Int32 × (Nat → Int32) × (Nat → Int32)) → Prop} {g3_wallCount : Int32} {f4 : Nat → Int32} {f5 : Nat → Int32} {f6 : Nat → Int32} {f7 : Nat → Int32} {g8_size : Int32} {f10 : Nat → Int32} {k29 : Int32 → Int32 → (Nat → Int32) → (Nat → Int32) → Int32 → Int32 → Int32 → Prop} {Q : State → Prop} (hQ : Q = MQ below (va_Qv post (fun u : Int32 × Int32 × (Nat → Int32) × (Nat → Int32) => wAt dC dI cyI cyB cyJ cyZ A (ceX0_lay cyI cyB cyJ cyZ a0 a1 a2 a3 a4 a5 a6 a7 a8 a9 a10 b0_best b2_marks b2_stroll g2_drawSeed g3_ways g3_texts g8_lines g3_wallCount f4 f5 f6 f7 g8_size f10 u.1 u.2.1 u.2.2.1 u.2.2.2)) A) args s 0 0 A) (hk29 : ∀ (g0_rows : Int32) (g0_columns : Int32) (f1 : Nat → Int32) (f9 : Nat → Int32) (x2 : Int32) (x3 : Int32) (x4 : Int32), k29 g0_rows g0_columns f1 f9 x2 x3 x4 → AtW p l e rmX0_lay s m args below meth c dC dI A Q 6 0 0 (ceX0_lay cyI cyB cyJ cyZ a0 a1 a2 a3 a4 a5 a6 a7 a8 a9 a10 b0_best b2_marks b2_stroll g2_drawSeed g3_ways g3_texts g8_lines g3_wallCount f4 f5 f6 f7 g8_size f10 g0_rows g0_columns f1 f9) [(0, .ref a0), (1, .ref a2), (2, .int x2), (3, .int x3), (4, .int x4)] 29 []) : ∀ (n : Nat) (g0_rows : Int32) (g0_columns : Int32) (f1 : Nat → Int32) (f9 : Nat → Int32) (x2 : Int32) (x3 : Int32) (x4 : Int32) (x5 : Int32), wpX0_lay_41 k29 post g3_wallCount f4 f5 f6 f7 g8_size f10 n g0_rows g0_columns f1 f9 x2 x3 x4 x5 → AtW p l e rmX0_lay s m args below meth c dC dI A Q 6 0 0 (ceX0_lay cyI cyB cyJ cyZ a0 a1 a2 a3 a4 a5 a6 a7 a8 a9 a10 b0_best b2_marks b2_stroll g2_drawSeed g3_ways g3_texts g8_lines g3_wallCount f4 f5 f6 f7 g8_size f10 g0_rows g0_columns f1 f9) [(0, .ref a0), (1, .ref a2), (2, .int x2), (3, .int x3), (4, .int x4), (5, .int x5)] 41 [] := by
  intro n
  induction n with
  | zero => intro g0_rows g0_columns f1 f9 x2 x3 x4 x5 hw; exact False.elim hw
  | succ n ih =>
    intro g0_rows g0_columns f1 f9 x2 x3 x4 x5 hw H locs hP hD hS ls hl
    have C1 := C0
    obtain ⟨hx, hb, hr, hml, hown, hts, hlocks⟩ := C1
    refine lv_iload hx hb dX0_lay_41 (lv_at hl 5 rfl) ?_
    refine lv_aload_n hx hb dX0_lay_43 rfl (lv_at hl 0 rfl) ?_
    refine va_get (D := (dC, dI)) (ci := 0) (v := .int g0_columns) (C := RX0) (T := TX0) (N := 4) hx hb hts inX0_lay_X0 hown hK hP 0 rfl rfl 3 (by decide) (hts (.fieldLink RX0 22 "LeadPark$Grid" "columns" "I") (List.mem_of_getElem? (i := 2) rfl)) (fun _ h9 => h9) rfl dX0_lay_44 ?_
    refine lv_icmp_ge (tgt := 99) hx hb dX0_lay_47 (by decide) (fun hc => ?_) (fun hc => ?_)
    · have hw := hw.1 hc
      obtain ⟨v1, ev1⟩ : ∃ y : Int32, y = x4 + 1 := ⟨_, rfl⟩
      have hw := hw v1 ev1
      refine lv_iinc (v := v1) (lv' := [(4, .int v1), (0, .ref a0), (1, .ref a2), (2, .int x2), (3, .int x3), (5, .int x5)]) hx hb dX0_lay_99 hl (k := 4) rfl (by rw [ev1]; rfl) (by decide) rfl (fun ls hl => ?_)
      refine lv_goto (tgt := 29) hx hb dX0_lay_102 (by decide) ?_
      exact hk29 g0_rows g0_columns f1 f9 x2 x3 v1 hw H locs hP hD hS ls (lv_sub hl [1, 2, 3, 4, 0] rfl)
    · have hw := hw.2 hc
      refine lv_aload_n hx hb dX0_lay_50 rfl (lv_at hl 0 rfl) ?_
      refine va_get (D := (dC, dI)) (ci := 0) (v := .ref a1) (C := RX0) (T := TX0) (N := 4) hx hb hts inX0_lay_X0 hown hK hP 0 rfl rfl 0 (by decide) (hts (.fieldLink RX0 11 "LeadPark$Grid" "prices" "[I") (List.mem_of_getElem? (i := 3) rfl)) (fun _ h9 => h9) rfl dX0_lay_51 ?_
      refine lv_iload hx hb dX0_lay_54 (lv_at hl 4 rfl) ?_
      refine lv_iload hx hb dX0_lay_56 (lv_at hl 5 rfl) ?_
      have hPc := hP.sub (ws' := ([] : va_W)) [] rfl
      have hDc := hD.sub (ws' := ([] : va_W)) [] (by decide) rfl
      have hFc := va_free (wc := ([] : va_W)) hD hS hA [] rfl
      refine va_calli (va_runS (As := [.int x4, .int x5]) (rest := [.ref a1]) ⟨hx, hb, hml, hown, hts⟩ (ctX0_cell l dC dI cyI cyB cyJ cyZ _ x4 x5 _ hw) (va_cwS 2 hts gX0_lay_X0_cell rfl rfl rfl (by decide +kernel) ⟨Nat.le_of_ble_eq_true rfl, Nat.le_of_ble_eq_true rfl⟩) ⟨wPre_blind, fun U hU hW => wPre_of hPc hK hDc hN hU hW⟩ rfl rfl hl.1 rfl (lv_room (Nat.le_of_ble_eq_true rfl)) dX0_lay_58 ⟨(Nat.zero_le _), (Nat.zero_le _)⟩) hS (fun q _ h => hFc q h) hFc (fun r3 u2 t H1 locs ht hvm hw hB hz1 hk1 hS => ?_)
      obtain ⟨hP1, hK1, hD1⟩ := hB
      rw [ht] at hP1
      obtain ⟨hP, hD⟩ := va_join (wr := pickW (ceX0_lay cyI cyB cyJ cyZ a0 a1 a2 a3 a4 a5 a6 a7 a8 a9 a10 b0_best b2_marks b2_stroll g2_drawSeed g3_ways g3_texts g8_lines g3_wallCount f4 f5 f6 f7 g8_size f10 g0_rows g0_columns f1 f9) [0, 1, 2, 3, 4, 5, 6, 7, 8, 9, 10]) (w1 := ([] : va_W)) hP hD [] [0, 1, 2, 3, 4, 5, 6, 7, 8, 9, 10] rfl rfl (by decide) (by decide) hk1 hFc hP1 hD1
      have hP := hP.sub (ws' := (ceX0_lay cyI cyB cyJ cyZ a0 a1 a2 a3 a4 a5 a6 a7 a8 a9 a10 b0_best b2_marks b2_stroll g2_drawSeed g3_ways g3_texts g8_lines g3_wallCount f4 f5 f6 f7 g8_size f10 g0_rows g0_columns f1 f9)) [0, 1, 2, 3, 4, 5, 6, 7, 8, 9, 10] rfl
      have hD := hD.sub (ws' := (ceX0_lay cyI cyB cyJ cyZ a0 a1 a2 a3 a4 a5 a6 a7 a8 a9 a10 b0_best b2_marks b2_stroll g2_drawSeed g3_ways g3_texts g8_lines g3_wallCount f4 f5 f6 f7 g8_size f10 g0_rows g0_columns f1 f9)) [0, 1, 2, 3, 4, 5, 6, 7, 8, 9, 10] (by decide) rfl
      generalize H1 = H at hP hS ⊢
      refine lv_aload_n hx hb dX0_lay_61 rfl (lv_at hl 1 rfl) ?_
      refine lv_iload_n hx hb dX0_lay_62 rfl (lv_at hl 2 rfl) ?_
      refine lv_iload hx hb dX0_lay_63 (lv_at hl 4 rfl) ?_
      refine lv_iload_n hx hb dX0_lay_65 rfl (lv_at hl 3 rfl) ?_
      refine lv_iload hx hb dX0_lay_66 (lv_at hl 5 rfl) ?_
      have hPc := hP.sub (ws' := (ceX6_isShut cyI cyB cyJ cyZ a2 a3 a5 a6 a7 a8 a9 a10 b2_marks b2_stroll a4 g2_drawSeed g3_ways g3_texts g8_lines g3_wallCount f5 f6 f7 g8_size f10 f9)) [2, 3, 5, 6, 7, 8, 9, 10] rfl
      have hDc := hD.sub (ws' := (ceX6_isShut cyI cyB cyJ cyZ a2 a3 a5 a6 a7 a8 a9 a10 b2_marks b2_stroll a4 g2_drawSeed g3_ways g3_texts g8_lines g3_wallCount f5 f6 f7 g8_size f10 f9)) [2, 3, 5, 6, 7, 8, 9, 10] (by decide) rfl
      have hFc := va_free (wc := (ceX6_isShut cyI cyB cyJ cyZ a2 a3 a5 a6 a7 a8 a9 a10 b2_marks b2_stroll a4 g2_drawSeed g3_ways g3_texts g8_lines g3_wallCount f5 f6 f7 g8_size f10 f9)) hD hS hA [2, 3, 5, 6, 7, 8, 9, 10] rfl
      refine va_calli (va_runV (As := [.int x2, .int x4, .int x3, .int x5]) (rest := [.int r3, .ref a1]) ⟨hx, hb, hml, hown, hts⟩ (ctX6_isShut l dC dI cyI cyB cyJ cyZ _ a2 a3 a5 a6 a7 a8 a9 a10 b2_marks b2_stroll a4 g2_drawSeed g3_ways g3_texts g8_lines g3_wallCount f5 f6 f7 g8_size f10 f9 x2 x4 x3 x5 _ hw) (cwV 4 hts gX0_lay_X6_isShut rfl rfl rfl (by decide +kernel) ⟨Nat.le_of_ble_eq_true rfl, Nat.le_of_ble_eq_true rfl⟩) ⟨wPre_blind, va_recv hK hPc (ci := 6) (q0 := 0) rfl rfl, fun U hU hW => wPre_of hPc hK hDc hN hU hW⟩ rfl rfl hl.1 rfl (lv_room (Nat.le_of_ble_eq_true rfl)) dX0_lay_68 ⟨(Nat.zero_le _), (Nat.zero_le _)⟩) hS (fun q _ h => hFc q h) hFc (fun r5 u4 t H1 locs ht hvm hw hB hz1 hk1 hS => ?_)
      obtain ⟨hP1, hK1, hD1⟩ := hB
      rw [ht] at hP1
      obtain ⟨hP, hD⟩ := va_join (wr := pickW (ceX0_lay cyI cyB cyJ cyZ a0 a1 a2 a3 a4 a5 a6 a7 a8 a9 a10 b0_best b2_marks b2_stroll g2_drawSeed g3_ways g3_texts g8_lines g3_wallCount f4 f5 f6 f7 g8_size f10 g0_rows g0_columns f1 f9) [0, 1, 4]) (w1 := (ceX6_isShut cyI cyB cyJ cyZ a2 a3 a5 a6 a7 a8 a9 a10 b2_marks b2_stroll a4 g2_drawSeed g3_ways g3_texts g8_lines g3_wallCount f5 f6 f7 g8_size f10 u4)) hP hD [2, 3, 5, 6, 7, 8, 9, 10] [0, 1, 4] rfl rfl (by decide) (by decide) hk1 hFc hP1 hD1
      have hP := hP.sub (ws' := (ceX0_lay cyI cyB cyJ cyZ a0 a1 a2 a3 a4 a5 a6 a7 a8 a9 a10 b0_best b2_marks b2_stroll g2_drawSeed g3_ways g3_texts g8_lines g3_wallCount f4 f5 f6 f7 g8_size f10 g0_rows g0_columns f1 u4)) [0, 1, 3, 4, 2, 5, 6, 7, 8, 9, 10] rfl
      have hD := hD.sub (ws' := (ceX0_lay cyI cyB cyJ cyZ a0 a1 a2 a3 a4 a5 a6 a7 a8 a9 a10 b0_best b2_marks b2_stroll g2_drawSeed g3_ways g3_texts g8_lines g3_wallCount f4 f5 f6 f7 g8_size f10 g0_rows g0_columns f1 u4)) [0, 1, 3, 4, 2, 5, 6, 7, 8, 9, 10] (by decide) rfl
      generalize H1 = H at hP hS ⊢
      refine lv_if_eq (tgt := 79) hx hb dX0_lay_71 (by decide) (fun hc => ?_) (fun hc => ?_)
      · have hw := hw.1 hc
        refine lv_aload_n hx hb dX0_lay_79 rfl (lv_at hl 1 rfl) ?_
        refine va_getN (D := (dC, dI)) (ci := 6) (v := .ref a3) (C := RX6) (T := TX6) (N := 5) hx hb hts inX0_lay_X6 hown hK hP 2 rfl rfl 0 (by decide) (va_Nw.use rfl (hN _ (List.mem_of_getElem? (i := 28) rfl))) (fun _ h9 => h9) rfl dX0_lay_80 ?_
        refine lv_iload_n hx hb dX0_lay_83 rfl (lv_at hl 2 rfl) ?_
        refine lv_iload hx hb dX0_lay_84 (lv_at hl 4 rfl) ?_
        refine lv_iload_n hx hb dX0_lay_86 rfl (lv_at hl 3 rfl) ?_
        refine lv_iload hx hb dX0_lay_87 (lv_at hl 5 rfl) ?_
        have hPc := hP.sub (ws' := (ceX1_distance cyI cyB cyJ cyZ a3 a5 a6 a4 a7 g3_ways g3_wallCount g3_texts f5 f6)) [3, 5, 6] rfl
        have hDc := hD.sub (ws' := (ceX1_distance cyI cyB cyJ cyZ a3 a5 a6 a4 a7 g3_ways g3_wallCount g3_texts f5 f6)) [3, 5, 6] (by decide) rfl
        have hFc := va_free (wc := (ceX1_distance cyI cyB cyJ cyZ a3 a5 a6 a4 a7 g3_ways g3_wallCount g3_texts f5 f6)) hD hS hA [3, 5, 6] rfl
        refine va_calli (va_runV (As := [.int x2, .int x4, .int x3, .int x5]) (rest := [.int r3, .ref a1]) ⟨hx, hb, hml, hown, hts⟩ (ctX1_distance l dC dI cyI cyB cyJ cyZ _ a3 a5 a6 a4 a7 g3_ways g3_wallCount g3_texts f5 f6 x2 x4 x3 x5 _ hw) (cwV 4 hts gX0_lay_X1_distance rfl rfl rfl (by decide +kernel) ⟨Nat.le_of_ble_eq_true rfl, Nat.le_of_ble_eq_true rfl⟩) ⟨wPre_blind, va_recv hK hPc (ci := 1) (q0 := 0) rfl rfl, fun U hU hW => wPre_of hPc hK hDc hN hU hW⟩ rfl rfl hl.1 rfl (lv_room (Nat.le_of_ble_eq_true rfl)) dX0_lay_89 ⟨(Nat.zero_le _), (Nat.zero_le _)⟩) hS (fun q _ h => hFc q h) hFc (fun r7 u6 t H1 locs ht hvm hw hB hz1 hk1 hS => ?_)
        obtain ⟨hP1, hK1, hD1⟩ := hB
        rw [ht] at hP1
        obtain ⟨hP, hD⟩ := va_join (wr := pickW (ceX0_lay cyI cyB cyJ cyZ a0 a1 a2 a3 a4 a5 a6 a7 a8 a9 a10 b0_best b2_marks b2_stroll g2_drawSeed g3_ways g3_texts g8_lines g3_wallCount f4 f5 f6 f7 g8_size f10 g0_rows g0_columns f1 u4) [0, 1, 2, 4, 7, 8, 9, 10]) (w1 := (ceX1_distance cyI cyB cyJ cyZ a3 a5 a6 a4 a7 g3_ways g3_wallCount g3_texts f5 f6)) hP hD [3, 5, 6] [0, 1, 2, 4, 7, 8, 9, 10] rfl rfl (by decide) (by decide) hk1 hFc hP1 hD1
        have hP := hP.sub (ws' := (ceX0_lay cyI cyB cyJ cyZ a0 a1 a2 a3 a4 a5 a6 a7 a8 a9 a10 b0_best b2_marks b2_stroll g2_drawSeed g3_ways g3_texts g8_lines g3_wallCount f4 f5 f6 f7 g8_size f10 g0_rows g0_columns f1 u4)) [0, 1, 2, 8, 3, 9, 10, 4, 5, 6, 7] rfl
        have hD := hD.sub (ws' := (ceX0_lay cyI cyB cyJ cyZ a0 a1 a2 a3 a4 a5 a6 a7 a8 a9 a10 b0_best b2_marks b2_stroll g2_drawSeed g3_ways g3_texts g8_lines g3_wallCount f4 f5 f6 f7 g8_size f10 g0_rows g0_columns f1 u4)) [0, 1, 2, 8, 3, 9, 10, 4, 5, 6, 7] (by decide) rfl
        generalize H1 = H at hP hS ⊢
        exact bX0_lay_92 C0 hK hN hA hQ ih hk29 g0_rows g0_columns f1 u4 x2 x3 x4 x5 r3 r7 hw _ _ hP hD hS ls (lv_sub hl [0, 1, 2, 3, 4, 5] rfl)
      · have hw := hw.2 hc
        refine lv_ldc (v := 2147483647) hx hb hown (hts (.constant RX0 44 (2147483647)) (List.mem_of_getElem? (i := 4) rfl)) dX0_lay_74 ?_
        refine lv_goto (tgt := 92) hx hb dX0_lay_76 (by decide) ?_
        exact bX0_lay_92 C0 hK hN hA hQ ih hk29 g0_rows g0_columns f1 u4 x2 x3 x4 x5 r3 2147483647 hw _ _ hP hD hS ls (lv_sub hl [0, 1, 2, 3, 4, 5] rfl)
set_option maxRecDepth 100000 in
set_option maxHeartbeats 4000000 in
theorem bX0_lay_29 {p : Program} {l : Launch} {e : Env} {s : State} {m : MethodId} {args : Array Value} {below : List Frame} {meth : Method} {c : Code} {dC : Nat → ClassId} {dI : Nat → Nat → Nat} {cyI cyB cyJ cyZ : ClassId} {A : Nat → Prop} {a0 a1 a2 a3 a4 a5 a6 a7 a8 a9 a10 b0_best b2_marks b2_stroll : Nat} {g2_drawSeed : Int32} {g3_ways : Int32} {g3_texts : Int32} {g8_lines : Int32} (C0 : cxM p s m meth c args wsX0_lay RX0 cX0_lay 6 none) (hK : va_K (dC, dI) vwCl (tyA cyI cyB cyJ cyZ) s) (hN : nwA s) (hA : ∀ q : Nat, s.heap.size ≤ q → A q) {post : (Int32 × Int32 × (Nat → Int32) × (Nat → Int32)) → Prop} {g3_wallCount : Int32} {f4 : Nat → Int32} {f5 : Nat → Int32} {f6 : Nat → Int32} {f7 : Nat → Int32} {g8_size : Int32} {f10 : Nat → Int32} {Q : State → Prop} (hQ : Q = MQ below (va_Qv post (fun u : Int32 × Int32 × (Nat → Int32) × (Nat → Int32) => wAt dC dI cyI cyB cyJ cyZ A (ceX0_lay cyI cyB cyJ cyZ a0 a1 a2 a3 a4 a5 a6 a7 a8 a9 a10 b0_best b2_marks b2_stroll g2_drawSeed g3_ways g3_texts g8_lines g3_wallCount f4 f5 f6 f7 g8_size f10 u.1 u.2.1 u.2.2.1 u.2.2.2)) A) args s 0 0 A) : ∀ (n : Nat) (g0_rows : Int32) (g0_columns : Int32) (f1 : Nat → Int32) (f9 : Nat → Int32) (x2 : Int32) (x3 : Int32) (x4 : Int32), wpX0_lay_29 post g3_wallCount f4 f5 f6 f7 g8_size f10 n g0_rows g0_columns f1 f9 x2 x3 x4 → AtW p l e rmX0_lay s m args below meth c dC dI A Q 6 0 0 (ceX0_lay cyI cyB cyJ cyZ a0 a1 a2 a3 a4 a5 a6 a7 a8 a9 a10 b0_best b2_marks b2_stroll g2_drawSeed g3_ways g3_texts g8_lines g3_wallCount f4 f5 f6 f7 g8_size f10 g0_rows g0_columns f1 f9) [(0, .ref a0), (1, .ref a2), (2, .int x2), (3, .int x3), (4, .int x4)] 29 [] := by
  intro n
  induction n with
  | zero => intro g0_rows g0_columns f1 f9 x2 x3 x4 hw; exact False.elim hw
  | succ n ih =>
    intro g0_rows g0_columns f1 f9 x2 x3 x4 hw H locs hP hD hS ls hl
    have C1 := C0
    obtain ⟨hx, hb, hr, hml, hown, hts, hlocks⟩ := C1
    refine lv_iload hx hb dX0_lay_29 (lv_at hl 4 rfl) ?_
    refine lv_aload_n hx hb dX0_lay_31 rfl (lv_at hl 0 rfl) ?_
    refine va_get (D := (dC, dI)) (ci := 0) (v := .int g0_rows) (C := RX0) (T := TX0) (N := 4) hx hb hts inX0_lay_X0 hown hK hP 0 rfl rfl 2 (by decide) (hts (.fieldLink RX0 18 "LeadPark$Grid" "rows" "I") (List.mem_of_getElem? (i := 1) rfl)) (fun _ h9 => h9) rfl dX0_lay_32 ?_
    refine lv_icmp_ge (tgt := 105) hx hb dX0_lay_35 (by decide) (fun hc => ?_) (fun hc => ?_)
    · have hw := hw.1 hc
      rw [hQ]
      exact W.vret hx hb hr (fun t ht hW => ⟨⟨(g0_rows, g0_columns, f1, f9), rfl, hw, by rw [ht]; exact hP, va_K.moved hW.alike hK, hD⟩, hS.F ht⟩) hS.2.2 dX0_lay_105
    · have hw := hw.2 hc
      refine lv_iconst (v := 0) hx hb dX0_lay_38 (by decide) ?_
      refine lv_istore (lv' := [(5, .int 0), (0, .ref a0), (1, .ref a2), (2, .int x2), (3, .int x3), (4, .int x4)]) hx hb dX0_lay_39 hl (by decide) rfl (fun ls hl => ?_)
      obtain ⟨nn, hw⟩ := hw
      exact bX0_lay_41 C0 hK hN hA hQ ih nn g0_rows g0_columns f1 f9 x2 x3 x4 0 hw _ _ hP hD hS ls (lv_sub hl [1, 2, 3, 4, 5, 0] rfl)
set_option maxRecDepth 100000 in
set_option maxHeartbeats 4000000 in
theorem ctX0_lay (l : Launch) (dC : Nat → ClassId) (dI : Nat → Nat → Nat) (cyI cyB cyJ cyZ : ClassId) (sz : Nat) (a0 a1 a2 a3 a4 a5 a6 a7 a8 a9 a10 b0_best b2_marks b2_stroll : Nat) (g2_drawSeed : Int32) (g3_ways : Int32) (g3_texts : Int32) (g8_lines : Int32) (g3_wallCount : Int32) (f4 : Nat → Int32) (f5 : Nat → Int32) (f6 : Nat → Int32) (f7 : Nat → Int32) (g8_size : Int32) (f10 : Nat → Int32) (g0_rows : Int32) (g0_columns : Int32) (f1 : Nat → Int32) (f9 : Nat → Int32) (p1 : Int32) (p2 : Int32) (post : (Int32 × Int32 × (Nat → Int32) × (Nat → Int32)) → Prop) (hw : wpX0_lay post g3_wallCount f4 f5 f6 f7 g8_size f10 g0_rows g0_columns f1 f9 p1 p2) : Met l yX0_lay wsX0_lay rmX0_lay (va_Pc [.ref a0, .ref a2, .int p1, .int p2] (wPre dC dI cyI cyB cyJ cyZ sz (ceX0_lay cyI cyB cyJ cyZ a0 a1 a2 a3 a4 a5 a6 a7 a8 a9 a10 b0_best b2_marks b2_stroll g2_drawSeed g3_ways g3_texts g8_lines g3_wallCount f4 f5 f6 f7 g8_size f10 g0_rows g0_columns f1 f9))) (va_Qv post (fun u : Int32 × Int32 × (Nat → Int32) × (Nat → Int32) => wAt dC dI cyI cyB cyJ cyZ (va_A (ceX0_lay cyI cyB cyJ cyZ a0 a1 a2 a3 a4 a5 a6 a7 a8 a9 a10 b0_best b2_marks b2_stroll g2_drawSeed g3_ways g3_texts g8_lines g3_wallCount f4 f5 f6 f7 g8_size f10 g0_rows g0_columns f1 f9) sz) (ceX0_lay cyI cyB cyJ cyZ a0 a1 a2 a3 a4 a5 a6 a7 a8 a9 a10 b0_best b2_marks b2_stroll g2_drawSeed g3_ways g3_texts g8_lines g3_wallCount f4 f5 f6 f7 g8_size f10 u.1 u.2.1 u.2.2.1 u.2.2.2)) (va_A (ceX0_lay cyI cyB cyJ cyZ a0 a1 a2 a3 a4 a5 a6 a7 a8 a9 a10 b0_best b2_marks b2_stroll g2_drawSeed g3_ways g3_texts g8_lines g3_wallCount f4 f5 f6 f7 g8_size f10 g0_rows g0_columns f1 f9) sz)) 0 0 (va_A (ceX0_lay cyI cyB cyJ cyZ a0 a1 a2 a3 a4 a5 a6 a7 a8 a9 a10 b0_best b2_marks b2_stroll g2_drawSeed g3_ways g3_texts g8_lines g3_wallCount f4 f5 f6 f7 g8_size f10 g0_rows g0_columns f1 f9) sz) := by
  refine Met.ofW (cc := cX0_lay) (maxL := 6) (ret := none) (by decide) rfl ?_
  intro p e s m args below meth c s₁ B hml hv
  obtain ⟨rfl, hsz, hP, hK, hD0, hN⟩ := hv
  have hx := B.exec
  have hb := B.bytes
  have hr := B.returns
  have hts := atoms_spec (ws := wsX0_lay) B.pre
  have hown : s.vm.findClass RX0 = some m.cls := findClass_of_methodNamed B.named
  have hlocks := B.notSynchronized
  subst hsz
  have hD := hD0.self (sz := s.heap.size)
  generalize hAe : va_A (ceX0_lay cyI cyB cyJ cyZ a0 a1 a2 a3 a4 a5 a6 a7 a8 a9 a10 b0_best b2_marks b2_stroll g2_drawSeed g3_ways g3_texts g8_lines g3_wallCount f4 f5 f6 f7 g8_size f10 g0_rows g0_columns f1 f9) s.heap.size = A at hD ⊢
  have hA : ∀ q : Nat, s.heap.size ≤ q → A q := fun q h => by rw [← hAe]; exact Or.inr h
  have hS : va_S A s.heap s.heap [] := va_S.rf
  have C0 : cxM p s m meth c _ wsX0_lay RX0 cX0_lay 6 none := ⟨hx, hb, hr, hml, hown, hts, hlocks⟩
  have hl := lv_entry ([.ref a0, .ref a2, .int p1, .int p2]) (n := 6) (Nat.le_of_ble_eq_true rfl)
  rw [lg_entry_eq]
  generalize (lg_sl ([.ref a0, .ref a2, .int p1, .int p2]) ++ List.replicate (6 - (lg_sl ([.ref a0, .ref a2, .int p1, .int p2])).length) Slot.unset).toArray = ls at hl ⊢
  have hl : lv_has ls 6 [(0, .ref a0), (1, .ref a2), (2, .int p1), (3, .int p2)] := hl
  show W p l e rmX0_lay s m _ below meth c _ _ _ _ _ _
  refine wq (fun Q hQ => ?_)
  refine lv_aload_n hx hb dX0_lay_0 rfl (lv_at hl 0 rfl) ?_
  refine lv_aload_n hx hb dX0_lay_1 rfl (lv_at hl 1 rfl) ?_
  refine va_getN (D := (dC, dI)) (ci := 6) (v := .ref a3) (C := RX6) (T := TX6) (N := 5) hx hb hts inX0_lay_X6 hown hK hP 2 rfl rfl 0 (by decide) (va_Nw.use rfl (hN _ (List.mem_of_getElem? (i := 28) rfl))) (fun _ h9 => h9) rfl dX0_lay_2 ?_
  refine va_getN (D := (dC, dI)) (ci := 1) (v := .ref a4) (C := RX1) (T := TX1) (N := 7) hx hb hts inX0_lay_X1 hown hK hP 3 rfl rfl 2 (by decide) (va_Nw.use rfl (hN _ (List.mem_of_getElem? (i := 7) rfl))) (fun _ h9 => h9) rfl dX0_lay_5 ?_
  refine lv_iload_n hx hb dX0_lay_8 rfl (lv_at hl 2 rfl) ?_
  obtain ⟨hi, hw⟩ := hw
  refine va_iald hx hb hK hP 4 0 rfl rfl hi dX0_lay_9 ?_
  refine lv_topi (fun v1 ev1 => ?_)
  have hw := hw v1 ev1
  refine va_put (D := (dC, dI)) (ci := 0) (v := .int v1) (ty := .int) (C := RX0) (T := TX0) (N := 4) hx hb hts inX0_lay_X0 tyX0 tyX0_ok nmX0 hown hK hP hD hS 0 rfl rfl 2 (by decide) (hts (.fieldLink RX0 18 "LeadPark$Grid" "rows" "I") (List.mem_of_getElem? (i := 1) rfl)) (fun _ h9 => h9) rfl (by decide +kernel) rfl rfl (Nat.le_of_ble_eq_true rfl) dX0_lay_10 (fun H locs hP hD hS => ?_)
  have hP : va_P (dC, dI) vwCl (ceX0_lay cyI cyB cyJ cyZ a0 a1 a2 a3 a4 a5 a6 a7 a8 a9 a10 b0_best b2_marks b2_stroll g2_drawSeed g3_ways g3_texts g8_lines g3_wallCount f4 f5 f6 f7 g8_size f10 v1 g0_columns f1 f9) H := hP
  have hD : va_D A (ceX0_lay cyI cyB cyJ cyZ a0 a1 a2 a3 a4 a5 a6 a7 a8 a9 a10 b0_best b2_marks b2_stroll g2_drawSeed g3_ways g3_texts g8_lines g3_wallCount f4 f5 f6 f7 g8_size f10 v1 g0_columns f1 f9) := hD
  refine lv_aload_n hx hb dX0_lay_13 rfl (lv_at hl 0 rfl) ?_
  refine lv_aload_n hx hb dX0_lay_14 rfl (lv_at hl 1 rfl) ?_
  refine va_getN (D := (dC, dI)) (ci := 6) (v := .ref a3) (C := RX6) (T := TX6) (N := 5) hx hb hts inX0_lay_X6 hown hK hP 2 rfl rfl 0 (by decide) (va_Nw.use rfl (hN _ (List.mem_of_getElem? (i := 28) rfl))) (fun _ h9 => h9) rfl dX0_lay_15 ?_
  refine va_getN (D := (dC, dI)) (ci := 1) (v := .ref a4) (C := RX1) (T := TX1) (N := 7) hx hb hts inX0_lay_X1 hown hK hP 3 rfl rfl 2 (by decide) (va_Nw.use rfl (hN _ (List.mem_of_getElem? (i := 7) rfl))) (fun _ h9 => h9) rfl dX0_lay_18 ?_
  refine lv_iload_n hx hb dX0_lay_21 rfl (lv_at hl 3 rfl) ?_
  obtain ⟨hi, hw⟩ := hw
  refine va_iald hx hb hK hP 4 0 rfl rfl hi dX0_lay_22 ?_
  refine lv_topi (fun v2 ev2 => ?_)
  have hw := hw v2 ev2
  refine va_put (D := (dC, dI)) (ci := 0) (v := .int v2) (ty := .int) (C := RX0) (T := TX0) (N := 4) hx hb hts inX0_lay_X0 tyX0 tyX0_ok nmX0 hown hK hP hD hS 0 rfl rfl 3 (by decide) (hts (.fieldLink RX0 22 "LeadPark$Grid" "columns" "I") (List.mem_of_getElem? (i := 2) rfl)) (fun _ h9 => h9) rfl (by decide +kernel) rfl rfl (Nat.le_of_ble_eq_true rfl) dX0_lay_23 (fun H locs hP hD hS => ?_)
  have hP : va_P (dC, dI) vwCl (ceX0_lay cyI cyB cyJ cyZ a0 a1 a2 a3 a4 a5 a6 a7 a8 a9 a10 b0_best b2_marks b2_stroll g2_drawSeed g3_ways g3_texts g8_lines g3_wallCount f4 f5 f6 f7 g8_size f10 v1 v2 f1 f9) H := hP
  have hD : va_D A (ceX0_lay cyI cyB cyJ cyZ a0 a1 a2 a3 a4 a5 a6 a7 a8 a9 a10 b0_best b2_marks b2_stroll g2_drawSeed g3_ways g3_texts g8_lines g3_wallCount f4 f5 f6 f7 g8_size f10 v1 v2 f1 f9) := hD
  refine lv_iconst (v := 0) hx hb dX0_lay_26 (by decide) ?_
  refine lv_istore (lv' := [(4, .int 0), (0, .ref a0), (1, .ref a2), (2, .int p1), (3, .int p2)]) hx hb dX0_lay_27 hl (by decide) rfl (fun ls hl => ?_)
  obtain ⟨nn, hw⟩ := hw
  exact bX0_lay_29 C0 hK hN hA hQ nn v1 v2 f1 f9 p1 p2 0 hw _ _ hP hD hS ls (lv_sub hl [1, 2, 3, 4, 0] rfl)
/-! LeadPark$Grid.fence (II)V -/
abbrev ceX0_fence (cyI cyB cyJ cyZ : ClassId) (a0 a1 b0_prices : Nat) (g0_rows : Int32) (g0_columns : Int32) (f1 : Nat → Int32) : va_W := [(a0, .inr (0, [.ref b0_prices, .ref a1, .int g0_rows, .int g0_columns])), (a1, .inl (cyI, 1089, .inl f1))]

theorem inX0_fence_X0 : ∀ w ∈ wsX00, w ∈ wsX0_fence := fun _ h => List.mem_cons_of_mem _ (List.mem_append_right _ h)
abbrev rmX0_fence : Room := { frames := 1, cells := 0, slots := 0, locals := 21 }
set_option maxRecDepth 100000 in
set_option maxHeartbeats 4000000 in
theorem bX0_fence_27 {p : Program} {l : Launch} {e : Env} {s : State} {m : MethodId} {args : Array Value} {below : List Frame} {meth : Method} {c : Code} {dC : Nat → ClassId} {dI : Nat → Nat → Nat} {cyI cyB cyJ cyZ : ClassId} {A : Nat → Prop} {a0 a1 b0_prices : Nat} {g0_rows : Int32} {g0_columns : Int32} (C0 : cxM p s m meth c args wsX0_fence RX0 cX0_fence 4 none) (hK : va_K (dC, dI) vwCl (tyA cyI cyB cyJ cyZ) s) (hN : nwA s) (hA : ∀ q : Nat, s.heap.size ≤ q → A q) {post : ((Nat → Int32)) → Prop} {Q : State → Prop} (hQ : Q = MQ below (va_Qv post (fun u : (Nat → Int32) => wAt dC dI cyI cyB cyJ cyZ A (ceX0_fence cyI cyB cyJ cyZ a0 a1 b0_prices g0_rows g0_columns u)) A) args s 0 0 A) : ∀ (n : Nat) (f1 : Nat → Int32) (x1 : Int32) (x2 : Int32) (x3 : Int32), wpX0_fence_27 post n f1 x1 x2 x3 → AtW p l e rmX0_fence s m args below meth c dC dI A Q 4 0 0 (ceX0_fence cyI cyB cyJ cyZ a0 a1 b0_prices g0_rows g0_columns f1) [(0, .ref a0), (1, .int x1), (2, .int x2), (3, .int x3)] 27 [] := by
  intro n
  induction n with
  | zero => intro f1 x1 x2 x3 hw; exact False.elim hw
  | succ n ih =>
    intro f1 x1 x2 x3 hw H locs hP hD hS ls hl
    have C1 := C0
    obtain ⟨hx, hb, hr, hml, hown, hts, hlocks⟩ := C1
    refine lv_iload_n hx hb dX0_fence_27 rfl (lv_at hl 3 rfl) ?_
    refine lv_iload_n hx hb dX0_fence_28 rfl (lv_at hl 2 rfl) ?_
    refine lv_icmp_ge (tgt := 50) hx hb dX0_fence_29 (by decide) (fun hc => ?_) (fun hc => ?_)
    · have hw := hw.1 hc
      refine lv_aload_n hx hb dX0_fence_50 rfl (lv_at hl 0 rfl) ?_
      refine va_get (D := (dC, dI)) (ci := 0) (v := .ref a1) (C := RX0) (T := TX0) (N := 4) hx hb hts inX0_fence_X0 hown hK hP 0 rfl rfl 1 (by decide) (hts (.fieldLink RX0 15 "LeadPark$Grid" "best" "[I") (List.mem_of_getElem? (i := 1) rfl)) (fun _ h9 => h9) rfl dX0_fence_51 ?_
      refine lv_iload_n hx hb dX0_fence_54 rfl (lv_at hl 1 rfl) ?_
      refine lv_iload_n hx hb dX0_fence_55 rfl (lv_at hl 2 rfl) ?_
      have hPc := hP.sub (ws' := ([] : va_W)) [] rfl
      have hDc := hD.sub (ws' := ([] : va_W)) [] (by decide) rfl
      have hFc := va_free (wc := ([] : va_W)) hD hS hA [] rfl
      refine va_calli (va_runS (As := [.int x1, .int x2]) (rest := [.ref a1]) ⟨hx, hb, hml, hown, hts⟩ (ctX0_cell l dC dI cyI cyB cyJ cyZ _ x1 x2 _ hw) (va_cwS 2 hts gX0_fence_X0_cell rfl rfl rfl (by decide +kernel) ⟨Nat.le_of_ble_eq_true rfl, Nat.le_of_ble_eq_true rfl⟩) ⟨wPre_blind, fun U hU hW => wPre_of hPc hK hDc hN hU hW⟩ rfl rfl hl.1 rfl (lv_room (Nat.le_of_ble_eq_true rfl)) dX0_fence_56 ⟨(Nat.zero_le _), (Nat.zero_le _)⟩) hS (fun q _ h => hFc q h) hFc (fun r2 u1 t H1 locs ht hvm hw hB hz1 hk1 hS => ?_)
      obtain ⟨hP1, hK1, hD1⟩ := hB
      rw [ht] at hP1
      obtain ⟨hP, hD⟩ := va_join (wr := pickW (ceX0_fence cyI cyB cyJ cyZ a0 a1 b0_prices g0_rows g0_columns f1) [0, 1]) (w1 := ([] : va_W)) hP hD [] [0, 1] rfl rfl (by decide) (by decide) hk1 hFc hP1 hD1
      have hP := hP.sub (ws' := (ceX0_fence cyI cyB cyJ cyZ a0 a1 b0_prices g0_rows g0_columns f1)) [0, 1] rfl
      have hD := hD.sub (ws' := (ceX0_fence cyI cyB cyJ cyZ a0 a1 b0_prices g0_rows g0_columns f1)) [0, 1] (by decide) rfl
      generalize H1 = H at hP hS ⊢
      refine lv_iconst (v := 0) hx hb dX0_fence_59 (by decide) ?_
      obtain ⟨hi, hw⟩ := hw
      refine va_iast hx hb hK hP hD hS 1 0 rfl rfl hi dX0_fence_60 (fun H locs hP hD hS => ?_)
      have hP : va_P (dC, dI) vwCl (ceX0_fence cyI cyB cyJ cyZ a0 a1 b0_prices g0_rows g0_columns (upd f1 r2.toNatClampNeg 0)) H := hP
      have hD : va_D A (ceX0_fence cyI cyB cyJ cyZ a0 a1 b0_prices g0_rows g0_columns (upd f1 r2.toNatClampNeg 0)) := hD
      rw [hQ]
      exact W.vret hx hb hr (fun t ht hW => ⟨⟨((upd f1 r2.toNatClampNeg 0)), rfl, hw, by rw [ht]; exact hP, va_K.moved hW.alike hK, hD⟩, hS.F ht⟩) hS.2.2 dX0_fence_61
    · have hw := hw.2 hc
      refine lv_aload_n hx hb dX0_fence_32 rfl (lv_at hl 0 rfl) ?_
      refine va_get (D := (dC, dI)) (ci := 0) (v := .ref a1) (C := RX0) (T := TX0) (N := 4) hx hb hts inX0_fence_X0 hown hK hP 0 rfl rfl 1 (by decide) (hts (.fieldLink RX0 15 "LeadPark$Grid" "best" "[I") (List.mem_of_getElem? (i := 1) rfl)) (fun _ h9 => h9) rfl dX0_fence_33 ?_
      refine lv_iload_n hx hb dX0_fence_36 rfl (lv_at hl 1 rfl) ?_
      refine lv_iload_n hx hb dX0_fence_37 rfl (lv_at hl 3 rfl) ?_
      have hPc := hP.sub (ws' := ([] : va_W)) [] rfl
      have hDc := hD.sub (ws' := ([] : va_W)) [] (by decide) rfl
      have hFc := va_free (wc := ([] : va_W)) hD hS hA [] rfl
      refine va_calli (va_runS (As := [.int x1, .int x3]) (rest := [.ref a1]) ⟨hx, hb, hml, hown, hts⟩ (ctX0_cell l dC dI cyI cyB cyJ cyZ _ x1 x3 _ hw) (va_cwS 2 hts gX0_fence_X0_cell rfl rfl rfl (by decide +kernel) ⟨Nat.le_of_ble_eq_true rfl, Nat.le_of_ble_eq_true rfl⟩) ⟨wPre_blind, fun U hU hW => wPre_of hPc hK hDc hN hU hW⟩ rfl rfl hl.1 rfl (lv_room (Nat.le_of_ble_eq_true rfl)) dX0_fence_38 ⟨(Nat.zero_le _), (Nat.zero_le _)⟩) hS (fun q _ h => hFc q h) hFc (fun r4 u3 t H1 locs ht hvm hw hB hz1 hk1 hS => ?_)
      obtain ⟨hP1, hK1, hD1⟩ := hB
      rw [ht] at hP1
      obtain ⟨hP, hD⟩ := va_join (wr := pickW (ceX0_fence cyI cyB cyJ cyZ a0 a1 b0_prices g0_rows g0_columns f1) [0, 1]) (w1 := ([] : va_W)) hP hD [] [0, 1] rfl rfl (by decide) (by decide) hk1 hFc hP1 hD1
      have hP := hP.sub (ws' := (ceX0_fence cyI cyB cyJ cyZ a0 a1 b0_prices g0_rows g0_columns f1)) [0, 1] rfl
      have hD := hD.sub (ws' := (ceX0_fence cyI cyB cyJ cyZ a0 a1 b0_prices g0_rows g0_columns f1)) [0, 1] (by decide) rfl
      generalize H1 = H at hP hS ⊢
      refine lv_ldc (v := 2147483647) hx hb hown (hts (.constant RX0 44 (2147483647)) (List.mem_of_getElem? (i := 2) rfl)) dX0_fence_41 ?_
      obtain ⟨hi, hw⟩ := hw
      refine va_iast hx hb hK hP hD hS 1 0 rfl rfl hi dX0_fence_43 (fun H locs hP hD hS => ?_)
      have hP : va_P (dC, dI) vwCl (ceX0_fence cyI cyB cyJ cyZ a0 a1 b0_prices g0_rows g0_columns (upd f1 r4.toNatClampNeg 2147483647)) H := hP
      have hD : va_D A (ceX0_fence cyI cyB cyJ cyZ a0 a1 b0_prices g0_rows g0_columns (upd f1 r4.toNatClampNeg 2147483647)) := hD
      obtain ⟨v5, ev5⟩ : ∃ y : Int32, y = x3 + 1 := ⟨_, rfl⟩
      have hw := hw v5 ev5
      refine lv_iinc (v := v5) (lv' := [(3, .int v5), (0, .ref a0), (1, .int x1), (2, .int x2)]) hx hb dX0_fence_44 hl (k := 3) rfl (by rw [ev5]; rfl) (by decide) rfl (fun ls hl => ?_)
      refine lv_goto (tgt := 27) hx hb dX0_fence_47 (by decide) ?_
      exact ih (upd f1 r4.toNatClampNeg 2147483647) x1 x2 v5 hw H locs hP hD hS ls (lv_sub hl [1, 2, 3, 0] rfl)
set_option maxRecDepth 100000 in
set_option maxHeartbeats 4000000 in
theorem bX0_fence_2 {p : Program} {l : Launch} {e : Env} {s : State} {m : MethodId} {args : Array Value} {below : List Frame} {meth : Method} {c : Code} {dC : Nat → ClassId} {dI : Nat → Nat → Nat} {cyI cyB cyJ cyZ : ClassId} {A : Nat → Prop} {a0 a1 b0_prices : Nat} {g0_rows : Int32} {g0_columns : Int32} (C0 : cxM p s m meth c args wsX0_fence RX0 cX0_fence 4 none) (hK : va_K (dC, dI) vwCl (tyA cyI cyB cyJ cyZ) s) (hN : nwA s) (hA : ∀ q : Nat, s.heap.size ≤ q → A q) {post : ((Nat → Int32)) → Prop} {Q : State → Prop} (hQ : Q = MQ below (va_Qv post (fun u : (Nat → Int32) => wAt dC dI cyI cyB cyJ cyZ A (ceX0_fence cyI cyB cyJ cyZ a0 a1 b0_prices g0_rows g0_columns u)) A) args s 0 0 A) : ∀ (n : Nat) (f1 : Nat → Int32) (x1 : Int32) (x2 : Int32) (x3 : Int32), wpX0_fence_2 post n f1 x1 x2 x3 → AtW p l e rmX0_fence s m args below meth c dC dI A Q 4 0 0 (ceX0_fence cyI cyB cyJ cyZ a0 a1 b0_prices g0_rows g0_columns f1) [(0, .ref a0), (1, .int x1), (2, .int x2), (3, .int x3)] 2 [] := by
  intro n
  induction n with
  | zero => intro f1 x1 x2 x3 hw; exact False.elim hw
  | succ n ih =>
    intro f1 x1 x2 x3 hw H locs hP hD hS ls hl
    have C1 := C0
    obtain ⟨hx, hb, hr, hml, hown, hts, hlocks⟩ := C1
    refine lv_iload_n hx hb dX0_fence_2 rfl (lv_at hl 3 rfl) ?_
    refine lv_iload_n hx hb dX0_fence_3 rfl (lv_at hl 1 rfl) ?_
    refine lv_icmp_ge (tgt := 25) hx hb dX0_fence_4 (by decide) (fun hc => ?_) (fun hc => ?_)
    · have hw := hw.1 hc
      refine lv_iconst (v := 0) hx hb dX0_fence_25 (by decide) ?_
      refine lv_istore_n (lv' := [(3, .int 0), (0, .ref a0), (1, .int x1), (2, .int x2)]) hx hb dX0_fence_26 rfl hl (by decide) rfl (fun ls hl => ?_)
      obtain ⟨nn, hw⟩ := hw
      exact bX0_fence_27 C0 hK hN hA hQ nn f1 x1 x2 0 hw _ _ hP hD hS ls (lv_sub hl [1, 2, 3, 0] rfl)
    · have hw := hw.2 hc
      refine lv_aload_n hx hb dX0_fence_7 rfl (lv_at hl 0 rfl) ?_
      refine va_get (D := (dC, dI)) (ci := 0) (v := .ref a1) (C := RX0) (T := TX0) (N := 4) hx hb hts inX0_fence_X0 hown hK hP 0 rfl rfl 1 (by decide) (hts (.fieldLink RX0 15 "LeadPark$Grid" "best" "[I") (List.mem_of_getElem? (i := 1) rfl)) (fun _ h9 => h9) rfl dX0_fence_8 ?_
      refine lv_iload_n hx hb dX0_fence_11 rfl (lv_at hl 3 rfl) ?_
      refine lv_iload_n hx hb dX0_fence_12 rfl (lv_at hl 2 rfl) ?_
      have hPc := hP.sub (ws' := ([] : va_W)) [] rfl
      have hDc := hD.sub (ws' := ([] : va_W)) [] (by decide) rfl
      have hFc := va_free (wc := ([] : va_W)) hD hS hA [] rfl
      refine va_calli (va_runS (As := [.int x3, .int x2]) (rest := [.ref a1]) ⟨hx, hb, hml, hown, hts⟩ (ctX0_cell l dC dI cyI cyB cyJ cyZ _ x3 x2 _ hw) (va_cwS 2 hts gX0_fence_X0_cell rfl rfl rfl (by decide +kernel) ⟨Nat.le_of_ble_eq_true rfl, Nat.le_of_ble_eq_true rfl⟩) ⟨wPre_blind, fun U hU hW => wPre_of hPc hK hDc hN hU hW⟩ rfl rfl hl.1 rfl (lv_room (Nat.le_of_ble_eq_true rfl)) dX0_fence_13 ⟨(Nat.zero_le _), (Nat.zero_le _)⟩) hS (fun q _ h => hFc q h) hFc (fun r2 u1 t H1 locs ht hvm hw hB hz1 hk1 hS => ?_)
      obtain ⟨hP1, hK1, hD1⟩ := hB
      rw [ht] at hP1
      obtain ⟨hP, hD⟩ := va_join (wr := pickW (ceX0_fence cyI cyB cyJ cyZ a0 a1 b0_prices g0_rows g0_columns f1) [0, 1]) (w1 := ([] : va_W)) hP hD [] [0, 1] rfl rfl (by decide) (by decide) hk1 hFc hP1 hD1
      have hP := hP.sub (ws' := (ceX0_fence cyI cyB cyJ cyZ a0 a1 b0_prices g0_rows g0_columns f1)) [0, 1] rfl
      have hD := hD.sub (ws' := (ceX0_fence cyI cyB cyJ cyZ a0 a1 b0_prices g0_rows g0_columns f1)) [0, 1] (by decide) rfl
      generalize H1 = H at hP hS ⊢
      refine lv_ldc (v := 2147483647) hx hb hown (hts (.constant RX0 44 (2147483647)) (List.mem_of_getElem? (i := 2) rfl)) dX0_fence_16 ?_
      obtain ⟨hi, hw⟩ := hw
      refine va_iast hx hb hK hP hD hS 1 0 rfl rfl hi dX0_fence_18 (fun H locs hP hD hS => ?_)
      have hP : va_P (dC, dI) vwCl (ceX0_fence cyI cyB cyJ cyZ a0 a1 b0_prices g0_rows g0_columns (upd f1 r2.toNatClampNeg 2147483647)) H := hP
      have hD : va_D A (ceX0_fence cyI cyB cyJ cyZ a0 a1 b0_prices g0_rows g0_columns (upd f1 r2.toNatClampNeg 2147483647)) := hD
      obtain ⟨v3, ev3⟩ : ∃ y : Int32, y = x3 + 1 := ⟨_, rfl⟩
      have hw := hw v3 ev3
      refine lv_iinc (v := v3) (lv' := [(3, .int v3), (0, .ref a0), (1, .int x1), (2, .int x2)]) hx hb dX0_fence_19 hl (k := 3) rfl (by rw [ev3]; rfl) (by decide) rfl (fun ls hl => ?_)
      refine lv_goto (tgt := 2) hx hb dX0_fence_22 (by decide) ?_
      exact ih (upd f1 r2.toNatClampNeg 2147483647) x1 x2 v3 hw H locs hP hD hS ls (lv_sub hl [1, 2, 3, 0] rfl)
set_option maxRecDepth 100000 in
set_option maxHeartbeats 4000000 in
theorem ctX0_fence (l : Launch) (dC : Nat → ClassId) (dI : Nat → Nat → Nat) (cyI cyB cyJ cyZ : ClassId) (sz : Nat) (a0 a1 b0_prices : Nat) (g0_rows : Int32) (g0_columns : Int32) (f1 : Nat → Int32) (p0 : Int32) (p1 : Int32) (post : ((Nat → Int32)) → Prop) (hw : wpX0_fence post f1 p0 p1) : Met l yX0_fence wsX0_fence rmX0_fence (va_Pc [.ref a0, .int p0, .int p1] (wPre dC dI cyI cyB cyJ cyZ sz (ceX0_fence cyI cyB cyJ cyZ a0 a1 b0_prices g0_rows g0_columns f1))) (va_Qv post (fun u : (Nat → Int32) => wAt dC dI cyI cyB cyJ cyZ (va_A (ceX0_fence cyI cyB cyJ cyZ a0 a1 b0_prices g0_rows g0_columns f1) sz) (ceX0_fence cyI cyB cyJ cyZ a0 a1 b0_prices g0_rows g0_columns u)) (va_A (ceX0_fence cyI cyB cyJ cyZ a0 a1 b0_prices g0_rows g0_columns f1) sz)) 0 0 (va_A (ceX0_fence cyI cyB cyJ cyZ a0 a1 b0_prices g0_rows g0_columns f1) sz) := by
  refine Met.ofW (cc := cX0_fence) (maxL := 4) (ret := none) (by decide) rfl ?_
  intro p e s m args below meth c s₁ B hml hv
  obtain ⟨rfl, hsz, hP, hK, hD0, hN⟩ := hv
  have hx := B.exec
  have hb := B.bytes
  have hr := B.returns
  have hts := atoms_spec (ws := wsX0_fence) B.pre
  have hown : s.vm.findClass RX0 = some m.cls := findClass_of_methodNamed B.named
  have hlocks := B.notSynchronized
  subst hsz
  have hD := hD0.self (sz := s.heap.size)
  generalize hAe : va_A (ceX0_fence cyI cyB cyJ cyZ a0 a1 b0_prices g0_rows g0_columns f1) s.heap.size = A at hD ⊢
  have hA : ∀ q : Nat, s.heap.size ≤ q → A q := fun q h => by rw [← hAe]; exact Or.inr h
  have hS : va_S A s.heap s.heap [] := va_S.rf
  have C0 : cxM p s m meth c _ wsX0_fence RX0 cX0_fence 4 none := ⟨hx, hb, hr, hml, hown, hts, hlocks⟩
  have hl := lv_entry ([.ref a0, .int p0, .int p1]) (n := 4) (Nat.le_of_ble_eq_true rfl)
  rw [lg_entry_eq]
  generalize (lg_sl ([.ref a0, .int p0, .int p1]) ++ List.replicate (4 - (lg_sl ([.ref a0, .int p0, .int p1])).length) Slot.unset).toArray = ls at hl ⊢
  have hl : lv_has ls 4 [(0, .ref a0), (1, .int p0), (2, .int p1)] := hl
  show W p l e rmX0_fence s m _ below meth c _ _ _ _ _ _
  refine wq (fun Q hQ => ?_)
  refine lv_iconst (v := 0) hx hb dX0_fence_0 (by decide) ?_
  refine lv_istore_n (lv' := [(3, .int 0), (0, .ref a0), (1, .int p0), (2, .int p1)]) hx hb dX0_fence_1 rfl hl (by decide) rfl (fun ls hl => ?_)
  obtain ⟨nn, hw⟩ := hw
  exact bX0_fence_2 C0 hK hN hA hQ nn f1 p0 p1 0 hw _ _ hP hD hS ls (lv_sub hl [1, 2, 3, 0] rfl)
/-! LeadPark$Grid.bestAhead (II)I -/
abbrev ceX0_bestAhead (cyI cyB cyJ cyZ : ClassId) (a0 a1 b0_prices : Nat) (g0_rows : Int32) (g0_columns : Int32) (f1 : Nat → Int32) : va_W := [(a0, .inr (0, [.ref b0_prices, .ref a1, .int g0_rows, .int g0_columns])), (a1, .inl (cyI, 1089, .inl f1))]

theorem inX0_bestAhead_X0 : ∀ w ∈ wsX00, w ∈ wsX0_bestAhead := fun _ h => List.mem_cons_of_mem _ (List.mem_append_right _ h)
abbrev rmX0_bestAhead : Room := { frames := 1, cells := 0, slots := 0, locals := 40 }
set_option maxRecDepth 100000 in
set_option maxHeartbeats 4000000 in
theorem ctX0_bestAhead (l : Launch) (dC : Nat → ClassId) (dI : Nat → Nat → Nat) (cyI cyB cyJ cyZ : ClassId) (sz : Nat) (a0 a1 b0_prices : Nat) (g0_rows : Int32) (g0_columns : Int32) (f1 : Nat → Int32) (p0 : Int32) (p1 : Int32) (post : Int32 → Unit → Prop) (hw : wpX0_bestAhead post f1 p0 p1) : Met l yX0_bestAhead wsX0_bestAhead rmX0_bestAhead (va_Pc [.ref a0, .int p0, .int p1] (wPre dC dI cyI cyB cyJ cyZ sz (ceX0_bestAhead cyI cyB cyJ cyZ a0 a1 b0_prices g0_rows g0_columns f1))) (va_Qi post (fun u : Unit => wAt dC dI cyI cyB cyJ cyZ (va_A (ceX0_bestAhead cyI cyB cyJ cyZ a0 a1 b0_prices g0_rows g0_columns f1) sz) (ceX0_bestAhead cyI cyB cyJ cyZ a0 a1 b0_prices g0_rows g0_columns f1)) (va_A (ceX0_bestAhead cyI cyB cyJ cyZ a0 a1 b0_prices g0_rows g0_columns f1) sz)) 0 0 (va_A (ceX0_bestAhead cyI cyB cyJ cyZ a0 a1 b0_prices g0_rows g0_columns f1) sz) := by
  refine Met.ofW (cc := cX0_bestAhead) (maxL := 3) (ret := (some .int)) (by decide) rfl ?_
  intro p e s m args below meth c s₁ B hml hv
  obtain ⟨rfl, hsz, hP, hK, hD0, hN⟩ := hv
  have hx := B.exec
  have hb := B.bytes
  have hr := B.returns
  have hts := atoms_spec (ws := wsX0_bestAhead) B.pre
  have hown : s.vm.findClass RX0 = some m.cls := findClass_of_methodNamed B.named
  have hlocks := B.notSynchronized
  subst hsz
  have hD := hD0.self (sz := s.heap.size)
  generalize hAe : va_A (ceX0_bestAhead cyI cyB cyJ cyZ a0 a1 b0_prices g0_rows g0_columns f1) s.heap.size = A at hD ⊢
  have hA : ∀ q : Nat, s.heap.size ≤ q → A q := fun q h => by rw [← hAe]; exact Or.inr h
  have hS : va_S A s.heap s.heap [] := va_S.rf
  have C0 : cxM p s m meth c _ wsX0_bestAhead RX0 cX0_bestAhead 3 (some .int) := ⟨hx, hb, hr, hml, hown, hts, hlocks⟩
  have hl := lv_entry ([.ref a0, .int p0, .int p1]) (n := 3) (Nat.le_of_ble_eq_true rfl)
  rw [lg_entry_eq]
  generalize (lg_sl ([.ref a0, .int p0, .int p1]) ++ List.replicate (3 - (lg_sl ([.ref a0, .int p0, .int p1])).length) Slot.unset).toArray = ls at hl ⊢
  have hl : lv_has ls 3 [(0, .ref a0), (1, .int p0), (2, .int p1)] := hl
  show W p l e rmX0_bestAhead s m _ below meth c _ _ _ _ _ _
  refine wq (fun Q hQ => ?_)
  refine lv_aload_n hx hb dX0_bestAhead_0 rfl (lv_at hl 0 rfl) ?_
  refine va_get (D := (dC, dI)) (ci := 0) (v := .ref a1) (C := RX0) (T := TX0) (N := 4) hx hb hts inX0_bestAhead_X0 hown hK hP 0 rfl rfl 1 (by decide) (hts (.fieldLink RX0 15 "LeadPark$Grid" "best" "[I") (List.mem_of_getElem? (i := 1) rfl)) (fun _ h9 => h9) rfl dX0_bestAhead_1 ?_
  refine lv_iload_n hx hb dX0_bestAhead_4 rfl (lv_at hl 1 rfl) ?_
  refine lv_iconst (v := 1) hx hb dX0_bestAhead_5 (by decide) ?_
  refine lv_iadd hx hb dX0_bestAhead_6 ?_
  refine lv_iload_n hx hb dX0_bestAhead_7 rfl (lv_at hl 2 rfl) ?_
  refine lv_iconst (v := 1) hx hb dX0_bestAhead_8 (by decide) ?_
  refine lv_iadd hx hb dX0_bestAhead_9 ?_
  have hPc := hP.sub (ws' := ([] : va_W)) [] rfl
  have hDc := hD.sub (ws' := ([] : va_W)) [] (by decide) rfl
  have hFc := va_free (wc := ([] : va_W)) hD hS hA [] rfl
  refine va_calli (va_runS (As := [.int (p0 + 1), .int (p1 + 1)]) (rest := [.ref a1]) ⟨hx, hb, hml, hown, hts⟩ (ctX0_cell l dC dI cyI cyB cyJ cyZ _ (p0 + 1) (p1 + 1) _ hw) (va_cwS 2 hts gX0_bestAhead_X0_cell rfl rfl rfl (by decide +kernel) ⟨Nat.le_of_ble_eq_true rfl, Nat.le_of_ble_eq_true rfl⟩) ⟨wPre_blind, fun U hU hW => wPre_of hPc hK hDc hN hU hW⟩ rfl rfl hl.1 rfl (lv_room (Nat.le_of_ble_eq_true rfl)) dX0_bestAhead_10 ⟨(Nat.zero_le _), (Nat.zero_le _)⟩) hS (fun q _ h => hFc q h) hFc (fun r2 u1 t H1 locs ht hvm hw hB hz1 hk1 hS => ?_)
  obtain ⟨hP1, hK1, hD1⟩ := hB
  rw [ht] at hP1
  obtain ⟨hP, hD⟩ := va_join (wr := pickW (ceX0_bestAhead cyI cyB cyJ cyZ a0 a1 b0_prices g0_rows g0_columns f1) [0, 1]) (w1 := ([] : va_W)) hP hD [] [0, 1] rfl rfl (by decide) (by decide) hk1 hFc hP1 hD1
  have hP := hP.sub (ws' := (ceX0_bestAhead cyI cyB cyJ cyZ a0 a1 b0_prices g0_rows g0_columns f1)) [0, 1] rfl
  have hD := hD.sub (ws' := (ceX0_bestAhead cyI cyB cyJ cyZ a0 a1 b0_prices g0_rows g0_columns f1)) [0, 1] (by decide) rfl
  generalize H1 = H at hP hS ⊢
  obtain ⟨hi, hw⟩ := hw
  refine va_iald hx hb hK hP 1 0 rfl rfl hi dX0_bestAhead_13 ?_
  refine lv_aload_n hx hb dX0_bestAhead_14 rfl (lv_at hl 0 rfl) ?_
  refine va_get (D := (dC, dI)) (ci := 0) (v := .ref a1) (C := RX0) (T := TX0) (N := 4) hx hb hts inX0_bestAhead_X0 hown hK hP 0 rfl rfl 1 (by decide) (hts (.fieldLink RX0 15 "LeadPark$Grid" "best" "[I") (List.mem_of_getElem? (i := 1) rfl)) (fun _ h9 => h9) rfl dX0_bestAhead_15 ?_
  refine lv_iload_n hx hb dX0_bestAhead_18 rfl (lv_at hl 1 rfl) ?_
  refine lv_iconst (v := 1) hx hb dX0_bestAhead_19 (by decide) ?_
  refine lv_iadd hx hb dX0_bestAhead_20 ?_
  refine lv_iload_n hx hb dX0_bestAhead_21 rfl (lv_at hl 2 rfl) ?_
  have hPc := hP.sub (ws' := ([] : va_W)) [] rfl
  have hDc := hD.sub (ws' := ([] : va_W)) [] (by decide) rfl
  have hFc := va_free (wc := ([] : va_W)) hD hS hA [] rfl
  refine va_calli (va_runS (As := [.int (p0 + 1), .int p1]) (rest := [.ref a1, .int (f1 r2.toNatClampNeg)]) ⟨hx, hb, hml, hown, hts⟩ (ctX0_cell l dC dI cyI cyB cyJ cyZ _ (p0 + 1) p1 _ hw) (va_cwS 2 hts gX0_bestAhead_X0_cell rfl rfl rfl (by decide +kernel) ⟨Nat.le_of_ble_eq_true rfl, Nat.le_of_ble_eq_true rfl⟩) ⟨wPre_blind, fun U hU hW => wPre_of hPc hK hDc hN hU hW⟩ rfl rfl hl.1 rfl (lv_room (Nat.le_of_ble_eq_true rfl)) dX0_bestAhead_22 ⟨(Nat.zero_le _), (Nat.zero_le _)⟩) hS (fun q _ h => hFc q h) hFc (fun r4 u3 t H1 locs ht hvm hw hB hz1 hk1 hS => ?_)
  obtain ⟨hP1, hK1, hD1⟩ := hB
  rw [ht] at hP1
  obtain ⟨hP, hD⟩ := va_join (wr := pickW (ceX0_bestAhead cyI cyB cyJ cyZ a0 a1 b0_prices g0_rows g0_columns f1) [0, 1]) (w1 := ([] : va_W)) hP hD [] [0, 1] rfl rfl (by decide) (by decide) hk1 hFc hP1 hD1
  have hP := hP.sub (ws' := (ceX0_bestAhead cyI cyB cyJ cyZ a0 a1 b0_prices g0_rows g0_columns f1)) [0, 1] rfl
  have hD := hD.sub (ws' := (ceX0_bestAhead cyI cyB cyJ cyZ a0 a1 b0_prices g0_rows g0_columns f1)) [0, 1] (by decide) rfl
  generalize H1 = H at hP hS ⊢
  obtain ⟨hi, hw⟩ := hw
  refine va_iald hx hb hK hP 1 0 rfl rfl hi dX0_bestAhead_25 ?_
  refine lv_aload_n hx hb dX0_bestAhead_26 rfl (lv_at hl 0 rfl) ?_
  refine va_get (D := (dC, dI)) (ci := 0) (v := .ref a1) (C := RX0) (T := TX0) (N := 4) hx hb hts inX0_bestAhead_X0 hown hK hP 0 rfl rfl 1 (by decide) (hts (.fieldLink RX0 15 "LeadPark$Grid" "best" "[I") (List.mem_of_getElem? (i := 1) rfl)) (fun _ h9 => h9) rfl dX0_bestAhead_27 ?_
  refine lv_iload_n hx hb dX0_bestAhead_30 rfl (lv_at hl 1 rfl) ?_
  refine lv_iload_n hx hb dX0_bestAhead_31 rfl (lv_at hl 2 rfl) ?_
  refine lv_iconst (v := 1) hx hb dX0_bestAhead_32 (by decide) ?_
  refine lv_iadd hx hb dX0_bestAhead_33 ?_
  have hPc := hP.sub (ws' := ([] : va_W)) [] rfl
  have hDc := hD.sub (ws' := ([] : va_W)) [] (by decide) rfl
  have hFc := va_free (wc := ([] : va_W)) hD hS hA [] rfl
  refine va_calli (va_runS (As := [.int p0, .int (p1 + 1)]) (rest := [.ref a1, .int (f1 r4.toNatClampNeg), .int (f1 r2.toNatClampNeg)]) ⟨hx, hb, hml, hown, hts⟩ (ctX0_cell l dC dI cyI cyB cyJ cyZ _ p0 (p1 + 1) _ hw) (va_cwS 2 hts gX0_bestAhead_X0_cell rfl rfl rfl (by decide +kernel) ⟨Nat.le_of_ble_eq_true rfl, Nat.le_of_ble_eq_true rfl⟩) ⟨wPre_blind, fun U hU hW => wPre_of hPc hK hDc hN hU hW⟩ rfl rfl hl.1 rfl (lv_room (Nat.le_of_ble_eq_true rfl)) dX0_bestAhead_34 ⟨(Nat.zero_le _), (Nat.zero_le _)⟩) hS (fun q _ h => hFc q h) hFc (fun r6 u5 t H1 locs ht hvm hw hB hz1 hk1 hS => ?_)
  obtain ⟨hP1, hK1, hD1⟩ := hB
  rw [ht] at hP1
  obtain ⟨hP, hD⟩ := va_join (wr := pickW (ceX0_bestAhead cyI cyB cyJ cyZ a0 a1 b0_prices g0_rows g0_columns f1) [0, 1]) (w1 := ([] : va_W)) hP hD [] [0, 1] rfl rfl (by decide) (by decide) hk1 hFc hP1 hD1
  have hP := hP.sub (ws' := (ceX0_bestAhead cyI cyB cyJ cyZ a0 a1 b0_prices g0_rows g0_columns f1)) [0, 1] rfl
  have hD := hD.sub (ws' := (ceX0_bestAhead cyI cyB cyJ cyZ a0 a1 b0_prices g0_rows g0_columns f1)) [0, 1] (by decide) rfl
  generalize H1 = H at hP hS ⊢
  obtain ⟨hi, hw⟩ := hw
  refine va_iald hx hb hK hP 1 0 rfl rfl hi dX0_bestAhead_37 ?_
  refine va_mmin hx hb (hml.trans hl.1.symm) hown (hts (.methodLink RX0 61 Lib.Math.min.name) (List.mem_of_getElem? (i := 2) rfl)) (hts (.static Lib.Math.min.name) (List.mem_of_getElem? (i := 3) rfl)) (hts (.initialized "java/lang/Math") (List.mem_of_getElem? (i := 4) rfl)) (hts (.code Lib.Math.min.name Lib.Math.min.code 2 (some .int)) (List.mem_of_getElem? (i := 5) rfl)) (Nat.le_of_ble_eq_true rfl) (Nat.le_of_ble_eq_true rfl) (by decide) (by decide) dX0_bestAhead_38 ?_
  refine va_mmin hx hb (hml.trans hl.1.symm) hown (hts (.methodLink RX0 61 Lib.Math.min.name) (List.mem_of_getElem? (i := 2) rfl)) (hts (.static Lib.Math.min.name) (List.mem_of_getElem? (i := 3) rfl)) (hts (.initialized "java/lang/Math") (List.mem_of_getElem? (i := 4) rfl)) (hts (.code Lib.Math.min.name Lib.Math.min.code 2 (some .int)) (List.mem_of_getElem? (i := 5) rfl)) (Nat.le_of_ble_eq_true rfl) (Nat.le_of_ble_eq_true rfl) (by decide) (by decide) dX0_bestAhead_41 ?_
  rw [hQ]
  exact W.iret (v := iMin (f1 r2.toNatClampNeg) (iMin (f1 r4.toNatClampNeg) (f1 r6.toNatClampNeg))) hx hb hr (fun t ht hW => ⟨⟨iMin (f1 r2.toNatClampNeg) (iMin (f1 r4.toNatClampNeg) (f1 r6.toNatClampNeg)), (), rfl, hw, by rw [ht]; exact hP, va_K.moved hW.alike hK, hD⟩, hS.F ht⟩) hS.2.2 dX0_bestAhead_44
/-! LeadPark$Grid.settle (III)I -/
abbrev ceX0_settle (cyI cyB cyJ cyZ : ClassId) (a0 a1 a2 : Nat) (g0_rows : Int32) (g0_columns : Int32) (f2 : Nat → Int32) (f1 : Nat → Int32) : va_W := [(a0, .inr (0, [.ref a2, .ref a1, .int g0_rows, .int g0_columns])), (a1, .inl (cyI, 1089, .inl f1)), (a2, .inl (cyI, 1089, .inl f2))]

theorem inX0_settle_X0 : ∀ w ∈ wsX00, w ∈ wsX0_settle := fun _ h => List.mem_cons_of_mem _ (List.mem_append_right _ h)
abbrev rmX0_settle : Room := { frames := 2, cells := 0, slots := 0, locals := 62 }
set_option maxRecDepth 100000 in
set_option maxHeartbeats 4000000 in
theorem bX0_settle_76 {p : Program} {l : Launch} {e : Env} {s : State} {m : MethodId} {args : Array Value} {below : List Frame} {meth : Method} {c : Code} {dC : Nat → ClassId} {dI : Nat → Nat → Nat} {cyI cyB cyJ cyZ : ClassId} {A : Nat → Prop} {a0 a1 a2 : Nat} (C0 : cxM p s m meth c args wsX0_settle RX0 cX0_settle 8 (some .int)) (hK : va_K (dC, dI) vwCl (tyA cyI cyB cyJ cyZ) s) (hN : nwA s) (hA : ∀ q : Nat, s.heap.size ≤ q → A q) {post : Int32 → ((Nat → Int32)) → Prop} {g0_rows : Int32} {g0_columns : Int32} {f2 : Nat → Int32} {k44 : (Nat → Int32) → Int32 → Int32 → Int32 → Int32 → Int32 → Prop} {k11 : (Nat → Int32) → Int32 → Int32 → Int32 → Prop} {Q : State → Prop} (hQ : Q = MQ below (va_Qi post (fun u : (Nat → Int32) => wAt dC dI cyI cyB cyJ cyZ A (ceX0_settle cyI cyB cyJ cyZ a0 a1 a2 g0_rows g0_columns f2 u)) A) args s 0 0 A) (hk44 : ∀ (f1 : Nat → Int32) (x2 : Int32) (x3 : Int32) (x4 : Int32) (x5 : Int32) (x6 : Int32), k44 f1 x2 x3 x4 x5 x6 → AtW p l e rmX0_settle s m args below meth c dC dI A Q 8 0 0 (ceX0_settle cyI cyB cyJ cyZ a0 a1 a2 g0_rows g0_columns f2 f1) [(0, .ref a0), (2, .int x2), (3, .int x3), (4, .int x4), (5, .int x5), (6, .int x6)] 44 []) (hk11 : ∀ (f1 : Nat → Int32) (x2 : Int32) (x3 : Int32) (x4 : Int32), k11 f1 x2 x3 x4 → AtW p l e rmX0_settle s m args below meth c dC dI A Q 8 0 0 (ceX0_settle cyI cyB cyJ cyZ a0 a1 a2 g0_rows g0_columns f2 f1) [(0, .ref a0), (2, .int x2), (3, .int x3), (4, .int x4)] 11 []) : ∀ (f1 : Nat → Int32) (x2 : Int32) (x3 : Int32) (x4 : Int32) (x5 : Int32) (x6 : Int32) (s0 : Int32), wpX0_settle_76 k44 k11 post g0_rows g0_columns f2 f1 x2 x3 x4 x5 x6 s0 → AtW p l e rmX0_settle s m args below meth c dC dI A Q 8 0 0 (ceX0_settle cyI cyB cyJ cyZ a0 a1 a2 g0_rows g0_columns f2 f1) [(0, .ref a0), (2, .int x2), (3, .int x3), (4, .int x4), (5, .int x5), (6, .int x6)] 76 [.int s0] := by
  intro f1 x2 x3 x4 x5 x6 s0 hw H locs hP hD hS ls hl
  have C1 := C0
  obtain ⟨hx, hb, hr, hml, hown, hts, hlocks⟩ := C1
  refine lv_istore (lv' := [(7, .int s0), (0, .ref a0), (2, .int x2), (3, .int x3), (4, .int x4), (5, .int x5), (6, .int x6)]) hx hb dX0_settle_76 hl (by decide) rfl (fun ls hl => ?_)
  refine lv_aload_n hx hb dX0_settle_78 rfl (lv_at hl 1 rfl) ?_
  refine va_get (D := (dC, dI)) (ci := 0) (v := .ref a1) (C := RX0) (T := TX0) (N := 4) hx hb hts inX0_settle_X0 hown hK hP 0 rfl rfl 1 (by decide) (hts (.fieldLink RX0 15 "LeadPark$Grid" "best" "[I") (List.mem_of_getElem? (i := 3) rfl)) (fun _ h9 => h9) rfl dX0_settle_79 ?_
  refine lv_iload hx hb dX0_settle_82 (lv_at hl 4 rfl) ?_
  refine lv_iload hx hb dX0_settle_84 (lv_at hl 6 rfl) ?_
  have hPc := hP.sub (ws' := ([] : va_W)) [] rfl
  have hDc := hD.sub (ws' := ([] : va_W)) [] (by decide) rfl
  have hFc := va_free (wc := ([] : va_W)) hD hS hA [] rfl
  refine va_calli (va_runS (As := [.int x4, .int x6]) (rest := [.ref a1]) ⟨hx, hb, hml, hown, hts⟩ (ctX0_cell l dC dI cyI cyB cyJ cyZ _ x4 x6 _ hw) (va_cwS 2 hts gX0_settle_X0_cell rfl rfl rfl (by decide +kernel) ⟨Nat.le_of_ble_eq_true rfl, Nat.le_of_ble_eq_true rfl⟩) ⟨wPre_blind, fun U hU hW => wPre_of hPc hK hDc hN hU hW⟩ rfl rfl hl.1 rfl (lv_room (Nat.le_of_ble_eq_true rfl)) dX0_settle_86 ⟨(Nat.zero_le _), (Nat.zero_le _)⟩) hS (fun q _ h => hFc q h) hFc (fun r2 u1 t H1 locs ht hvm hw hB hz1 hk1 hS => ?_)
  obtain ⟨hP1, hK1, hD1⟩ := hB
  rw [ht] at hP1
  obtain ⟨hP, hD⟩ := va_join (wr := pickW (ceX0_settle cyI cyB cyJ cyZ a0 a1 a2 g0_rows g0_columns f2 f1) [0, 1, 2]) (w1 := ([] : va_W)) hP hD [] [0, 1, 2] rfl rfl (by decide) (by decide) hk1 hFc hP1 hD1
  have hP := hP.sub (ws' := (ceX0_settle cyI cyB cyJ cyZ a0 a1 a2 g0_rows g0_columns f2 f1)) [0, 1, 2] rfl
  have hD := hD.sub (ws' := (ceX0_settle cyI cyB cyJ cyZ a0 a1 a2 g0_rows g0_columns f2 f1)) [0, 1, 2] (by decide) rfl
  generalize H1 = H at hP hS ⊢
  refine lv_aload_n hx hb dX0_settle_89 rfl (lv_at hl 1 rfl) ?_
  refine va_get (D := (dC, dI)) (ci := 0) (v := .ref a2) (C := RX0) (T := TX0) (N := 4) hx hb hts inX0_settle_X0 hown hK hP 0 rfl rfl 0 (by decide) (hts (.fieldLink RX0 11 "LeadPark$Grid" "prices" "[I") (List.mem_of_getElem? (i := 4) rfl)) (fun _ h9 => h9) rfl dX0_settle_90 ?_
  refine lv_iload hx hb dX0_settle_93 (lv_at hl 5 rfl) ?_
  refine lv_iload hx hb dX0_settle_95 (lv_at hl 0 rfl) ?_
  have hPc := hP.sub (ws' := ([] : va_W)) [] rfl
  have hDc := hD.sub (ws' := ([] : va_W)) [] (by decide) rfl
  have hFc := va_free (wc := ([] : va_W)) hD hS hA [] rfl
  refine va_calli (va_runS (As := [.int x5, .int s0]) (rest := [.ref a2, .int r2, .ref a1]) ⟨hx, hb, hml, hown, hts⟩ (ctX0_cell l dC dI cyI cyB cyJ cyZ _ x5 s0 _ hw) (va_cwS 2 hts gX0_settle_X0_cell rfl rfl rfl (by decide +kernel) ⟨Nat.le_of_ble_eq_true rfl, Nat.le_of_ble_eq_true rfl⟩) ⟨wPre_blind, fun U hU hW => wPre_of hPc hK hDc hN hU hW⟩ rfl rfl hl.1 rfl (lv_room (Nat.le_of_ble_eq_true rfl)) dX0_settle_97 ⟨(Nat.zero_le _), (Nat.zero_le _)⟩) hS (fun q _ h => hFc q h) hFc (fun r4 u3 t H1 locs ht hvm hw hB hz1 hk1 hS => ?_)
  obtain ⟨hP1, hK1, hD1⟩ := hB
  rw [ht] at hP1
  obtain ⟨hP, hD⟩ := va_join (wr := pickW (ceX0_settle cyI cyB cyJ cyZ a0 a1 a2 g0_rows g0_columns f2 f1) [0, 1, 2]) (w1 := ([] : va_W)) hP hD [] [0, 1, 2] rfl rfl (by decide) (by decide) hk1 hFc hP1 hD1
  have hP := hP.sub (ws' := (ceX0_settle cyI cyB cyJ cyZ a0 a1 a2 g0_rows g0_columns f2 f1)) [0, 1, 2] rfl
  have hD := hD.sub (ws' := (ceX0_settle cyI cyB cyJ cyZ a0 a1 a2 g0_rows g0_columns f2 f1)) [0, 1, 2] (by decide) rfl
  generalize H1 = H at hP hS ⊢
  obtain ⟨hi, hw⟩ := hw
  refine va_iald hx hb hK hP 2 0 rfl rfl hi dX0_settle_100 ?_
  refine lv_aload_n hx hb dX0_settle_101 rfl (lv_at hl 1 rfl) ?_
  refine lv_iload hx hb dX0_settle_102 (lv_at hl 4 rfl) ?_
  refine lv_iload hx hb dX0_settle_104 (lv_at hl 6 rfl) ?_
  have hPc := hP.sub (ws' := (ceX0_bestAhead cyI cyB cyJ cyZ a0 a1 a2 g0_rows g0_columns f1)) [0, 1] rfl
  have hDc := hD.sub (ws' := (ceX0_bestAhead cyI cyB cyJ cyZ a0 a1 a2 g0_rows g0_columns f1)) [0, 1] (by decide) rfl
  have hFc := va_free (wc := (ceX0_bestAhead cyI cyB cyJ cyZ a0 a1 a2 g0_rows g0_columns f1)) hD hS hA [0, 1] rfl
  refine va_calli (va_runV (As := [.int x4, .int x6]) (rest := [.int (f2 r4.toNatClampNeg), .int r2, .ref a1]) ⟨hx, hb, hml, hown, hts⟩ (ctX0_bestAhead l dC dI cyI cyB cyJ cyZ _ a0 a1 a2 g0_rows g0_columns f1 x4 x6 _ hw) (cwV 2 hts gX0_settle_X0_bestAhead rfl rfl rfl (by decide +kernel) ⟨Nat.le_of_ble_eq_true rfl, Nat.le_of_ble_eq_true rfl⟩) ⟨wPre_blind, va_recv hK hPc (ci := 0) (q0 := 0) rfl rfl, fun U hU hW => wPre_of hPc hK hDc hN hU hW⟩ rfl rfl hl.1 rfl (lv_room (Nat.le_of_ble_eq_true rfl)) dX0_settle_106 ⟨(Nat.zero_le _), (Nat.zero_le _)⟩) hS (fun q _ h => hFc q h) hFc (fun r6 u5 t H1 locs ht hvm hw hB hz1 hk1 hS => ?_)
  obtain ⟨hP1, hK1, hD1⟩ := hB
  rw [ht] at hP1
  obtain ⟨hP, hD⟩ := va_join (wr := pickW (ceX0_settle cyI cyB cyJ cyZ a0 a1 a2 g0_rows g0_columns f2 f1) [2]) (w1 := (ceX0_bestAhead cyI cyB cyJ cyZ a0 a1 a2 g0_rows g0_columns f1)) hP hD [0, 1] [2] rfl rfl (by decide) (by decide) hk1 hFc hP1 hD1
  have hP := hP.sub (ws' := (ceX0_settle cyI cyB cyJ cyZ a0 a1 a2 g0_rows g0_columns f2 f1)) [1, 2, 0] rfl
  have hD := hD.sub (ws' := (ceX0_settle cyI cyB cyJ cyZ a0 a1 a2 g0_rows g0_columns f2 f1)) [1, 2, 0] (by decide) rfl
  generalize H1 = H at hP hS ⊢
  refine va_mmax hx hb (hml.trans hl.1.symm) hown (hts (.methodLink RX0 56 Lib.Math.max.name) (List.mem_of_getElem? (i := 5) rfl)) (hts (.static Lib.Math.max.name) (List.mem_of_getElem? (i := 6) rfl)) (hts (.initialized "java/lang/Math") (List.mem_of_getElem? (i := 7) rfl)) (hts (.code Lib.Math.max.name Lib.Math.max.code 2 (some .int)) (List.mem_of_getElem? (i := 8) rfl)) (Nat.le_of_ble_eq_true rfl) (Nat.le_of_ble_eq_true rfl) (by decide) (by decide) dX0_settle_109 ?_
  obtain ⟨hi, hw⟩ := hw
  refine va_iast hx hb hK hP hD hS 1 0 rfl rfl hi dX0_settle_112 (fun H locs hP hD hS => ?_)
  have hP : va_P (dC, dI) vwCl (ceX0_settle cyI cyB cyJ cyZ a0 a1 a2 g0_rows g0_columns f2 (upd f1 r2.toNatClampNeg (iMax (f2 r4.toNatClampNeg) r6))) H := hP
  have hD : va_D A (ceX0_settle cyI cyB cyJ cyZ a0 a1 a2 g0_rows g0_columns f2 (upd f1 r2.toNatClampNeg (iMax (f2 r4.toNatClampNeg) r6))) := hD
  obtain ⟨v7, ev7⟩ : ∃ y : Int32, y = x6 + (-1) := ⟨_, rfl⟩
  have hw := hw v7 ev7
  refine lv_iinc (v := v7) (lv' := [(6, .int v7), (7, .int s0), (0, .ref a0), (2, .int x2), (3, .int x3), (4, .int x4), (5, .int x5)]) hx hb dX0_settle_113 hl (k := 6) rfl (by rw [ev7]; rfl) (by decide) rfl (fun ls hl => ?_)
  refine lv_goto (tgt := 44) hx hb dX0_settle_116 (by decide) ?_
  exact hk44 (upd f1 r2.toNatClampNeg (iMax (f2 r4.toNatClampNeg) r6)) x2 x3 x4 x5 v7 hw H locs hP hD hS ls (lv_sub hl [2, 3, 4, 5, 6, 0] rfl)
set_option maxRecDepth 100000 in
set_option maxHeartbeats 4000000 in
theorem bX0_settle_44 {p : Program} {l : Launch} {e : Env} {s : State} {m : MethodId} {args : Array Value} {below : List Frame} {meth : Method} {c : Code} {dC : Nat → ClassId} {dI : Nat → Nat → Nat} {cyI cyB cyJ cyZ : ClassId} {A : Nat → Prop} {a0 a1 a2 : Nat} (C0 : cxM p s m meth c args wsX0_settle RX0 cX0_settle 8 (some .int)) (hK : va_K (dC, dI) vwCl (tyA cyI cyB cyJ cyZ) s) (hN : nwA s) (hA : ∀ q : Nat, s.heap.size ≤ q → A q) {post : Int32 → ((Nat → Int32)) → Prop} {g0_rows : Int32} {g0_columns : Int32} {f2 : Nat → Int32} {k11 : (Nat → Int32) → Int32 → Int32 → Int32 → Prop} {Q : State → Prop} (hQ : Q = MQ below (va_Qi post (fun u : (Nat → Int32) => wAt dC dI cyI cyB cyJ cyZ A (ceX0_settle cyI cyB cyJ cyZ a0 a1 a2 g0_rows g0_columns f2 u)) A) args s 0 0 A) (hk11 : ∀ (f1 : Nat → Int32) (x2 : Int32) (x3 : Int32) (x4 : Int32), k11 f1 x2 x3 x4 → AtW p l e rmX0_settle s m args below meth c dC dI A Q 8 0 0 (ceX0_settle cyI cyB cyJ cyZ a0 a1 a2 g0_rows g0_columns f2 f1) [(0, .ref a0), (2, .int x2), (3, .int x3), (4, .int x4)] 11 []) : ∀ (n : Nat) (f1 : Nat → Int32) (x2 : Int32) (x3 : Int32) (x4 : Int32) (x5 : Int32) (x6 : Int32), wpX0_settle_44 k11 post g0_rows g0_columns f2 n f1 x2 x3 x4 x5 x6 → AtW p l e rmX0_settle s m args below meth c dC dI A Q 8 0 0 (ceX0_settle cyI cyB cyJ cyZ a0 a1 a2 g0_rows g0_columns f2 f1) [(0, .ref a0), (2, .int x2), (3, .int x3), (4, .int x4), (5, .int x5), (6, .int x6)] 44 [] := by
  intro n
  induction n with
  | zero => intro f1 x2 x3 x4 x5 x6 hw; exact False.elim hw
  | succ n ih =>
    intro f1 x2 x3 x4 x5 x6 hw H locs hP hD hS ls hl
    have C1 := C0
    obtain ⟨hx, hb, hr, hml, hown, hts, hlocks⟩ := C1
    refine lv_iload hx hb dX0_settle_44 (lv_at hl 5 rfl) ?_
    refine lv_if_lt (tgt := 119) hx hb dX0_settle_46 (by decide) (fun hc => ?_) (fun hc => ?_)
    · have hw := hw.1 hc
      obtain ⟨v1, ev1⟩ : ∃ y : Int32, y = x4 + (-1) := ⟨_, rfl⟩
      have hw := hw v1 ev1
      refine lv_iinc (v := v1) (lv' := [(4, .int v1), (0, .ref a0), (2, .int x2), (3, .int x3), (5, .int x5), (6, .int x6)]) hx hb dX0_settle_119 hl (k := 3) rfl (by rw [ev1]; rfl) (by decide) rfl (fun ls hl => ?_)
      refine lv_goto (tgt := 11) hx hb dX0_settle_122 (by decide) ?_
      exact hk11 f1 x2 x3 v1 hw H locs hP hD hS ls (lv_sub hl [1, 2, 3, 0] rfl)
    · have hw := hw.2 hc
      refine lv_iload hx hb dX0_settle_49 (lv_at hl 5 rfl) ?_
      refine lv_iload_n hx hb dX0_settle_51 rfl (lv_at hl 2 rfl) ?_
      refine lv_iadd hx hb dX0_settle_52 ?_
      refine lv_aload_n hx hb dX0_settle_53 rfl (lv_at hl 0 rfl) ?_
      refine va_get (D := (dC, dI)) (ci := 0) (v := .int g0_columns) (C := RX0) (T := TX0) (N := 4) hx hb hts inX0_settle_X0 hown hK hP 0 rfl rfl 3 (by decide) (hts (.fieldLink RX0 22 "LeadPark$Grid" "columns" "I") (List.mem_of_getElem? (i := 2) rfl)) (fun _ h9 => h9) rfl dX0_settle_54 ?_
      refine lv_icmp_lt (tgt := 72) hx hb dX0_settle_57 (by decide) (fun hc => ?_) (fun hc => ?_)
      · have hw := hw.1 hc
        refine lv_iload hx hb dX0_settle_72 (lv_at hl 5 rfl) ?_
        refine lv_iload_n hx hb dX0_settle_74 rfl (lv_at hl 2 rfl) ?_
        refine lv_iadd hx hb dX0_settle_75 ?_
        exact bX0_settle_76 C0 hK hN hA hQ ih hk11 f1 x2 x3 x4 x5 x6 (x6 + x3) hw _ _ hP hD hS ls (lv_sub hl [0, 1, 2, 3, 4, 5] rfl)
      · have hw := hw.2 hc
        refine lv_iload hx hb dX0_settle_60 (lv_at hl 5 rfl) ?_
        refine lv_iload_n hx hb dX0_settle_62 rfl (lv_at hl 2 rfl) ?_
        refine lv_iadd hx hb dX0_settle_63 ?_
        refine lv_aload_n hx hb dX0_settle_64 rfl (lv_at hl 0 rfl) ?_
        refine va_get (D := (dC, dI)) (ci := 0) (v := .int g0_columns) (C := RX0) (T := TX0) (N := 4) hx hb hts inX0_settle_X0 hown hK hP 0 rfl rfl 3 (by decide) (hts (.fieldLink RX0 22 "LeadPark$Grid" "columns" "I") (List.mem_of_getElem? (i := 2) rfl)) (fun _ h9 => h9) rfl dX0_settle_65 ?_
        refine lv_isub hx hb dX0_settle_68 ?_
        refine lv_goto (tgt := 76) hx hb dX0_settle_69 (by decide) ?_
        exact bX0_settle_76 C0 hK hN hA hQ ih hk11 f1 x2 x3 x4 x5 x6 ((x6 + x3) - g0_columns) hw _ _ hP hD hS ls (lv_sub hl [0, 1, 2, 3, 4, 5] rfl)
set_option maxRecDepth 100000 in
set_option maxHeartbeats 4000000 in
theorem bX0_settle_37 {p : Program} {l : Launch} {e : Env} {s : State} {m : MethodId} {args : Array Value} {below : List Frame} {meth : Method} {c : Code} {dC : Nat → ClassId} {dI : Nat → Nat → Nat} {cyI cyB cyJ cyZ : ClassId} {A : Nat → Prop} {a0 a1 a2 : Nat} (C0 : cxM p s m meth c args wsX0_settle RX0 cX0_settle 8 (some .int)) (hK : va_K (dC, dI) vwCl (tyA cyI cyB cyJ cyZ) s) (hN : nwA s) (hA : ∀ q : Nat, s.heap.size ≤ q → A q) {post : Int32 → ((Nat → Int32)) → Prop} {g0_rows : Int32} {g0_columns : Int32} {f2 : Nat → Int32} {k11 : (Nat → Int32) → Int32 → Int32 → Int32 → Prop} {Q : State → Prop} (hQ : Q = MQ below (va_Qi post (fun u : (Nat → Int32) => wAt dC dI cyI cyB cyJ cyZ A (ceX0_settle cyI cyB cyJ cyZ a0 a1 a2 g0_rows g0_columns f2 u)) A) args s 0 0 A) (hk11 : ∀ (f1 : Nat → Int32) (x2 : Int32) (x3 : Int32) (x4 : Int32), k11 f1 x2 x3 x4 → AtW p l e rmX0_settle s m args below meth c dC dI A Q 8 0 0 (ceX0_settle cyI cyB cyJ cyZ a0 a1 a2 g0_rows g0_columns f2 f1) [(0, .ref a0), (2, .int x2), (3, .int x3), (4, .int x4)] 11 []) : ∀ (f1 : Nat → Int32) (x2 : Int32) (x3 : Int32) (x4 : Int32) (s0 : Int32), wpX0_settle_37 k11 post g0_rows g0_columns f2 f1 x2 x3 x4 s0 → AtW p l e rmX0_settle s m args below meth c dC dI A Q 8 0 0 (ceX0_settle cyI cyB cyJ cyZ a0 a1 a2 g0_rows g0_columns f2 f1) [(0, .ref a0), (2, .int x2), (3, .int x3), (4, .int x4)] 37 [.int s0] := by
  intro f1 x2 x3 x4 s0 hw H locs hP hD hS ls hl
  have C1 := C0
  obtain ⟨hx, hb, hr, hml, hown, hts, hlocks⟩ := C1
  refine lv_istore (lv' := [(5, .int s0), (0, .ref a0), (2, .int x2), (3, .int x3), (4, .int x4)]) hx hb dX0_settle_37 hl (by decide) rfl (fun ls hl => ?_)
  refine lv_iload_n hx hb dX0_settle_39 rfl (lv_at hl 2 rfl) ?_
  refine lv_iconst (v := 1) hx hb dX0_settle_40 (by decide) ?_
  refine lv_isub hx hb dX0_settle_41 ?_
  refine lv_topi (fun v1 ev1 => ?_)
  have hw := hw v1 ev1
  refine lv_istore (lv' := [(6, .int v1), (5, .int s0), (0, .ref a0), (2, .int x2), (3, .int x3), (4, .int x4)]) hx hb dX0_settle_42 hl (by decide) rfl (fun ls hl => ?_)
  obtain ⟨nn, hw⟩ := hw
  exact bX0_settle_44 C0 hK hN hA hQ hk11 nn f1 x2 x3 x4 s0 v1 hw _ _ hP hD hS ls (lv_sub hl [2, 3, 4, 5, 1, 0] rfl)
set_option maxRecDepth 100000 in
set_option maxHeartbeats 4000000 in
theorem bX0_settle_11 {p : Program} {l : Launch} {e : Env} {s : State} {m : MethodId} {args : Array Value} {below : List Frame} {meth : Method} {c : Code} {dC : Nat → ClassId} {dI : Nat → Nat → Nat} {cyI cyB cyJ cyZ : ClassId} {A : Nat → Prop} {a0 a1 a2 : Nat} (C0 : cxM p s m meth c args wsX0_settle RX0 cX0_settle 8 (some .int)) (hK : va_K (dC, dI) vwCl (tyA cyI cyB cyJ cyZ) s) (hN : nwA s) (hA : ∀ q : Nat, s.heap.size ≤ q → A q) {post : Int32 → ((Nat → Int32)) → Prop} {g0_rows : Int32} {g0_columns : Int32} {f2 : Nat → Int32} {Q : State → Prop} (hQ : Q = MQ below (va_Qi post (fun u : (Nat → Int32) => wAt dC dI cyI cyB cyJ cyZ A (ceX0_settle cyI cyB cyJ cyZ a0 a1 a2 g0_rows g0_columns f2 u)) A) args s 0 0 A) : ∀ (n : Nat) (f1 : Nat → Int32) (x2 : Int32) (x3 : Int32) (x4 : Int32), wpX0_settle_11 post g0_rows g0_columns f2 n f1 x2 x3 x4 → AtW p l e rmX0_settle s m args below meth c dC dI A Q 8 0 0 (ceX0_settle cyI cyB cyJ cyZ a0 a1 a2 g0_rows g0_columns f2 f1) [(0, .ref a0), (2, .int x2), (3, .int x3), (4, .int x4)] 11 [] := by
  intro n
  induction n with
  | zero => intro f1 x2 x3 x4 hw; exact False.elim hw
  | succ n ih =>
    intro f1 x2 x3 x4 hw H locs hP hD hS ls hl
    have C1 := C0
    obtain ⟨hx, hb, hr, hml, hown, hts, hlocks⟩ := C1
    refine lv_iload hx hb dX0_settle_11 (lv_at hl 3 rfl) ?_
    refine lv_if_lt (tgt := 125) hx hb dX0_settle_13 (by decide) (fun hc => ?_) (fun hc => ?_)
    · have hw := hw.1 hc
      refine lv_aload_n hx hb dX0_settle_125 rfl (lv_at hl 0 rfl) ?_
      refine va_get (D := (dC, dI)) (ci := 0) (v := .ref a1) (C := RX0) (T := TX0) (N := 4) hx hb hts inX0_settle_X0 hown hK hP 0 rfl rfl 1 (by decide) (hts (.fieldLink RX0 15 "LeadPark$Grid" "best" "[I") (List.mem_of_getElem? (i := 3) rfl)) (fun _ h9 => h9) rfl dX0_settle_126 ?_
      refine lv_iconst (v := 0) hx hb dX0_settle_129 (by decide) ?_
      refine lv_iconst (v := 0) hx hb dX0_settle_130 (by decide) ?_
      have hPc := hP.sub (ws' := ([] : va_W)) [] rfl
      have hDc := hD.sub (ws' := ([] : va_W)) [] (by decide) rfl
      have hFc := va_free (wc := ([] : va_W)) hD hS hA [] rfl
      refine va_calli (va_runS (As := [.int 0, .int 0]) (rest := [.ref a1]) ⟨hx, hb, hml, hown, hts⟩ (ctX0_cell l dC dI cyI cyB cyJ cyZ _ 0 0 _ hw) (va_cwS 2 hts gX0_settle_X0_cell rfl rfl rfl (by decide +kernel) ⟨Nat.le_of_ble_eq_true rfl, Nat.le_of_ble_eq_true rfl⟩) ⟨wPre_blind, fun U hU hW => wPre_of hPc hK hDc hN hU hW⟩ rfl rfl hl.1 rfl (lv_room (Nat.le_of_ble_eq_true rfl)) dX0_settle_131 ⟨(Nat.zero_le _), (Nat.zero_le _)⟩) hS (fun q _ h => hFc q h) hFc (fun r2 u1 t H1 locs ht hvm hw hB hz1 hk1 hS => ?_)
      obtain ⟨hP1, hK1, hD1⟩ := hB
      rw [ht] at hP1
      obtain ⟨hP, hD⟩ := va_join (wr := pickW (ceX0_settle cyI cyB cyJ cyZ a0 a1 a2 g0_rows g0_columns f2 f1) [0, 1, 2]) (w1 := ([] : va_W)) hP hD [] [0, 1, 2] rfl rfl (by decide) (by decide) hk1 hFc hP1 hD1
      have hP := hP.sub (ws' := (ceX0_settle cyI cyB cyJ cyZ a0 a1 a2 g0_rows g0_columns f2 f1)) [0, 1, 2] rfl
      have hD := hD.sub (ws' := (ceX0_settle cyI cyB cyJ cyZ a0 a1 a2 g0_rows g0_columns f2 f1)) [0, 1, 2] (by decide) rfl
      generalize H1 = H at hP hS ⊢
      obtain ⟨hi, hw⟩ := hw
      refine va_iald hx hb hK hP 1 0 rfl rfl hi dX0_settle_134 ?_
      rw [hQ]
      exact W.iret (v := f1 r2.toNatClampNeg) hx hb hr (fun t ht hW => ⟨⟨f1 r2.toNatClampNeg, (f1), rfl, hw, by rw [ht]; exact hP, va_K.moved hW.alike hK, hD⟩, hS.F ht⟩) hS.2.2 dX0_settle_135
    · have hw := hw.2 hc
      refine lv_iload hx hb dX0_settle_16 (lv_at hl 3 rfl) ?_
      refine lv_aload_n hx hb dX0_settle_18 rfl (lv_at hl 0 rfl) ?_
      refine va_get (D := (dC, dI)) (ci := 0) (v := .int g0_rows) (C := RX0) (T := TX0) (N := 4) hx hb hts inX0_settle_X0 hown hK hP 0 rfl rfl 2 (by decide) (hts (.fieldLink RX0 18 "LeadPark$Grid" "rows" "I") (List.mem_of_getElem? (i := 1) rfl)) (fun _ h9 => h9) rfl dX0_settle_19 ?_
      refine lv_icmp_lt (tgt := 35) hx hb dX0_settle_22 (by decide) (fun hc => ?_) (fun hc => ?_)
      · have hw := hw.1 hc
        refine lv_iload hx hb dX0_settle_35 (lv_at hl 3 rfl) ?_
        exact bX0_settle_37 C0 hK hN hA hQ ih f1 x2 x3 x4 x4 hw _ _ hP hD hS ls (lv_sub hl [0, 1, 2, 3] rfl)
      · have hw := hw.2 hc
        refine lv_iload hx hb dX0_settle_25 (lv_at hl 3 rfl) ?_
        refine lv_aload_n hx hb dX0_settle_27 rfl (lv_at hl 0 rfl) ?_
        refine va_get (D := (dC, dI)) (ci := 0) (v := .int g0_rows) (C := RX0) (T := TX0) (N := 4) hx hb hts inX0_settle_X0 hown hK hP 0 rfl rfl 2 (by decide) (hts (.fieldLink RX0 18 "LeadPark$Grid" "rows" "I") (List.mem_of_getElem? (i := 1) rfl)) (fun _ h9 => h9) rfl dX0_settle_28 ?_
        refine lv_isub hx hb dX0_settle_31 ?_
        refine lv_goto (tgt := 37) hx hb dX0_settle_32 (by decide) ?_
        exact bX0_settle_37 C0 hK hN hA hQ ih f1 x2 x3 x4 (x4 - g0_rows) hw _ _ hP hD hS ls (lv_sub hl [0, 1, 2, 3] rfl)
set_option maxRecDepth 100000 in
set_option maxHeartbeats 4000000 in
theorem ctX0_settle (l : Launch) (dC : Nat → ClassId) (dI : Nat → Nat → Nat) (cyI cyB cyJ cyZ : ClassId) (sz : Nat) (a0 a1 a2 : Nat) (g0_rows : Int32) (g0_columns : Int32) (f2 : Nat → Int32) (f1 : Nat → Int32) (p0 : Int32) (p1 : Int32) (p2 : Int32) (post : Int32 → ((Nat → Int32)) → Prop) (hw : wpX0_settle post g0_rows g0_columns f2 f1 p0 p1 p2) : Met l yX0_settle wsX0_settle rmX0_settle (va_Pc [.ref a0, .int p0, .int p1, .int p2] (wPre dC dI cyI cyB cyJ cyZ sz (ceX0_settle cyI cyB cyJ cyZ a0 a1 a2 g0_rows g0_columns f2 f1))) (va_Qi post (fun u : (Nat → Int32) => wAt dC dI cyI cyB cyJ cyZ (va_A (ceX0_settle cyI cyB cyJ cyZ a0 a1 a2 g0_rows g0_columns f2 f1) sz) (ceX0_settle cyI cyB cyJ cyZ a0 a1 a2 g0_rows g0_columns f2 u)) (va_A (ceX0_settle cyI cyB cyJ cyZ a0 a1 a2 g0_rows g0_columns f2 f1) sz)) 0 0 (va_A (ceX0_settle cyI cyB cyJ cyZ a0 a1 a2 g0_rows g0_columns f2 f1) sz) := by
  refine Met.ofW (cc := cX0_settle) (maxL := 8) (ret := (some .int)) (by decide) rfl ?_
  intro p e s m args below meth c s₁ B hml hv
  obtain ⟨rfl, hsz, hP, hK, hD0, hN⟩ := hv
  have hx := B.exec
  have hb := B.bytes
  have hr := B.returns
  have hts := atoms_spec (ws := wsX0_settle) B.pre
  have hown : s.vm.findClass RX0 = some m.cls := findClass_of_methodNamed B.named
  have hlocks := B.notSynchronized
  subst hsz
  have hD := hD0.self (sz := s.heap.size)
  generalize hAe : va_A (ceX0_settle cyI cyB cyJ cyZ a0 a1 a2 g0_rows g0_columns f2 f1) s.heap.size = A at hD ⊢
  have hA : ∀ q : Nat, s.heap.size ≤ q → A q := fun q h => by rw [← hAe]; exact Or.inr h
  have hS : va_S A s.heap s.heap [] := va_S.rf
  have C0 : cxM p s m meth c _ wsX0_settle RX0 cX0_settle 8 (some .int) := ⟨hx, hb, hr, hml, hown, hts, hlocks⟩
  have hl := lv_entry ([.ref a0, .int p0, .int p1, .int p2]) (n := 8) (Nat.le_of_ble_eq_true rfl)
  rw [lg_entry_eq]
  generalize (lg_sl ([.ref a0, .int p0, .int p1, .int p2]) ++ List.replicate (8 - (lg_sl ([.ref a0, .int p0, .int p1, .int p2])).length) Slot.unset).toArray = ls at hl ⊢
  have hl : lv_has ls 8 [(0, .ref a0), (1, .int p0), (2, .int p1), (3, .int p2)] := hl
  show W p l e rmX0_settle s m _ below meth c _ _ _ _ _ _
  refine wq (fun Q hQ => ?_)
  refine lv_aload_n hx hb dX0_settle_0 rfl (lv_at hl 0 rfl) ?_
  refine lv_iload_n hx hb dX0_settle_1 rfl (lv_at hl 1 rfl) ?_
  refine lv_iload_n hx hb dX0_settle_2 rfl (lv_at hl 2 rfl) ?_
  have hPc := hP.sub (ws' := (ceX0_fence cyI cyB cyJ cyZ a0 a1 a2 g0_rows g0_columns f1)) [0, 1] rfl
  have hDc := hD.sub (ws' := (ceX0_fence cyI cyB cyJ cyZ a0 a1 a2 g0_rows g0_columns f1)) [0, 1] (by decide) rfl
  have hFc := va_free (wc := (ceX0_fence cyI cyB cyJ cyZ a0 a1 a2 g0_rows g0_columns f1)) hD hS hA [0, 1] rfl
  refine va_callv (va_runV (As := [.int p0, .int p1]) (rest := []) ⟨hx, hb, hml, hown, hts⟩ (ctX0_fence l dC dI cyI cyB cyJ cyZ _ a0 a1 a2 g0_rows g0_columns f1 p0 p1 _ hw) (cwV 2 hts gX0_settle_X0_fence rfl rfl rfl (by decide +kernel) ⟨Nat.le_of_ble_eq_true rfl, Nat.le_of_ble_eq_true rfl⟩) ⟨wPre_blind, va_recv hK hPc (ci := 0) (q0 := 0) rfl rfl, fun U hU hW => wPre_of hPc hK hDc hN hU hW⟩ rfl rfl hl.1 rfl (lv_room (Nat.le_of_ble_eq_true rfl)) dX0_settle_3 ⟨(Nat.zero_le _), (Nat.zero_le _)⟩) hS (fun q _ h => hFc q h) hFc (fun u1 t H1 locs ht hvm hw hB hz1 hk1 hS => ?_)
  obtain ⟨hP1, hK1, hD1⟩ := hB
  rw [ht] at hP1
  obtain ⟨hP, hD⟩ := va_join (wr := pickW (ceX0_settle cyI cyB cyJ cyZ a0 a1 a2 g0_rows g0_columns f2 f1) [2]) (w1 := (ceX0_fence cyI cyB cyJ cyZ a0 a1 a2 g0_rows g0_columns u1)) hP hD [0, 1] [2] rfl rfl (by decide) (by decide) hk1 hFc hP1 hD1
  have hP := hP.sub (ws' := (ceX0_settle cyI cyB cyJ cyZ a0 a1 a2 g0_rows g0_columns f2 u1)) [1, 2, 0] rfl
  have hD := hD.sub (ws' := (ceX0_settle cyI cyB cyJ cyZ a0 a1 a2 g0_rows g0_columns f2 u1)) [1, 2, 0] (by decide) rfl
  generalize H1 = H at hP hS ⊢
  refine lv_iload_n hx hb dX0_settle_6 rfl (lv_at hl 1 rfl) ?_
  refine lv_iconst (v := 1) hx hb dX0_settle_7 (by decide) ?_
  refine lv_isub hx hb dX0_settle_8 ?_
  refine lv_topi (fun v2 ev2 => ?_)
  have hw := hw v2 ev2
  refine lv_istore (lv' := [(4, .int v2), (0, .ref a0), (1, .int p0), (2, .int p1), (3, .int p2)]) hx hb dX0_settle_9 hl (by decide) rfl (fun ls hl => ?_)
  obtain ⟨nn, hw⟩ := hw
  exact bX0_settle_11 C0 hK hN hA hQ nn u1 p1 p2 v2 hw _ _ hP hD hS ls (lv_sub hl [1, 3, 4, 0] rfl)
/-! LeadPark$Grid.isEnd (II)Z -/
abbrev ceX0_isEnd (cyI cyB cyJ cyZ : ClassId) (a0 b0_prices b0_best : Nat) (g0_rows : Int32) (g0_columns : Int32) : va_W := [(a0, .inr (0, [.ref b0_prices, .ref b0_best, .int g0_rows, .int g0_columns]))]

theorem inX0_isEnd_X0 : ∀ w ∈ wsX00, w ∈ wsX0_isEnd := fun _ h => List.mem_cons_of_mem _ (List.mem_append_right _ h)
abbrev rmX0_isEnd : Room := { frames := 0, cells := 0, slots := 0, locals := 0 }
set_option maxRecDepth 100000 in
set_option maxHeartbeats 4000000 in
theorem ctX0_isEnd (l : Launch) (dC : Nat → ClassId) (dI : Nat → Nat → Nat) (cyI cyB cyJ cyZ : ClassId) (sz : Nat) (a0 b0_prices b0_best : Nat) (g0_rows : Int32) (g0_columns : Int32) (p0 : Int32) (p1 : Int32) (post : Int32 → Unit → Prop) (hw : wpX0_isEnd post g0_rows g0_columns p0 p1) : Met l yX0_isEnd wsX0_isEnd rmX0_isEnd (va_Pc [.ref a0, .int p0, .int p1] (wPre dC dI cyI cyB cyJ cyZ sz (ceX0_isEnd cyI cyB cyJ cyZ a0 b0_prices b0_best g0_rows g0_columns))) (va_Qi post (fun u : Unit => wAt dC dI cyI cyB cyJ cyZ (va_A (ceX0_isEnd cyI cyB cyJ cyZ a0 b0_prices b0_best g0_rows g0_columns) sz) (ceX0_isEnd cyI cyB cyJ cyZ a0 b0_prices b0_best g0_rows g0_columns)) (va_A (ceX0_isEnd cyI cyB cyJ cyZ a0 b0_prices b0_best g0_rows g0_columns) sz)) 0 0 (va_A (ceX0_isEnd cyI cyB cyJ cyZ a0 b0_prices b0_best g0_rows g0_columns) sz) := by
  refine Met.ofW (cc := cX0_isEnd) (maxL := 3) (ret := (some .boolean)) (by decide) rfl ?_
  intro p e s m args below meth c s₁ B hml hv
  obtain ⟨rfl, hsz, hP, hK, hD0, hN⟩ := hv
  have hx := B.exec
  have hb := B.bytes
  have hr := B.returns
  have hts := atoms_spec (ws := wsX0_isEnd) B.pre
  have hown : s.vm.findClass RX0 = some m.cls := findClass_of_methodNamed B.named
  have hlocks := B.notSynchronized
  subst hsz
  have hD := hD0.self (sz := s.heap.size)
  generalize hAe : va_A (ceX0_isEnd cyI cyB cyJ cyZ a0 b0_prices b0_best g0_rows g0_columns) s.heap.size = A at hD ⊢
  have hA : ∀ q : Nat, s.heap.size ≤ q → A q := fun q h => by rw [← hAe]; exact Or.inr h
  have hS : va_S A s.heap s.heap [] := va_S.rf
  have C0 : cxM p s m meth c _ wsX0_isEnd RX0 cX0_isEnd 3 (some .boolean) := ⟨hx, hb, hr, hml, hown, hts, hlocks⟩
  have hl := lv_entry ([.ref a0, .int p0, .int p1]) (n := 3) (Nat.le_of_ble_eq_true rfl)
  rw [lg_entry_eq]
  generalize (lg_sl ([.ref a0, .int p0, .int p1]) ++ List.replicate (3 - (lg_sl ([.ref a0, .int p0, .int p1])).length) Slot.unset).toArray = ls at hl ⊢
  have hl : lv_has ls 3 [(0, .ref a0), (1, .int p0), (2, .int p1)] := hl
  show W p l e rmX0_isEnd s m _ below meth c _ _ _ _ _ _
  refine wq (fun Q hQ => ?_)
  refine lv_iload_n hx hb dX0_isEnd_0 rfl (lv_at hl 1 rfl) ?_
  refine lv_aload_n hx hb dX0_isEnd_1 rfl (lv_at hl 0 rfl) ?_
  refine va_get (D := (dC, dI)) (ci := 0) (v := .int g0_rows) (C := RX0) (T := TX0) (N := 4) hx hb hts inX0_isEnd_X0 hown hK hP 0 rfl rfl 2 (by decide) (hts (.fieldLink RX0 18 "LeadPark$Grid" "rows" "I") (List.mem_of_getElem? (i := 1) rfl)) (fun _ h9 => h9) rfl dX0_isEnd_2 ?_
  refine lv_iconst (v := 1) hx hb dX0_isEnd_5 (by decide) ?_
  refine lv_isub hx hb dX0_isEnd_6 ?_
  refine lv_icmp_lt (tgt := 24) hx hb dX0_isEnd_7 (by decide) (fun hc => ?_) (fun hc => ?_)
  · have hw := hw.1 hc
    refine lv_iconst (v := 0) hx hb dX0_isEnd_24 (by decide) ?_
    rw [hQ]
    exact W.zret (v := 0) (ty := .boolean) hx hb hr rfl (fun t ht hW => ⟨⟨0, (), rfl, hw, by rw [ht]; exact hP, va_K.moved hW.alike hK, hD⟩, hS.F ht⟩) hS.2.2 dX0_isEnd_25
  · have hw := hw.2 hc
    refine lv_iload_n hx hb dX0_isEnd_10 rfl (lv_at hl 2 rfl) ?_
    refine lv_aload_n hx hb dX0_isEnd_11 rfl (lv_at hl 0 rfl) ?_
    refine va_get (D := (dC, dI)) (ci := 0) (v := .int g0_columns) (C := RX0) (T := TX0) (N := 4) hx hb hts inX0_isEnd_X0 hown hK hP 0 rfl rfl 3 (by decide) (hts (.fieldLink RX0 22 "LeadPark$Grid" "columns" "I") (List.mem_of_getElem? (i := 2) rfl)) (fun _ h9 => h9) rfl dX0_isEnd_12 ?_
    refine lv_iconst (v := 1) hx hb dX0_isEnd_15 (by decide) ?_
    refine lv_isub hx hb dX0_isEnd_16 ?_
    refine lv_icmp_lt (tgt := 24) hx hb dX0_isEnd_17 (by decide) (fun hc => ?_) (fun hc => ?_)
    · have hw := hw.1 hc
      refine lv_iconst (v := 0) hx hb dX0_isEnd_24 (by decide) ?_
      rw [hQ]
      exact W.zret (v := 0) (ty := .boolean) hx hb hr rfl (fun t ht hW => ⟨⟨0, (), rfl, hw, by rw [ht]; exact hP, va_K.moved hW.alike hK, hD⟩, hS.F ht⟩) hS.2.2 dX0_isEnd_25
    · have hw := hw.2 hc
      refine lv_iconst (v := 1) hx hb dX0_isEnd_20 (by decide) ?_
      refine lv_goto (tgt := 25) hx hb dX0_isEnd_21 (by decide) ?_
      rw [hQ]
      exact W.zret (v := 1) (ty := .boolean) hx hb hr rfl (fun t ht hW => ⟨⟨1, (), rfl, hw, by rw [ht]; exact hP, va_K.moved hW.alike hK, hD⟩, hS.F ht⟩) hS.2.2 dX0_isEnd_25
/-! LeadPark$Grid.firstStep (II)I -/
abbrev ceX0_firstStep (cyI cyB cyJ cyZ : ClassId) (a0 a1 b0_prices : Nat) (g0_rows : Int32) (g0_columns : Int32) (f1 : Nat → Int32) : va_W := [(a0, .inr (0, [.ref b0_prices, .ref a1, .int g0_rows, .int g0_columns])), (a1, .inl (cyI, 1089, .inl f1))]

theorem inX0_firstStep_X0 : ∀ w ∈ wsX00, w ∈ wsX0_firstStep := fun _ h => List.mem_cons_of_mem _ (List.mem_append_right _ h)
abbrev rmX0_firstStep : Room := { frames := 1, cells := 0, slots := 0, locals := 21 }
set_option maxRecDepth 100000 in
set_option maxHeartbeats 4000000 in
theorem bX0_firstStep_2 {p : Program} {l : Launch} {e : Env} {s : State} {m : MethodId} {args : Array Value} {below : List Frame} {meth : Method} {c : Code} {dC : Nat → ClassId} {dI : Nat → Nat → Nat} {cyI cyB cyJ cyZ : ClassId} {A : Nat → Prop} {a0 a1 b0_prices : Nat} {g0_rows : Int32} {g0_columns : Int32} (C0 : cxM p s m meth c args wsX0_firstStep RX0 cX0_firstStep 4 (some .int)) (hK : va_K (dC, dI) vwCl (tyA cyI cyB cyJ cyZ) s) (hN : nwA s) (hA : ∀ q : Nat, s.heap.size ≤ q → A q) {post : Int32 → Unit → Prop} {f1 : Nat → Int32} {Q : State → Prop} (hQ : Q = MQ below (va_Qi post (fun u : Unit => wAt dC dI cyI cyB cyJ cyZ A (ceX0_firstStep cyI cyB cyJ cyZ a0 a1 b0_prices g0_rows g0_columns f1)) A) args s 0 0 A) : ∀ (n : Nat) (x1 : Int32) (x2 : Int32) (x3 : Int32), wpX0_firstStep_2 post f1 n x1 x2 x3 → AtW p l e rmX0_firstStep s m args below meth c dC dI A Q 4 0 0 (ceX0_firstStep cyI cyB cyJ cyZ a0 a1 b0_prices g0_rows g0_columns f1) [(0, .ref a0), (1, .int x1), (2, .int x2), (3, .int x3)] 2 [] := by
  intro n
  induction n with
  | zero => intro x1 x2 x3 hw; exact False.elim hw
  | succ n ih =>
    intro x1 x2 x3 hw H locs hP hD hS ls hl
    have C1 := C0
    obtain ⟨hx, hb, hr, hml, hown, hts, hlocks⟩ := C1
    refine lv_iload_n hx hb dX0_firstStep_2 rfl (lv_at hl 3 rfl) ?_
    refine lv_iconst (v := 3) hx hb dX0_firstStep_3 (by decide) ?_
    refine lv_icmp_ge (tgt := 48) hx hb dX0_firstStep_4 (by decide) (fun hc => ?_) (fun hc => ?_)
    · have hw := hw.1 hc
      refine lv_iconst (v := 3) hx hb dX0_firstStep_48 (by decide) ?_
      rw [hQ]
      exact W.iret (v := 3) hx hb hr (fun t ht hW => ⟨⟨3, (), rfl, hw, by rw [ht]; exact hP, va_K.moved hW.alike hK, hD⟩, hS.F ht⟩) hS.2.2 dX0_firstStep_49
    · have hw := hw.2 hc
      refine lv_aload_n hx hb dX0_firstStep_7 rfl (lv_at hl 0 rfl) ?_
      refine va_get (D := (dC, dI)) (ci := 0) (v := .ref a1) (C := RX0) (T := TX0) (N := 4) hx hb hts inX0_firstStep_X0 hown hK hP 0 rfl rfl 1 (by decide) (hts (.fieldLink RX0 15 "LeadPark$Grid" "best" "[I") (List.mem_of_getElem? (i := 1) rfl)) (fun _ h9 => h9) rfl dX0_firstStep_8 ?_
      refine lv_iload_n hx hb dX0_firstStep_11 rfl (lv_at hl 1 rfl) ?_
      refine lv_iload_n hx hb dX0_firstStep_12 rfl (lv_at hl 3 rfl) ?_
      have hPc := hP.sub (ws' := ([] : va_W)) [] rfl
      have hDc := hD.sub (ws' := ([] : va_W)) [] (by decide) rfl
      have hFc := va_free (wc := ([] : va_W)) hD hS hA [] rfl
      refine va_calli (va_runSN (As := [.int x3]) (rest := [.int x1, .ref a1]) ⟨hx, hb, hml, hown, hts⟩ (ctX10_manMoves l dC dI cyI cyB cyJ cyZ _ x3 _ hw) ⟨va_cnB 1 hts ggX0_firstStep_X10_manMoves rfl rfl rfl (hN _ (List.mem_of_getElem? (i := 50) rfl)) (hts (.initialized RX10) (List.mem_of_getElem? (i := 3) rfl)) (by decide +kernel) ⟨Nat.le_of_ble_eq_true rfl, Nat.le_of_ble_eq_true rfl⟩, (hts (.static yX10_manMoves) (List.mem_of_getElem? (i := 2) rfl)), trivial⟩ ⟨wPre_blind, fun U hU hW => wPre_of hPc hK hDc hN hU hW⟩ rfl rfl hl.1 rfl (lv_room (Nat.le_of_ble_eq_true rfl)) dX0_firstStep_13 ⟨(Nat.zero_le _), (Nat.zero_le _)⟩) hS (fun q _ h => hFc q h) hFc (fun r2 u1 t H1 locs ht hvm hw hB hz1 hk1 hS => ?_)
      obtain ⟨hP1, hK1, hD1⟩ := hB
      rw [ht] at hP1
      obtain ⟨hP, hD⟩ := va_join (wr := pickW (ceX0_firstStep cyI cyB cyJ cyZ a0 a1 b0_prices g0_rows g0_columns f1) [0, 1]) (w1 := ([] : va_W)) hP hD [] [0, 1] rfl rfl (by decide) (by decide) hk1 hFc hP1 hD1
      have hP := hP.sub (ws' := (ceX0_firstStep cyI cyB cyJ cyZ a0 a1 b0_prices g0_rows g0_columns f1)) [0, 1] rfl
      have hD := hD.sub (ws' := (ceX0_firstStep cyI cyB cyJ cyZ a0 a1 b0_prices g0_rows g0_columns f1)) [0, 1] (by decide) rfl
      generalize H1 = H at hP hS ⊢
      refine lv_iadd hx hb dX0_firstStep_16 ?_
      refine lv_iload_n hx hb dX0_firstStep_17 rfl (lv_at hl 2 rfl) ?_
      refine lv_iload_n hx hb dX0_firstStep_18 rfl (lv_at hl 3 rfl) ?_
      have hPc := hP.sub (ws' := ([] : va_W)) [] rfl
      have hDc := hD.sub (ws' := ([] : va_W)) [] (by decide) rfl
      have hFc := va_free (wc := ([] : va_W)) hD hS hA [] rfl
      refine va_calli (va_runSN (As := [.int x3]) (rest := [.int x2, .int (x1 + r2), .ref a1]) ⟨hx, hb, hml, hown, hts⟩ (ctX10_dogMoves l dC dI cyI cyB cyJ cyZ _ x3 _ hw) ⟨va_cnB 1 hts ggX0_firstStep_X10_dogMoves rfl rfl rfl (hN _ (List.mem_of_getElem? (i := 51) rfl)) (hts (.initialized RX10) (List.mem_of_getElem? (i := 3) rfl)) (by decide +kernel) ⟨Nat.le_of_ble_eq_true rfl, Nat.le_of_ble_eq_true rfl⟩, (hts (.static yX10_dogMoves) (List.mem_of_getElem? (i := 5) rfl)), trivial⟩ ⟨wPre_blind, fun U hU hW => wPre_of hPc hK hDc hN hU hW⟩ rfl rfl hl.1 rfl (lv_room (Nat.le_of_ble_eq_true rfl)) dX0_firstStep_19 ⟨(Nat.zero_le _), (Nat.zero_le _)⟩) hS (fun q _ h => hFc q h) hFc (fun r4 u3 t H1 locs ht hvm hw hB hz1 hk1 hS => ?_)
      obtain ⟨hP1, hK1, hD1⟩ := hB
      rw [ht] at hP1
      obtain ⟨hP, hD⟩ := va_join (wr := pickW (ceX0_firstStep cyI cyB cyJ cyZ a0 a1 b0_prices g0_rows g0_columns f1) [0, 1]) (w1 := ([] : va_W)) hP hD [] [0, 1] rfl rfl (by decide) (by decide) hk1 hFc hP1 hD1
      have hP := hP.sub (ws' := (ceX0_firstStep cyI cyB cyJ cyZ a0 a1 b0_prices g0_rows g0_columns f1)) [0, 1] rfl
      have hD := hD.sub (ws' := (ceX0_firstStep cyI cyB cyJ cyZ a0 a1 b0_prices g0_rows g0_columns f1)) [0, 1] (by decide) rfl
      generalize H1 = H at hP hS ⊢
      refine lv_iadd hx hb dX0_firstStep_22 ?_
      have hPc := hP.sub (ws' := ([] : va_W)) [] rfl
      have hDc := hD.sub (ws' := ([] : va_W)) [] (by decide) rfl
      have hFc := va_free (wc := ([] : va_W)) hD hS hA [] rfl
      refine va_calli (va_runS (As := [.int (x1 + r2), .int (x2 + r4)]) (rest := [.ref a1]) ⟨hx, hb, hml, hown, hts⟩ (ctX0_cell l dC dI cyI cyB cyJ cyZ _ (x1 + r2) (x2 + r4) _ hw) (va_cwS 2 hts gX0_firstStep_X0_cell rfl rfl rfl (by decide +kernel) ⟨Nat.le_of_ble_eq_true rfl, Nat.le_of_ble_eq_true rfl⟩) ⟨wPre_blind, fun U hU hW => wPre_of hPc hK hDc hN hU hW⟩ rfl rfl hl.1 rfl (lv_room (Nat.le_of_ble_eq_true rfl)) dX0_firstStep_23 ⟨(Nat.zero_le _), (Nat.zero_le _)⟩) hS (fun q _ h => hFc q h) hFc (fun r6 u5 t H1 locs ht hvm hw hB hz1 hk1 hS => ?_)
      obtain ⟨hP1, hK1, hD1⟩ := hB
      rw [ht] at hP1
      obtain ⟨hP, hD⟩ := va_join (wr := pickW (ceX0_firstStep cyI cyB cyJ cyZ a0 a1 b0_prices g0_rows g0_columns f1) [0, 1]) (w1 := ([] : va_W)) hP hD [] [0, 1] rfl rfl (by decide) (by decide) hk1 hFc hP1 hD1
      have hP := hP.sub (ws' := (ceX0_firstStep cyI cyB cyJ cyZ a0 a1 b0_prices g0_rows g0_columns f1)) [0, 1] rfl
      have hD := hD.sub (ws' := (ceX0_firstStep cyI cyB cyJ cyZ a0 a1 b0_prices g0_rows g0_columns f1)) [0, 1] (by decide) rfl
      generalize H1 = H at hP hS ⊢
      obtain ⟨hi, hw⟩ := hw
      refine va_iald hx hb hK hP 1 0 rfl rfl hi dX0_firstStep_26 ?_
      refine lv_aload_n hx hb dX0_firstStep_27 rfl (lv_at hl 0 rfl) ?_
      refine va_get (D := (dC, dI)) (ci := 0) (v := .ref a1) (C := RX0) (T := TX0) (N := 4) hx hb hts inX0_firstStep_X0 hown hK hP 0 rfl rfl 1 (by decide) (hts (.fieldLink RX0 15 "LeadPark$Grid" "best" "[I") (List.mem_of_getElem? (i := 1) rfl)) (fun _ h9 => h9) rfl dX0_firstStep_28 ?_
      refine lv_iconst (v := 0) hx hb dX0_firstStep_31 (by decide) ?_
      refine lv_iconst (v := 0) hx hb dX0_firstStep_32 (by decide) ?_
      have hPc := hP.sub (ws' := ([] : va_W)) [] rfl
      have hDc := hD.sub (ws' := ([] : va_W)) [] (by decide) rfl
      have hFc := va_free (wc := ([] : va_W)) hD hS hA [] rfl
      refine va_calli (va_runS (As := [.int 0, .int 0]) (rest := [.ref a1, .int (f1 r6.toNatClampNeg)]) ⟨hx, hb, hml, hown, hts⟩ (ctX0_cell l dC dI cyI cyB cyJ cyZ _ 0 0 _ hw) (va_cwS 2 hts gX0_firstStep_X0_cell rfl rfl rfl (by decide +kernel) ⟨Nat.le_of_ble_eq_true rfl, Nat.le_of_ble_eq_true rfl⟩) ⟨wPre_blind, fun U hU hW => wPre_of hPc hK hDc hN hU hW⟩ rfl rfl hl.1 rfl (lv_room (Nat.le_of_ble_eq_true rfl)) dX0_firstStep_33 ⟨(Nat.zero_le _), (Nat.zero_le _)⟩) hS (fun q _ h => hFc q h) hFc (fun r8 u7 t H1 locs ht hvm hw hB hz1 hk1 hS => ?_)
      obtain ⟨hP1, hK1, hD1⟩ := hB
      rw [ht] at hP1
      obtain ⟨hP, hD⟩ := va_join (wr := pickW (ceX0_firstStep cyI cyB cyJ cyZ a0 a1 b0_prices g0_rows g0_columns f1) [0, 1]) (w1 := ([] : va_W)) hP hD [] [0, 1] rfl rfl (by decide) (by decide) hk1 hFc hP1 hD1
      have hP := hP.sub (ws' := (ceX0_firstStep cyI cyB cyJ cyZ a0 a1 b0_prices g0_rows g0_columns f1)) [0, 1] rfl
      have hD := hD.sub (ws' := (ceX0_firstStep cyI cyB cyJ cyZ a0 a1 b0_prices g0_rows g0_columns f1)) [0, 1] (by decide) rfl
      generalize H1 = H at hP hS ⊢
      obtain ⟨hi, hw⟩ := hw
      refine va_iald hx hb hK hP 1 0 rfl rfl hi dX0_firstStep_36 ?_
      refine lv_icmp_gt (tgt := 42) hx hb dX0_firstStep_37 (by decide) (fun hc => ?_) (fun hc => ?_)
      · have hw := hw.1 hc
        obtain ⟨v9, ev9⟩ : ∃ y : Int32, y = x3 + 1 := ⟨_, rfl⟩
        have hw := hw v9 ev9
        refine lv_iinc (v := v9) (lv' := [(3, .int v9), (0, .ref a0), (1, .int x1), (2, .int x2)]) hx hb dX0_firstStep_42 hl (k := 3) rfl (by rw [ev9]; rfl) (by decide) rfl (fun ls hl => ?_)
        refine lv_goto (tgt := 2) hx hb dX0_firstStep_45 (by decide) ?_
        exact ih x1 x2 v9 hw H locs hP hD hS ls (lv_sub hl [1, 2, 3, 0] rfl)
      · have hw := hw.2 hc
        refine lv_iload_n hx hb dX0_firstStep_40 rfl (lv_at hl 3 rfl) ?_
        rw [hQ]
        exact W.iret (v := x3) hx hb hr (fun t ht hW => ⟨⟨x3, (), rfl, hw, by rw [ht]; exact hP, va_K.moved hW.alike hK, hD⟩, hS.F ht⟩) hS.2.2 dX0_firstStep_41
set_option maxRecDepth 100000 in
set_option maxHeartbeats 4000000 in
theorem ctX0_firstStep (l : Launch) (dC : Nat → ClassId) (dI : Nat → Nat → Nat) (cyI cyB cyJ cyZ : ClassId) (sz : Nat) (a0 a1 b0_prices : Nat) (g0_rows : Int32) (g0_columns : Int32) (f1 : Nat → Int32) (p0 : Int32) (p1 : Int32) (post : Int32 → Unit → Prop) (hw : wpX0_firstStep post f1 p0 p1) : Met l yX0_firstStep wsX0_firstStep rmX0_firstStep (va_Pc [.ref a0, .int p0, .int p1] (wPre dC dI cyI cyB cyJ cyZ sz (ceX0_firstStep cyI cyB cyJ cyZ a0 a1 b0_prices g0_rows g0_columns f1))) (va_Qi post (fun u : Unit => wAt dC dI cyI cyB cyJ cyZ (va_A (ceX0_firstStep cyI cyB cyJ cyZ a0 a1 b0_prices g0_rows g0_columns f1) sz) (ceX0_firstStep cyI cyB cyJ cyZ a0 a1 b0_prices g0_rows g0_columns f1)) (va_A (ceX0_firstStep cyI cyB cyJ cyZ a0 a1 b0_prices g0_rows g0_columns f1) sz)) 0 0 (va_A (ceX0_firstStep cyI cyB cyJ cyZ a0 a1 b0_prices g0_rows g0_columns f1) sz) := by
  refine Met.ofW (cc := cX0_firstStep) (maxL := 4) (ret := (some .int)) (by decide) rfl ?_
  intro p e s m args below meth c s₁ B hml hv
  obtain ⟨rfl, hsz, hP, hK, hD0, hN⟩ := hv
  have hx := B.exec
  have hb := B.bytes
  have hr := B.returns
  have hts := atoms_spec (ws := wsX0_firstStep) B.pre
  have hown : s.vm.findClass RX0 = some m.cls := findClass_of_methodNamed B.named
  have hlocks := B.notSynchronized
  subst hsz
  have hD := hD0.self (sz := s.heap.size)
  generalize hAe : va_A (ceX0_firstStep cyI cyB cyJ cyZ a0 a1 b0_prices g0_rows g0_columns f1) s.heap.size = A at hD ⊢
  have hA : ∀ q : Nat, s.heap.size ≤ q → A q := fun q h => by rw [← hAe]; exact Or.inr h
  have hS : va_S A s.heap s.heap [] := va_S.rf
  have C0 : cxM p s m meth c _ wsX0_firstStep RX0 cX0_firstStep 4 (some .int) := ⟨hx, hb, hr, hml, hown, hts, hlocks⟩
  have hl := lv_entry ([.ref a0, .int p0, .int p1]) (n := 4) (Nat.le_of_ble_eq_true rfl)
  rw [lg_entry_eq]
  generalize (lg_sl ([.ref a0, .int p0, .int p1]) ++ List.replicate (4 - (lg_sl ([.ref a0, .int p0, .int p1])).length) Slot.unset).toArray = ls at hl ⊢
  have hl : lv_has ls 4 [(0, .ref a0), (1, .int p0), (2, .int p1)] := hl
  show W p l e rmX0_firstStep s m _ below meth c _ _ _ _ _ _
  refine wq (fun Q hQ => ?_)
  refine lv_iconst (v := 1) hx hb dX0_firstStep_0 (by decide) ?_
  refine lv_istore_n (lv' := [(3, .int 1), (0, .ref a0), (1, .int p0), (2, .int p1)]) hx hb dX0_firstStep_1 rfl hl (by decide) rfl (fun ls hl => ?_)
  obtain ⟨nn, hw⟩ := hw
  exact bX0_firstStep_2 C0 hK hN hA hQ nn p0 p1 1 hw _ _ hP hD hS ls (lv_sub hl [1, 2, 3, 0] rfl)
/-! LeadPark$Grid.firstWalk (I)I -/
abbrev ceX0_firstWalk (cyI cyB cyJ cyZ : ClassId) (a0 a1 b0_prices : Nat) (g0_rows : Int32) (g0_columns : Int32) (f1 : Nat → Int32) : va_W := [(a0, .inr (0, [.ref b0_prices, .ref a1, .int g0_rows, .int g0_columns])), (a1, .inl (cyI, 1089, .inl f1))]

abbrev rmX0_firstWalk : Room := { frames := 2, cells := 0, slots := 0, locals := 44 }
set_option maxRecDepth 100000 in
set_option maxHeartbeats 4000000 in
theorem bX0_firstWalk_62 {p : Program} {l : Launch} {e : Env} {s : State} {m : MethodId} {args : Array Value} {below : List Frame} {meth : Method} {c : Code} {dC : Nat → ClassId} {dI : Nat → Nat → Nat} {cyI cyB cyJ cyZ : ClassId} {A : Nat → Prop} {a0 a1 b0_prices : Nat} (C0 : cxM p s m meth c args wsX0_firstWalk RX0 cX0_firstWalk 6 (some .int)) (hK : va_K (dC, dI) vwCl (tyA cyI cyB cyJ cyZ) s) (hN : nwA s) (hA : ∀ q : Nat, s.heap.size ≤ q → A q) {post : Int32 → Unit → Prop} {g0_rows : Int32} {g0_columns : Int32} {f1 : Nat → Int32} {Q : State → Prop} (hQ : Q = MQ below (va_Qi post (fun u : Unit => wAt dC dI cyI cyB cyJ cyZ A (ceX0_firstWalk cyI cyB cyJ cyZ a0 a1 b0_prices g0_rows g0_columns f1)) A) args s 0 0 A) : ∀ (x1 : Int32) (x4 : Int32), wpX0_firstWalk_62 post g0_rows g0_columns f1 x1 x4 → AtW p l e rmX0_firstWalk s m args below meth c dC dI A Q 6 0 0 (ceX0_firstWalk cyI cyB cyJ cyZ a0 a1 b0_prices g0_rows g0_columns f1) [(1, .int x1), (4, .int x4)] 62 [] := by
  intro x1 x4 hw H locs hP hD hS ls hl
  have C1 := C0
  obtain ⟨hx, hb, hr, hml, hown, hts, hlocks⟩ := C1
  refine lv_iload_n hx hb dX0_firstWalk_62 rfl (lv_at hl 0 rfl) ?_
  refine lv_iconst (v := (-1)) hx hb dX0_firstWalk_63 (by decide) ?_
  refine lv_icmp_ne (tgt := 72) hx hb dX0_firstWalk_64 (by decide) (fun hc => ?_) (fun hc => ?_)
  · have hw := hw.1 hc
    refine lv_iconst (v := (-1)) hx hb dX0_firstWalk_72 (by decide) ?_
    rw [hQ]
    exact W.iret (v := (-1)) hx hb hr (fun t ht hW => ⟨⟨(-1), (), rfl, hw, by rw [ht]; exact hP, va_K.moved hW.alike hK, hD⟩, hS.F ht⟩) hS.2.2 dX0_firstWalk_73
  · have hw := hw.2 hc
    refine lv_iload hx hb dX0_firstWalk_67 (lv_at hl 1 rfl) ?_
    refine lv_goto (tgt := 73) hx hb dX0_firstWalk_69 (by decide) ?_
    rw [hQ]
    exact W.iret (v := x4) hx hb hr (fun t ht hW => ⟨⟨x4, (), rfl, hw, by rw [ht]; exact hP, va_K.moved hW.alike hK, hD⟩, hS.F ht⟩) hS.2.2 dX0_firstWalk_73
set_option maxRecDepth 100000 in
set_option maxHeartbeats 4000000 in
theorem bX0_firstWalk_7 {p : Program} {l : Launch} {e : Env} {s : State} {m : MethodId} {args : Array Value} {below : List Frame} {meth : Method} {c : Code} {dC : Nat → ClassId} {dI : Nat → Nat → Nat} {cyI cyB cyJ cyZ : ClassId} {A : Nat → Prop} {a0 a1 b0_prices : Nat} (C0 : cxM p s m meth c args wsX0_firstWalk RX0 cX0_firstWalk 6 (some .int)) (hK : va_K (dC, dI) vwCl (tyA cyI cyB cyJ cyZ) s) (hN : nwA s) (hA : ∀ q : Nat, s.heap.size ≤ q → A q) {post : Int32 → Unit → Prop} {g0_rows : Int32} {g0_columns : Int32} {f1 : Nat → Int32} {Q : State → Prop} (hQ : Q = MQ below (va_Qi post (fun u : Unit => wAt dC dI cyI cyB cyJ cyZ A (ceX0_firstWalk cyI cyB cyJ cyZ a0 a1 b0_prices g0_rows g0_columns f1)) A) args s 0 0 A) : ∀ (n : Nat) (x1 : Int32) (x2 : Int32) (x3 : Int32) (x4 : Int32), wpX0_firstWalk_7 post g0_rows g0_columns f1 n x1 x2 x3 x4 → AtW p l e rmX0_firstWalk s m args below meth c dC dI A Q 6 0 0 (ceX0_firstWalk cyI cyB cyJ cyZ a0 a1 b0_prices g0_rows g0_columns f1) [(0, .ref a0), (1, .int x1), (2, .int x2), (3, .int x3), (4, .int x4)] 7 [] := by
  intro n
  induction n with
  | zero => intro x1 x2 x3 x4 hw; exact False.elim hw
  | succ n ih =>
    intro x1 x2 x3 x4 hw H locs hP hD hS ls hl
    have C1 := C0
    obtain ⟨hx, hb, hr, hml, hown, hts, hlocks⟩ := C1
    refine lv_iload hx hb dX0_firstWalk_7 (lv_at hl 4 rfl) ?_
    refine lv_bipush (v := 58) hx hb dX0_firstWalk_9 (by decide) ?_
    refine lv_icmp_ge (tgt := 62) hx hb dX0_firstWalk_11 (by decide) (fun hc => ?_) (fun hc => ?_)
    · have hw := hw.1 hc
      exact bX0_firstWalk_62 C0 hK hN hA hQ x1 x4 hw _ _ hP hD hS ls (lv_sub hl [1, 4] rfl)
    · have hw := hw.2 hc
      refine lv_aload_n hx hb dX0_firstWalk_14 rfl (lv_at hl 0 rfl) ?_
      refine lv_iload_n hx hb dX0_firstWalk_15 rfl (lv_at hl 2 rfl) ?_
      refine lv_iload_n hx hb dX0_firstWalk_16 rfl (lv_at hl 3 rfl) ?_
      have hPc := hP.sub (ws' := (ceX0_isEnd cyI cyB cyJ cyZ a0 b0_prices a1 g0_rows g0_columns)) [0] rfl
      have hDc := hD.sub (ws' := (ceX0_isEnd cyI cyB cyJ cyZ a0 b0_prices a1 g0_rows g0_columns)) [0] (by decide) rfl
      have hFc := va_free (wc := (ceX0_isEnd cyI cyB cyJ cyZ a0 b0_prices a1 g0_rows g0_columns)) hD hS hA [0] rfl
      refine va_calli (va_runV (As := [.int x2, .int x3]) (rest := []) ⟨hx, hb, hml, hown, hts⟩ (ctX0_isEnd l dC dI cyI cyB cyJ cyZ _ a0 b0_prices a1 g0_rows g0_columns x2 x3 _ hw) (cwV 2 hts gX0_firstWalk_X0_isEnd rfl rfl rfl (by decide +kernel) ⟨Nat.le_of_ble_eq_true rfl, Nat.le_of_ble_eq_true rfl⟩) ⟨wPre_blind, va_recv hK hPc (ci := 0) (q0 := 0) rfl rfl, fun U hU hW => wPre_of hPc hK hDc hN hU hW⟩ rfl rfl hl.1 rfl (lv_room (Nat.le_of_ble_eq_true rfl)) dX0_firstWalk_17 ⟨(Nat.zero_le _), (Nat.zero_le _)⟩) hS (fun q _ h => hFc q h) hFc (fun r2 u1 t H1 locs ht hvm hw hB hz1 hk1 hS => ?_)
      obtain ⟨hP1, hK1, hD1⟩ := hB
      rw [ht] at hP1
      obtain ⟨hP, hD⟩ := va_join (wr := pickW (ceX0_firstWalk cyI cyB cyJ cyZ a0 a1 b0_prices g0_rows g0_columns f1) [1]) (w1 := (ceX0_isEnd cyI cyB cyJ cyZ a0 b0_prices a1 g0_rows g0_columns)) hP hD [0] [1] rfl rfl (by decide) (by decide) hk1 hFc hP1 hD1
      have hP := hP.sub (ws' := (ceX0_firstWalk cyI cyB cyJ cyZ a0 a1 b0_prices g0_rows g0_columns f1)) [1, 0] rfl
      have hD := hD.sub (ws' := (ceX0_firstWalk cyI cyB cyJ cyZ a0 a1 b0_prices g0_rows g0_columns f1)) [1, 0] (by decide) rfl
      generalize H1 = H at hP hS ⊢
      refine lv_if_ne (tgt := 62) hx hb dX0_firstWalk_20 (by decide) (fun hc => ?_) (fun hc => ?_)
      · have hw := hw.1 hc
        exact bX0_firstWalk_62 C0 hK hN hA hQ x1 x4 hw _ _ hP hD hS ls (lv_sub hl [1, 4] rfl)
      · have hw := hw.2 hc
        refine lv_aload_n hx hb dX0_firstWalk_23 rfl (lv_at hl 0 rfl) ?_
        refine lv_iload_n hx hb dX0_firstWalk_24 rfl (lv_at hl 2 rfl) ?_
        refine lv_iload_n hx hb dX0_firstWalk_25 rfl (lv_at hl 3 rfl) ?_
        have hPc := hP.sub (ws' := (ceX0_firstStep cyI cyB cyJ cyZ a0 a1 b0_prices g0_rows g0_columns f1)) [0, 1] rfl
        have hDc := hD.sub (ws' := (ceX0_firstStep cyI cyB cyJ cyZ a0 a1 b0_prices g0_rows g0_columns f1)) [0, 1] (by decide) rfl
        have hFc := va_free (wc := (ceX0_firstStep cyI cyB cyJ cyZ a0 a1 b0_prices g0_rows g0_columns f1)) hD hS hA [0, 1] rfl
        refine va_calli (va_runV (As := [.int x2, .int x3]) (rest := []) ⟨hx, hb, hml, hown, hts⟩ (ctX0_firstStep l dC dI cyI cyB cyJ cyZ _ a0 a1 b0_prices g0_rows g0_columns f1 x2 x3 _ hw) (cwV 2 hts gX0_firstWalk_X0_firstStep rfl rfl rfl (by decide +kernel) ⟨Nat.le_of_ble_eq_true rfl, Nat.le_of_ble_eq_true rfl⟩) ⟨wPre_blind, va_recv hK hPc (ci := 0) (q0 := 0) rfl rfl, fun U hU hW => wPre_of hPc hK hDc hN hU hW⟩ rfl rfl hl.1 rfl (lv_room (Nat.le_of_ble_eq_true rfl)) dX0_firstWalk_26 ⟨(Nat.zero_le _), (Nat.zero_le _)⟩) hS (fun q _ h => hFc q h) hFc (fun r4 u3 t H1 locs ht hvm hw hB hz1 hk1 hS => ?_)
        obtain ⟨hP1, hK1, hD1⟩ := hB
        rw [ht] at hP1
        obtain ⟨hP, hD⟩ := va_join (wr := pickW (ceX0_firstWalk cyI cyB cyJ cyZ a0 a1 b0_prices g0_rows g0_columns f1) []) (w1 := (ceX0_firstStep cyI cyB cyJ cyZ a0 a1 b0_prices g0_rows g0_columns f1)) hP hD [0, 1] [] rfl rfl (by decide) (by decide) hk1 hFc hP1 hD1
        have hP := hP.sub (ws' := (ceX0_firstWalk cyI cyB cyJ cyZ a0 a1 b0_prices g0_rows g0_columns f1)) [0, 1] rfl
        have hD := hD.sub (ws' := (ceX0_firstWalk cyI cyB cyJ cyZ a0 a1 b0_prices g0_rows g0_columns f1)) [0, 1] (by decide) rfl
        generalize H1 = H at hP hS ⊢
        refine lv_istore (lv' := [(5, .int r4), (0, .ref a0), (1, .int x1), (2, .int x2), (3, .int x3), (4, .int x4)]) hx hb dX0_firstWalk_29 hl (by decide) rfl (fun ls hl => ?_)
        refine lv_iload hx hb dX0_firstWalk_31 (lv_at hl 5 rfl) ?_
        refine lv_iload_n hx hb dX0_firstWalk_33 rfl (lv_at hl 2 rfl) ?_
        refine lv_icmp_ne (tgt := 40) hx hb dX0_firstWalk_34 (by decide) (fun hc => ?_) (fun hc => ?_)
        · have hw := hw.1 hc
          refine lv_iload_n hx hb dX0_firstWalk_40 rfl (lv_at hl 3 rfl) ?_
          refine lv_iload hx hb dX0_firstWalk_41 (lv_at hl 0 rfl) ?_
          have hPc := hP.sub (ws' := ([] : va_W)) [] rfl
          have hDc := hD.sub (ws' := ([] : va_W)) [] (by decide) rfl
          have hFc := va_free (wc := ([] : va_W)) hD hS hA [] rfl
          refine va_calli (va_runSN (As := [.int r4]) (rest := [.int x2]) ⟨hx, hb, hml, hown, hts⟩ (ctX10_manMoves l dC dI cyI cyB cyJ cyZ _ r4 _ hw) ⟨va_cnB 1 hts ggX0_firstWalk_X10_manMoves rfl rfl rfl (hN _ (List.mem_of_getElem? (i := 50) rfl)) (hts (.initialized RX10) (List.mem_of_getElem? (i := 14) rfl)) (by decide +kernel) ⟨Nat.le_of_ble_eq_true rfl, Nat.le_of_ble_eq_true rfl⟩, (hts (.static yX10_manMoves) (List.mem_of_getElem? (i := 13) rfl)), trivial⟩ ⟨wPre_blind, fun U hU hW => wPre_of hPc hK hDc hN hU hW⟩ rfl rfl hl.1 rfl (lv_room (Nat.le_of_ble_eq_true rfl)) dX0_firstWalk_43 ⟨(Nat.zero_le _), (Nat.zero_le _)⟩) hS (fun q _ h => hFc q h) hFc (fun r6 u5 t H1 locs ht hvm hw hB hz1 hk1 hS => ?_)
          obtain ⟨hP1, hK1, hD1⟩ := hB
          rw [ht] at hP1
          obtain ⟨hP, hD⟩ := va_join (wr := pickW (ceX0_firstWalk cyI cyB cyJ cyZ a0 a1 b0_prices g0_rows g0_columns f1) [0, 1]) (w1 := ([] : va_W)) hP hD [] [0, 1] rfl rfl (by decide) (by decide) hk1 hFc hP1 hD1
          have hP := hP.sub (ws' := (ceX0_firstWalk cyI cyB cyJ cyZ a0 a1 b0_prices g0_rows g0_columns f1)) [0, 1] rfl
          have hD := hD.sub (ws' := (ceX0_firstWalk cyI cyB cyJ cyZ a0 a1 b0_prices g0_rows g0_columns f1)) [0, 1] (by decide) rfl
          generalize H1 = H at hP hS ⊢
          refine lv_iadd hx hb dX0_firstWalk_46 ?_
          refine lv_topi (fun v7 ev7 => ?_)
          have hw := hw v7 ev7
          refine lv_istore_n (lv' := [(2, .int v7), (5, .int r4), (0, .ref a0), (1, .int x1), (3, .int x3), (4, .int x4)]) hx hb dX0_firstWalk_47 rfl hl (by decide) rfl (fun ls hl => ?_)
          refine lv_iload_n hx hb dX0_firstWalk_48 rfl (lv_at hl 4 rfl) ?_
          refine lv_iload hx hb dX0_firstWalk_49 (lv_at hl 1 rfl) ?_
          have hPc := hP.sub (ws' := ([] : va_W)) [] rfl
          have hDc := hD.sub (ws' := ([] : va_W)) [] (by decide) rfl
          have hFc := va_free (wc := ([] : va_W)) hD hS hA [] rfl
          refine va_calli (va_runSN (As := [.int r4]) (rest := [.int x3]) ⟨hx, hb, hml, hown, hts⟩ (ctX10_dogMoves l dC dI cyI cyB cyJ cyZ _ r4 _ hw) ⟨va_cnB 1 hts ggX0_firstWalk_X10_dogMoves rfl rfl rfl (hN _ (List.mem_of_getElem? (i := 51) rfl)) (hts (.initialized RX10) (List.mem_of_getElem? (i := 14) rfl)) (by decide +kernel) ⟨Nat.le_of_ble_eq_true rfl, Nat.le_of_ble_eq_true rfl⟩, (hts (.static yX10_dogMoves) (List.mem_of_getElem? (i := 16) rfl)), trivial⟩ ⟨wPre_blind, fun U hU hW => wPre_of hPc hK hDc hN hU hW⟩ rfl rfl hl.1 rfl (lv_room (Nat.le_of_ble_eq_true rfl)) dX0_firstWalk_51 ⟨(Nat.zero_le _), (Nat.zero_le _)⟩) hS (fun q _ h => hFc q h) hFc (fun r9 u8 t H1 locs ht hvm hw hB hz1 hk1 hS => ?_)
          obtain ⟨hP1, hK1, hD1⟩ := hB
          rw [ht] at hP1
          obtain ⟨hP, hD⟩ := va_join (wr := pickW (ceX0_firstWalk cyI cyB cyJ cyZ a0 a1 b0_prices g0_rows g0_columns f1) [0, 1]) (w1 := ([] : va_W)) hP hD [] [0, 1] rfl rfl (by decide) (by decide) hk1 hFc hP1 hD1
          have hP := hP.sub (ws' := (ceX0_firstWalk cyI cyB cyJ cyZ a0 a1 b0_prices g0_rows g0_columns f1)) [0, 1] rfl
          have hD := hD.sub (ws' := (ceX0_firstWalk cyI cyB cyJ cyZ a0 a1 b0_prices g0_rows g0_columns f1)) [0, 1] (by decide) rfl
          generalize H1 = H at hP hS ⊢
          refine lv_iadd hx hb dX0_firstWalk_54 ?_
          refine lv_topi (fun v10 ev10 => ?_)
          have hw := hw v10 ev10
          refine lv_istore_n (lv' := [(3, .int v10), (2, .int v7), (5, .int r4), (0, .ref a0), (1, .int x1), (4, .int x4)]) hx hb dX0_firstWalk_55 rfl hl (by decide) rfl (fun ls hl => ?_)
          obtain ⟨v11, ev11⟩ : ∃ y : Int32, y = x4 + 1 := ⟨_, rfl⟩
          have hw := hw v11 ev11
          refine lv_iinc (v := v11) (lv' := [(4, .int v11), (3, .int v10), (2, .int v7), (5, .int r4), (0, .ref a0), (1, .int x1)]) hx hb dX0_firstWalk_56 hl (k := 5) rfl (by rw [ev11]; rfl) (by decide) rfl (fun ls hl => ?_)
          refine lv_goto (tgt := 7) hx hb dX0_firstWalk_59 (by decide) ?_
          exact ih x1 v7 v10 v11 hw H locs hP hD hS ls (lv_sub hl [4, 5, 2, 1, 0] rfl)
        · have hw := hw.2 hc
          refine lv_iload hx hb dX0_firstWalk_37 (lv_at hl 0 rfl) ?_
          rw [hQ]
          exact W.iret (v := r4) hx hb hr (fun t ht hW => ⟨⟨r4, (), rfl, hw, by rw [ht]; exact hP, va_K.moved hW.alike hK, hD⟩, hS.F ht⟩) hS.2.2 dX0_firstWalk_39
set_option maxRecDepth 100000 in
set_option maxHeartbeats 4000000 in
theorem ctX0_firstWalk (l : Launch) (dC : Nat → ClassId) (dI : Nat → Nat → Nat) (cyI cyB cyJ cyZ : ClassId) (sz : Nat) (a0 a1 b0_prices : Nat) (g0_rows : Int32) (g0_columns : Int32) (f1 : Nat → Int32) (p0 : Int32) (post : Int32 → Unit → Prop) (hw : wpX0_firstWalk post g0_rows g0_columns f1 p0) : Met l yX0_firstWalk wsX0_firstWalk rmX0_firstWalk (va_Pc [.ref a0, .int p0] (wPre dC dI cyI cyB cyJ cyZ sz (ceX0_firstWalk cyI cyB cyJ cyZ a0 a1 b0_prices g0_rows g0_columns f1))) (va_Qi post (fun u : Unit => wAt dC dI cyI cyB cyJ cyZ (va_A (ceX0_firstWalk cyI cyB cyJ cyZ a0 a1 b0_prices g0_rows g0_columns f1) sz) (ceX0_firstWalk cyI cyB cyJ cyZ a0 a1 b0_prices g0_rows g0_columns f1)) (va_A (ceX0_firstWalk cyI cyB cyJ cyZ a0 a1 b0_prices g0_rows g0_columns f1) sz)) 0 0 (va_A (ceX0_firstWalk cyI cyB cyJ cyZ a0 a1 b0_prices g0_rows g0_columns f1) sz) := by
  refine Met.ofW (cc := cX0_firstWalk) (maxL := 6) (ret := (some .int)) (by decide) rfl ?_
  intro p e s m args below meth c s₁ B hml hv
  obtain ⟨rfl, hsz, hP, hK, hD0, hN⟩ := hv
  have hx := B.exec
  have hb := B.bytes
  have hr := B.returns
  have hts := atoms_spec (ws := wsX0_firstWalk) B.pre
  have hown : s.vm.findClass RX0 = some m.cls := findClass_of_methodNamed B.named
  have hlocks := B.notSynchronized
  subst hsz
  have hD := hD0.self (sz := s.heap.size)
  generalize hAe : va_A (ceX0_firstWalk cyI cyB cyJ cyZ a0 a1 b0_prices g0_rows g0_columns f1) s.heap.size = A at hD ⊢
  have hA : ∀ q : Nat, s.heap.size ≤ q → A q := fun q h => by rw [← hAe]; exact Or.inr h
  have hS : va_S A s.heap s.heap [] := va_S.rf
  have C0 : cxM p s m meth c _ wsX0_firstWalk RX0 cX0_firstWalk 6 (some .int) := ⟨hx, hb, hr, hml, hown, hts, hlocks⟩
  have hl := lv_entry ([.ref a0, .int p0]) (n := 6) (Nat.le_of_ble_eq_true rfl)
  rw [lg_entry_eq]
  generalize (lg_sl ([.ref a0, .int p0]) ++ List.replicate (6 - (lg_sl ([.ref a0, .int p0])).length) Slot.unset).toArray = ls at hl ⊢
  have hl : lv_has ls 6 [(0, .ref a0), (1, .int p0)] := hl
  show W p l e rmX0_firstWalk s m _ below meth c _ _ _ _ _ _
  refine wq (fun Q hQ => ?_)
  refine lv_iconst (v := 0) hx hb dX0_firstWalk_0 (by decide) ?_
  refine lv_istore_n (lv' := [(2, .int 0), (0, .ref a0), (1, .int p0)]) hx hb dX0_firstWalk_1 rfl hl (by decide) rfl (fun ls hl => ?_)
  refine lv_iconst (v := 0) hx hb dX0_firstWalk_2 (by decide) ?_
  refine lv_istore_n (lv' := [(3, .int 0), (2, .int 0), (0, .ref a0), (1, .int p0)]) hx hb dX0_firstWalk_3 rfl hl (by decide) rfl (fun ls hl => ?_)
  refine lv_iconst (v := 0) hx hb dX0_firstWalk_4 (by decide) ?_
  refine lv_istore (lv' := [(4, .int 0), (3, .int 0), (2, .int 0), (0, .ref a0), (1, .int p0)]) hx hb dX0_firstWalk_5 hl (by decide) rfl (fun ls hl => ?_)
  obtain ⟨nn, hw⟩ := hw
  exact bX0_firstWalk_7 C0 hK hN hA hQ nn p0 0 0 0 hw _ _ hP hD hS ls (lv_sub hl [3, 4, 2, 1, 0] rfl)
/-! LeadPark$Grid.farthestOfFirstWalk ()I -/
abbrev ceX0_farthestOfFirstWalk (cyI cyB cyJ cyZ : ClassId) (a0 a1 a2 : Nat) (g0_rows : Int32) (g0_columns : Int32) (f1 : Nat → Int32) (f2 : Nat → Int32) : va_W := [(a0, .inr (0, [.ref a1, .ref a2, .int g0_rows, .int g0_columns])), (a1, .inl (cyI, 1089, .inl f1)), (a2, .inl (cyI, 1089, .inl f2))]

theorem inX0_farthestOfFirstWalk_X0 : ∀ w ∈ wsX00, w ∈ wsX0_farthestOfFirstWalk := fun _ h => List.mem_cons_of_mem _ (List.mem_append_right _ h)
abbrev rmX0_farthestOfFirstWalk : Room := { frames := 2, cells := 0, slots := 0, locals := 44 }
set_option maxRecDepth 100000 in
set_option maxHeartbeats 4000000 in
theorem bX0_farthestOfFirstWalk_77 {p : Program} {l : Launch} {e : Env} {s : State} {m : MethodId} {args : Array Value} {below : List Frame} {meth : Method} {c : Code} {dC : Nat → ClassId} {dI : Nat → Nat → Nat} {cyI cyB cyJ cyZ : ClassId} {A : Nat → Prop} {a0 a1 a2 : Nat} (C0 : cxM p s m meth c args wsX0_farthestOfFirstWalk RX0 cX0_farthestOfFirstWalk 5 (some .int)) (hK : va_K (dC, dI) vwCl (tyA cyI cyB cyJ cyZ) s) (hN : nwA s) (hA : ∀ q : Nat, s.heap.size ≤ q → A q) {post : Int32 → Unit → Prop} {g0_rows : Int32} {g0_columns : Int32} {f1 : Nat → Int32} {f2 : Nat → Int32} {Q : State → Prop} (hQ : Q = MQ below (va_Qi post (fun u : Unit => wAt dC dI cyI cyB cyJ cyZ A (ceX0_farthestOfFirstWalk cyI cyB cyJ cyZ a0 a1 a2 g0_rows g0_columns f1 f2)) A) args s 0 0 A) : ∀ (x1 : Int32) (x2 : Int32), wpX0_farthestOfFirstWalk_77 post g0_rows g0_columns f1 f2 x1 x2 → AtW p l e rmX0_farthestOfFirstWalk s m args below meth c dC dI A Q 5 0 0 (ceX0_farthestOfFirstWalk cyI cyB cyJ cyZ a0 a1 a2 g0_rows g0_columns f1 f2) [(1, .int x1), (2, .int x2)] 77 [] := by
  intro x1 x2 hw H locs hP hD hS ls hl
  have C1 := C0
  obtain ⟨hx, hb, hr, hml, hown, hts, hlocks⟩ := C1
  refine lv_bipush (v := 100) hx hb dX0_farthestOfFirstWalk_77 (by decide) ?_
  refine lv_iload_n hx hb dX0_farthestOfFirstWalk_79 rfl (lv_at hl 0 rfl) ?_
  refine lv_imul hx hb dX0_farthestOfFirstWalk_80 ?_
  refine lv_iload_n hx hb dX0_farthestOfFirstWalk_81 rfl (lv_at hl 1 rfl) ?_
  refine lv_iadd hx hb dX0_farthestOfFirstWalk_82 ?_
  rw [hQ]
  exact W.iret (v := (100 * x1) + x2) hx hb hr (fun t ht hW => ⟨⟨(100 * x1) + x2, (), rfl, hw, by rw [ht]; exact hP, va_K.moved hW.alike hK, hD⟩, hS.F ht⟩) hS.2.2 dX0_farthestOfFirstWalk_83
set_option maxRecDepth 100000 in
set_option maxHeartbeats 4000000 in
theorem bX0_farthestOfFirstWalk_6 {p : Program} {l : Launch} {e : Env} {s : State} {m : MethodId} {args : Array Value} {below : List Frame} {meth : Method} {c : Code} {dC : Nat → ClassId} {dI : Nat → Nat → Nat} {cyI cyB cyJ cyZ : ClassId} {A : Nat → Prop} {a0 a1 a2 : Nat} (C0 : cxM p s m meth c args wsX0_farthestOfFirstWalk RX0 cX0_farthestOfFirstWalk 5 (some .int)) (hK : va_K (dC, dI) vwCl (tyA cyI cyB cyJ cyZ) s) (hN : nwA s) (hA : ∀ q : Nat, s.heap.size ≤ q → A q) {post : Int32 → Unit → Prop} {g0_rows : Int32} {g0_columns : Int32} {f1 : Nat → Int32} {f2 : Nat → Int32} {Q : State → Prop} (hQ : Q = MQ below (va_Qi post (fun u : Unit => wAt dC dI cyI cyB cyJ cyZ A (ceX0_farthestOfFirstWalk cyI cyB cyJ cyZ a0 a1 a2 g0_rows g0_columns f1 f2)) A) args s 0 0 A) : ∀ (n : Nat) (x1 : Int32) (x2 : Int32) (x3 : Int32), wpX0_farthestOfFirstWalk_6 post g0_rows g0_columns f1 f2 n x1 x2 x3 → AtW p l e rmX0_farthestOfFirstWalk s m args below meth c dC dI A Q 5 0 0 (ceX0_farthestOfFirstWalk cyI cyB cyJ cyZ a0 a1 a2 g0_rows g0_columns f1 f2) [(0, .ref a0), (1, .int x1), (2, .int x2), (3, .int x3)] 6 [] := by
  intro n
  induction n with
  | zero => intro x1 x2 x3 hw; exact False.elim hw
  | succ n ih =>
    intro x1 x2 x3 hw H locs hP hD hS ls hl
    have C1 := C0
    obtain ⟨hx, hb, hr, hml, hown, hts, hlocks⟩ := C1
    refine lv_iload_n hx hb dX0_farthestOfFirstWalk_6 rfl (lv_at hl 3 rfl) ?_
    refine lv_bipush (v := 58) hx hb dX0_farthestOfFirstWalk_7 (by decide) ?_
    refine lv_icmp_ge (tgt := 77) hx hb dX0_farthestOfFirstWalk_9 (by decide) (fun hc => ?_) (fun hc => ?_)
    · have hw := hw.1 hc
      exact bX0_farthestOfFirstWalk_77 C0 hK hN hA hQ x1 x2 hw _ _ hP hD hS ls (lv_sub hl [1, 2] rfl)
    · have hw := hw.2 hc
      refine lv_aload_n hx hb dX0_farthestOfFirstWalk_12 rfl (lv_at hl 0 rfl) ?_
      refine lv_iload_n hx hb dX0_farthestOfFirstWalk_13 rfl (lv_at hl 1 rfl) ?_
      refine lv_iload_n hx hb dX0_farthestOfFirstWalk_14 rfl (lv_at hl 2 rfl) ?_
      have hPc := hP.sub (ws' := (ceX0_isEnd cyI cyB cyJ cyZ a0 a1 a2 g0_rows g0_columns)) [0] rfl
      have hDc := hD.sub (ws' := (ceX0_isEnd cyI cyB cyJ cyZ a0 a1 a2 g0_rows g0_columns)) [0] (by decide) rfl
      have hFc := va_free (wc := (ceX0_isEnd cyI cyB cyJ cyZ a0 a1 a2 g0_rows g0_columns)) hD hS hA [0] rfl
      refine va_calli (va_runV (As := [.int x1, .int x2]) (rest := []) ⟨hx, hb, hml, hown, hts⟩ (ctX0_isEnd l dC dI cyI cyB cyJ cyZ _ a0 a1 a2 g0_rows g0_columns x1 x2 _ hw) (cwV 2 hts gX0_farthestOfFirstWalk_X0_isEnd rfl rfl rfl (by decide +kernel) ⟨Nat.le_of_ble_eq_true rfl, Nat.le_of_ble_eq_true rfl⟩) ⟨wPre_blind, va_recv hK hPc (ci := 0) (q0 := 0) rfl rfl, fun U hU hW => wPre_of hPc hK hDc hN hU hW⟩ rfl rfl hl.1 rfl (lv_room (Nat.le_of_ble_eq_true rfl)) dX0_farthestOfFirstWalk_15 ⟨(Nat.zero_le _), (Nat.zero_le _)⟩) hS (fun q _ h => hFc q h) hFc (fun r2 u1 t H1 locs ht hvm hw hB hz1 hk1 hS => ?_)
      obtain ⟨hP1, hK1, hD1⟩ := hB
      rw [ht] at hP1
      obtain ⟨hP, hD⟩ := va_join (wr := pickW (ceX0_farthestOfFirstWalk cyI cyB cyJ cyZ a0 a1 a2 g0_rows g0_columns f1 f2) [1, 2]) (w1 := (ceX0_isEnd cyI cyB cyJ cyZ a0 a1 a2 g0_rows g0_columns)) hP hD [0] [1, 2] rfl rfl (by decide) (by decide) hk1 hFc hP1 hD1
      have hP := hP.sub (ws' := (ceX0_farthestOfFirstWalk cyI cyB cyJ cyZ a0 a1 a2 g0_rows g0_columns f1 f2)) [2, 0, 1] rfl
      have hD := hD.sub (ws' := (ceX0_farthestOfFirstWalk cyI cyB cyJ cyZ a0 a1 a2 g0_rows g0_columns f1 f2)) [2, 0, 1] (by decide) rfl
      generalize H1 = H at hP hS ⊢
      refine lv_if_ne (tgt := 77) hx hb dX0_farthestOfFirstWalk_18 (by decide) (fun hc => ?_) (fun hc => ?_)
      · have hw := hw.1 hc
        exact bX0_farthestOfFirstWalk_77 C0 hK hN hA hQ x1 x2 hw _ _ hP hD hS ls (lv_sub hl [1, 2] rfl)
      · have hw := hw.2 hc
        refine lv_aload_n hx hb dX0_farthestOfFirstWalk_21 rfl (lv_at hl 0 rfl) ?_
        refine va_get (D := (dC, dI)) (ci := 0) (v := .ref a1) (C := RX0) (T := TX0) (N := 4) hx hb hts inX0_farthestOfFirstWalk_X0 hown hK hP 0 rfl rfl 0 (by decide) (hts (.fieldLink RX0 11 "LeadPark$Grid" "prices" "[I") (List.mem_of_getElem? (i := 1) rfl)) (fun _ h9 => h9) rfl dX0_farthestOfFirstWalk_22 ?_
        refine lv_iload_n hx hb dX0_farthestOfFirstWalk_25 rfl (lv_at hl 1 rfl) ?_
        refine lv_iload_n hx hb dX0_farthestOfFirstWalk_26 rfl (lv_at hl 2 rfl) ?_
        have hPc := hP.sub (ws' := ([] : va_W)) [] rfl
        have hDc := hD.sub (ws' := ([] : va_W)) [] (by decide) rfl
        have hFc := va_free (wc := ([] : va_W)) hD hS hA [] rfl
        refine va_calli (va_runS (As := [.int x1, .int x2]) (rest := [.ref a1]) ⟨hx, hb, hml, hown, hts⟩ (ctX0_cell l dC dI cyI cyB cyJ cyZ _ x1 x2 _ hw) (va_cwS 2 hts gX0_farthestOfFirstWalk_X0_cell rfl rfl rfl (by decide +kernel) ⟨Nat.le_of_ble_eq_true rfl, Nat.le_of_ble_eq_true rfl⟩) ⟨wPre_blind, fun U hU hW => wPre_of hPc hK hDc hN hU hW⟩ rfl rfl hl.1 rfl (lv_room (Nat.le_of_ble_eq_true rfl)) dX0_farthestOfFirstWalk_27 ⟨(Nat.zero_le _), (Nat.zero_le _)⟩) hS (fun q _ h => hFc q h) hFc (fun r4 u3 t H1 locs ht hvm hw hB hz1 hk1 hS => ?_)
        obtain ⟨hP1, hK1, hD1⟩ := hB
        rw [ht] at hP1
        obtain ⟨hP, hD⟩ := va_join (wr := pickW (ceX0_farthestOfFirstWalk cyI cyB cyJ cyZ a0 a1 a2 g0_rows g0_columns f1 f2) [0, 1, 2]) (w1 := ([] : va_W)) hP hD [] [0, 1, 2] rfl rfl (by decide) (by decide) hk1 hFc hP1 hD1
        have hP := hP.sub (ws' := (ceX0_farthestOfFirstWalk cyI cyB cyJ cyZ a0 a1 a2 g0_rows g0_columns f1 f2)) [0, 1, 2] rfl
        have hD := hD.sub (ws' := (ceX0_farthestOfFirstWalk cyI cyB cyJ cyZ a0 a1 a2 g0_rows g0_columns f1 f2)) [0, 1, 2] (by decide) rfl
        generalize H1 = H at hP hS ⊢
        obtain ⟨hi, hw⟩ := hw
        refine va_iald hx hb hK hP 1 0 rfl rfl hi dX0_farthestOfFirstWalk_30 ?_
        refine lv_aload_n hx hb dX0_farthestOfFirstWalk_31 rfl (lv_at hl 0 rfl) ?_
        refine va_get (D := (dC, dI)) (ci := 0) (v := .ref a2) (C := RX0) (T := TX0) (N := 4) hx hb hts inX0_farthestOfFirstWalk_X0 hown hK hP 0 rfl rfl 1 (by decide) (hts (.fieldLink RX0 15 "LeadPark$Grid" "best" "[I") (List.mem_of_getElem? (i := 2) rfl)) (fun _ h9 => h9) rfl dX0_farthestOfFirstWalk_32 ?_
        refine lv_iconst (v := 0) hx hb dX0_farthestOfFirstWalk_35 (by decide) ?_
        refine lv_iconst (v := 0) hx hb dX0_farthestOfFirstWalk_36 (by decide) ?_
        have hPc := hP.sub (ws' := ([] : va_W)) [] rfl
        have hDc := hD.sub (ws' := ([] : va_W)) [] (by decide) rfl
        have hFc := va_free (wc := ([] : va_W)) hD hS hA [] rfl
        refine va_calli (va_runS (As := [.int 0, .int 0]) (rest := [.ref a2, .int (f1 r4.toNatClampNeg)]) ⟨hx, hb, hml, hown, hts⟩ (ctX0_cell l dC dI cyI cyB cyJ cyZ _ 0 0 _ hw) (va_cwS 2 hts gX0_farthestOfFirstWalk_X0_cell rfl rfl rfl (by decide +kernel) ⟨Nat.le_of_ble_eq_true rfl, Nat.le_of_ble_eq_true rfl⟩) ⟨wPre_blind, fun U hU hW => wPre_of hPc hK hDc hN hU hW⟩ rfl rfl hl.1 rfl (lv_room (Nat.le_of_ble_eq_true rfl)) dX0_farthestOfFirstWalk_37 ⟨(Nat.zero_le _), (Nat.zero_le _)⟩) hS (fun q _ h => hFc q h) hFc (fun r6 u5 t H1 locs ht hvm hw hB hz1 hk1 hS => ?_)
        obtain ⟨hP1, hK1, hD1⟩ := hB
        rw [ht] at hP1
        obtain ⟨hP, hD⟩ := va_join (wr := pickW (ceX0_farthestOfFirstWalk cyI cyB cyJ cyZ a0 a1 a2 g0_rows g0_columns f1 f2) [0, 1, 2]) (w1 := ([] : va_W)) hP hD [] [0, 1, 2] rfl rfl (by decide) (by decide) hk1 hFc hP1 hD1
        have hP := hP.sub (ws' := (ceX0_farthestOfFirstWalk cyI cyB cyJ cyZ a0 a1 a2 g0_rows g0_columns f1 f2)) [0, 1, 2] rfl
        have hD := hD.sub (ws' := (ceX0_farthestOfFirstWalk cyI cyB cyJ cyZ a0 a1 a2 g0_rows g0_columns f1 f2)) [0, 1, 2] (by decide) rfl
        generalize H1 = H at hP hS ⊢
        obtain ⟨hi, hw⟩ := hw
        refine va_iald hx hb hK hP 2 0 rfl rfl hi dX0_farthestOfFirstWalk_40 ?_
        refine lv_icmp_ne (tgt := 47) hx hb dX0_farthestOfFirstWalk_41 (by decide) (fun hc => ?_) (fun hc => ?_)
        · have hw := hw.1 hc
          refine lv_aload_n hx hb dX0_farthestOfFirstWalk_47 rfl (lv_at hl 0 rfl) ?_
          refine lv_iload_n hx hb dX0_farthestOfFirstWalk_48 rfl (lv_at hl 1 rfl) ?_
          refine lv_iload_n hx hb dX0_farthestOfFirstWalk_49 rfl (lv_at hl 2 rfl) ?_
          have hPc := hP.sub (ws' := (ceX0_firstStep cyI cyB cyJ cyZ a0 a2 a1 g0_rows g0_columns f2)) [0, 2] rfl
          have hDc := hD.sub (ws' := (ceX0_firstStep cyI cyB cyJ cyZ a0 a2 a1 g0_rows g0_columns f2)) [0, 2] (by decide) rfl
          have hFc := va_free (wc := (ceX0_firstStep cyI cyB cyJ cyZ a0 a2 a1 g0_rows g0_columns f2)) hD hS hA [0, 2] rfl
          refine va_calli (va_runV (As := [.int x1, .int x2]) (rest := []) ⟨hx, hb, hml, hown, hts⟩ (ctX0_firstStep l dC dI cyI cyB cyJ cyZ _ a0 a2 a1 g0_rows g0_columns f2 x1 x2 _ hw) (cwV 2 hts gX0_farthestOfFirstWalk_X0_firstStep rfl rfl rfl (by decide +kernel) ⟨Nat.le_of_ble_eq_true rfl, Nat.le_of_ble_eq_true rfl⟩) ⟨wPre_blind, va_recv hK hPc (ci := 0) (q0 := 0) rfl rfl, fun U hU hW => wPre_of hPc hK hDc hN hU hW⟩ rfl rfl hl.1 rfl (lv_room (Nat.le_of_ble_eq_true rfl)) dX0_farthestOfFirstWalk_50 ⟨(Nat.zero_le _), (Nat.zero_le _)⟩) hS (fun q _ h => hFc q h) hFc (fun r8 u7 t H1 locs ht hvm hw hB hz1 hk1 hS => ?_)
          obtain ⟨hP1, hK1, hD1⟩ := hB
          rw [ht] at hP1
          obtain ⟨hP, hD⟩ := va_join (wr := pickW (ceX0_farthestOfFirstWalk cyI cyB cyJ cyZ a0 a1 a2 g0_rows g0_columns f1 f2) [1]) (w1 := (ceX0_firstStep cyI cyB cyJ cyZ a0 a2 a1 g0_rows g0_columns f2)) hP hD [0, 2] [1] rfl rfl (by decide) (by decide) hk1 hFc hP1 hD1
          have hP := hP.sub (ws' := (ceX0_farthestOfFirstWalk cyI cyB cyJ cyZ a0 a1 a2 g0_rows g0_columns f1 f2)) [1, 0, 2] rfl
          have hD := hD.sub (ws' := (ceX0_farthestOfFirstWalk cyI cyB cyJ cyZ a0 a1 a2 g0_rows g0_columns f1 f2)) [1, 0, 2] (by decide) rfl
          generalize H1 = H at hP hS ⊢
          refine lv_istore (lv' := [(4, .int r8), (0, .ref a0), (1, .int x1), (2, .int x2), (3, .int x3)]) hx hb dX0_farthestOfFirstWalk_53 hl (by decide) rfl (fun ls hl => ?_)
          refine lv_iload_n hx hb dX0_farthestOfFirstWalk_55 rfl (lv_at hl 2 rfl) ?_
          refine lv_iload hx hb dX0_farthestOfFirstWalk_56 (lv_at hl 0 rfl) ?_
          have hPc := hP.sub (ws' := ([] : va_W)) [] rfl
          have hDc := hD.sub (ws' := ([] : va_W)) [] (by decide) rfl
          have hFc := va_free (wc := ([] : va_W)) hD hS hA [] rfl
          refine va_calli (va_runSN (As := [.int r8]) (rest := [.int x1]) ⟨hx, hb, hml, hown, hts⟩ (ctX10_manMoves l dC dI cyI cyB cyJ cyZ _ r8 _ hw) ⟨va_cnB 1 hts ggX0_farthestOfFirstWalk_X10_manMoves rfl rfl rfl (hN _ (List.mem_of_getElem? (i := 50) rfl)) (hts (.initialized RX10) (List.mem_of_getElem? (i := 18) rfl)) (by decide +kernel) ⟨Nat.le_of_ble_eq_true rfl, Nat.le_of_ble_eq_true rfl⟩, (hts (.static yX10_manMoves) (List.mem_of_getElem? (i := 17) rfl)), trivial⟩ ⟨wPre_blind, fun U hU hW => wPre_of hPc hK hDc hN hU hW⟩ rfl rfl hl.1 rfl (lv_room (Nat.le_of_ble_eq_true rfl)) dX0_farthestOfFirstWalk_58 ⟨(Nat.zero_le _), (Nat.zero_le _)⟩) hS (fun q _ h => hFc q h) hFc (fun r10 u9 t H1 locs ht hvm hw hB hz1 hk1 hS => ?_)
          obtain ⟨hP1, hK1, hD1⟩ := hB
          rw [ht] at hP1
          obtain ⟨hP, hD⟩ := va_join (wr := pickW (ceX0_farthestOfFirstWalk cyI cyB cyJ cyZ a0 a1 a2 g0_rows g0_columns f1 f2) [0, 1, 2]) (w1 := ([] : va_W)) hP hD [] [0, 1, 2] rfl rfl (by decide) (by decide) hk1 hFc hP1 hD1
          have hP := hP.sub (ws' := (ceX0_farthestOfFirstWalk cyI cyB cyJ cyZ a0 a1 a2 g0_rows g0_columns f1 f2)) [0, 1, 2] rfl
          have hD := hD.sub (ws' := (ceX0_farthestOfFirstWalk cyI cyB cyJ cyZ a0 a1 a2 g0_rows g0_columns f1 f2)) [0, 1, 2] (by decide) rfl
          generalize H1 = H at hP hS ⊢
          refine lv_iadd hx hb dX0_farthestOfFirstWalk_61 ?_
          refine lv_topi (fun v11 ev11 => ?_)
          have hw := hw v11 ev11
          refine lv_istore_n (lv' := [(1, .int v11), (4, .int r8), (0, .ref a0), (2, .int x2), (3, .int x3)]) hx hb dX0_farthestOfFirstWalk_62 rfl hl (by decide) rfl (fun ls hl => ?_)
          refine lv_iload_n hx hb dX0_farthestOfFirstWalk_63 rfl (lv_at hl 3 rfl) ?_
          refine lv_iload hx hb dX0_farthestOfFirstWalk_64 (lv_at hl 1 rfl) ?_
          have hPc := hP.sub (ws' := ([] : va_W)) [] rfl
          have hDc := hD.sub (ws' := ([] : va_W)) [] (by decide) rfl
          have hFc := va_free (wc := ([] : va_W)) hD hS hA [] rfl
          refine va_calli (va_runSN (As := [.int r8]) (rest := [.int x2]) ⟨hx, hb, hml, hown, hts⟩ (ctX10_dogMoves l dC dI cyI cyB cyJ cyZ _ r8 _ hw) ⟨va_cnB 1 hts ggX0_farthestOfFirstWalk_X10_dogMoves rfl rfl rfl (hN _ (List.mem_of_getElem? (i := 51) rfl)) (hts (.initialized RX10) (List.mem_of_getElem? (i := 18) rfl)) (by decide +kernel) ⟨Nat.le_of_ble_eq_true rfl, Nat.le_of_ble_eq_true rfl⟩, (hts (.static yX10_dogMoves) (List.mem_of_getElem? (i := 20) rfl)), trivial⟩ ⟨wPre_blind, fun U hU hW => wPre_of hPc hK hDc hN hU hW⟩ rfl rfl hl.1 rfl (lv_room (Nat.le_of_ble_eq_true rfl)) dX0_farthestOfFirstWalk_66 ⟨(Nat.zero_le _), (Nat.zero_le _)⟩) hS (fun q _ h => hFc q h) hFc (fun r13 u12 t H1 locs ht hvm hw hB hz1 hk1 hS => ?_)
          obtain ⟨hP1, hK1, hD1⟩ := hB
          rw [ht] at hP1
          obtain ⟨hP, hD⟩ := va_join (wr := pickW (ceX0_farthestOfFirstWalk cyI cyB cyJ cyZ a0 a1 a2 g0_rows g0_columns f1 f2) [0, 1, 2]) (w1 := ([] : va_W)) hP hD [] [0, 1, 2] rfl rfl (by decide) (by decide) hk1 hFc hP1 hD1
          have hP := hP.sub (ws' := (ceX0_farthestOfFirstWalk cyI cyB cyJ cyZ a0 a1 a2 g0_rows g0_columns f1 f2)) [0, 1, 2] rfl
          have hD := hD.sub (ws' := (ceX0_farthestOfFirstWalk cyI cyB cyJ cyZ a0 a1 a2 g0_rows g0_columns f1 f2)) [0, 1, 2] (by decide) rfl
          generalize H1 = H at hP hS ⊢
          refine lv_iadd hx hb dX0_farthestOfFirstWalk_69 ?_
          refine lv_topi (fun v14 ev14 => ?_)
          have hw := hw v14 ev14
          refine lv_istore_n (lv' := [(2, .int v14), (1, .int v11), (4, .int r8), (0, .ref a0), (3, .int x3)]) hx hb dX0_farthestOfFirstWalk_70 rfl hl (by decide) rfl (fun ls hl => ?_)
          obtain ⟨v15, ev15⟩ : ∃ y : Int32, y = x3 + 1 := ⟨_, rfl⟩
          have hw := hw v15 ev15
          refine lv_iinc (v := v15) (lv' := [(3, .int v15), (2, .int v14), (1, .int v11), (4, .int r8), (0, .ref a0)]) hx hb dX0_farthestOfFirstWalk_71 hl (k := 4) rfl (by rw [ev15]; rfl) (by decide) rfl (fun ls hl => ?_)
          refine lv_goto (tgt := 6) hx hb dX0_farthestOfFirstWalk_74 (by decide) ?_
          exact ih v11 v14 v15 hw H locs hP hD hS ls (lv_sub hl [4, 2, 1, 0] rfl)
        · have hw := hw.2 hc
          refine lv_goto (tgt := 77) hx hb dX0_farthestOfFirstWalk_44 (by decide) ?_
          exact bX0_farthestOfFirstWalk_77 C0 hK hN hA hQ x1 x2 hw _ _ hP hD hS ls (lv_sub hl [1, 2] rfl)
set_option maxRecDepth 100000 in
set_option maxHeartbeats 4000000 in
theorem ctX0_farthestOfFirstWalk (l : Launch) (dC : Nat → ClassId) (dI : Nat → Nat → Nat) (cyI cyB cyJ cyZ : ClassId) (sz : Nat) (a0 a1 a2 : Nat) (g0_rows : Int32) (g0_columns : Int32) (f1 : Nat → Int32) (f2 : Nat → Int32) (post : Int32 → Unit → Prop) (hw : wpX0_farthestOfFirstWalk post g0_rows g0_columns f1 f2 ) : Met l yX0_farthestOfFirstWalk wsX0_farthestOfFirstWalk rmX0_farthestOfFirstWalk (va_Pc [.ref a0] (wPre dC dI cyI cyB cyJ cyZ sz (ceX0_farthestOfFirstWalk cyI cyB cyJ cyZ a0 a1 a2 g0_rows g0_columns f1 f2))) (va_Qi post (fun u : Unit => wAt dC dI cyI cyB cyJ cyZ (va_A (ceX0_farthestOfFirstWalk cyI cyB cyJ cyZ a0 a1 a2 g0_rows g0_columns f1 f2) sz) (ceX0_farthestOfFirstWalk cyI cyB cyJ cyZ a0 a1 a2 g0_rows g0_columns f1 f2)) (va_A (ceX0_farthestOfFirstWalk cyI cyB cyJ cyZ a0 a1 a2 g0_rows g0_columns f1 f2) sz)) 0 0 (va_A (ceX0_farthestOfFirstWalk cyI cyB cyJ cyZ a0 a1 a2 g0_rows g0_columns f1 f2) sz) := by
  refine Met.ofW (cc := cX0_farthestOfFirstWalk) (maxL := 5) (ret := (some .int)) (by decide) rfl ?_
  intro p e s m args below meth c s₁ B hml hv
  obtain ⟨rfl, hsz, hP, hK, hD0, hN⟩ := hv
  have hx := B.exec
  have hb := B.bytes
  have hr := B.returns
  have hts := atoms_spec (ws := wsX0_farthestOfFirstWalk) B.pre
  have hown : s.vm.findClass RX0 = some m.cls := findClass_of_methodNamed B.named
  have hlocks := B.notSynchronized
  subst hsz
  have hD := hD0.self (sz := s.heap.size)
  generalize hAe : va_A (ceX0_farthestOfFirstWalk cyI cyB cyJ cyZ a0 a1 a2 g0_rows g0_columns f1 f2) s.heap.size = A at hD ⊢
  have hA : ∀ q : Nat, s.heap.size ≤ q → A q := fun q h => by rw [← hAe]; exact Or.inr h
  have hS : va_S A s.heap s.heap [] := va_S.rf
  have C0 : cxM p s m meth c _ wsX0_farthestOfFirstWalk RX0 cX0_farthestOfFirstWalk 5 (some .int) := ⟨hx, hb, hr, hml, hown, hts, hlocks⟩
  have hl := lv_entry ([.ref a0]) (n := 5) (Nat.le_of_ble_eq_true rfl)
  rw [lg_entry_eq]
  generalize (lg_sl ([.ref a0]) ++ List.replicate (5 - (lg_sl ([.ref a0])).length) Slot.unset).toArray = ls at hl ⊢
  have hl : lv_has ls 5 [(0, .ref a0)] := hl
  show W p l e rmX0_farthestOfFirstWalk s m _ below meth c _ _ _ _ _ _
  refine wq (fun Q hQ => ?_)
  refine lv_iconst (v := 0) hx hb dX0_farthestOfFirstWalk_0 (by decide) ?_
  refine lv_istore_n (lv' := [(1, .int 0), (0, .ref a0)]) hx hb dX0_farthestOfFirstWalk_1 rfl hl (by decide) rfl (fun ls hl => ?_)
  refine lv_iconst (v := 0) hx hb dX0_farthestOfFirstWalk_2 (by decide) ?_
  refine lv_istore_n (lv' := [(2, .int 0), (1, .int 0), (0, .ref a0)]) hx hb dX0_farthestOfFirstWalk_3 rfl hl (by decide) rfl (fun ls hl => ?_)
  refine lv_iconst (v := 0) hx hb dX0_farthestOfFirstWalk_4 (by decide) ?_
  refine lv_istore_n (lv' := [(3, .int 0), (2, .int 0), (1, .int 0), (0, .ref a0)]) hx hb dX0_farthestOfFirstWalk_5 rfl hl (by decide) rfl (fun ls hl => ?_)
  obtain ⟨nn, hw⟩ := hw
  exact bX0_farthestOfFirstWalk_6 C0 hK hN hA hQ nn 0 0 0 hw _ _ hP hD hS ls (lv_sub hl [3, 2, 1, 0] rfl)
