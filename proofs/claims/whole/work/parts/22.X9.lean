/-! LeadPark$Thinning.countFrom (LLeadPark$Ground;III)V -/
abbrev ceX9_countFrom (cyI cyB cyJ cyZ : ClassId) (a0 a1 a2 a3 a4 a5 a6 b3_walls : Nat) (g3_ways : Int32) (g3_wallCount : Int32) (g3_texts : Int32) (f1 : Nat → Int32) (f4 : Nat → Int32) (f5 : Nat → Int32) (f6 : Nat → Int32) (f2 : Nat → Int32) : va_W := [(a0, .inr (9, [.ref a2, .ref a1])), (a1, .inl (cyI, 31, .inl f1)), (a2, .inl (cyI, 961, .inl f2)), (a3, .inr (1, [.ref a5, .ref a6, .ref a4, .ref b3_walls, .int g3_ways, .int g3_wallCount, .int g3_texts])), (a4, .inl (cyI, 12, .inl f4)), (a5, .inl (cyI, 360, .inl f5)), (a6, .inl (cyI, 360, .inl f6))]

theorem inX9_countFrom_X1 : ∀ w ∈ wsX10, w ∈ wsX9_countFrom := fun _ h => List.mem_cons_of_mem _ (List.mem_append_left _ (List.mem_append_right _ h))
theorem inX9_countFrom_X9 : ∀ w ∈ wsX90, w ∈ wsX9_countFrom := fun _ h => List.mem_cons_of_mem _ (List.mem_append_right _ h)
abbrev rmX9_countFrom : Room := { frames := 1, cells := 0, slots := 0, locals := 40 }
set_option maxRecDepth 100000 in
set_option maxHeartbeats 4000000 in
theorem bX9_countFrom_126 {p : Program} {l : Launch} {e : Env} {s : State} {m : MethodId} {args : Array Value} {below : List Frame} {meth : Method} {c : Code} {dC : Nat → ClassId} {dI : Nat → Nat → Nat} {cyI cyB cyJ cyZ : ClassId} {A : Nat → Prop} {a0 a1 a2 a3 a4 a5 a6 b3_walls : Nat} {g3_ways : Int32} {g3_wallCount : Int32} {g3_texts : Int32} (C0 : cxM p s m meth c args wsX9_countFrom RX9 cX9_countFrom 9 none) (hK : va_K (dC, dI) vwCl (tyA cyI cyB cyJ cyZ) s) (hN : nwA s) (hA : ∀ q : Nat, s.heap.size ≤ q → A q) {post : ((Nat → Int32)) → Prop} {f1 : Nat → Int32} {f4 : Nat → Int32} {f5 : Nat → Int32} {f6 : Nat → Int32} {k14 : (Nat → Int32) → Int32 → Int32 → Int32 → Int32 → Int32 → Prop} {Q : State → Prop} (hQ : Q = MQ below (va_Qv post (fun u : (Nat → Int32) => wAt dC dI cyI cyB cyJ cyZ A (ceX9_countFrom cyI cyB cyJ cyZ a0 a1 a2 a3 a4 a5 a6 b3_walls g3_ways g3_wallCount g3_texts f1 f4 f5 f6 u)) A) args s 0 0 A) (hk14 : ∀ (f2 : Nat → Int32) (x2 : Int32) (x3 : Int32) (x4 : Int32) (x5 : Int32) (x6 : Int32), k14 f2 x2 x3 x4 x5 x6 → AtW p l e rmX9_countFrom s m args below meth c dC dI A Q 9 0 0 (ceX9_countFrom cyI cyB cyJ cyZ a0 a1 a2 a3 a4 a5 a6 b3_walls g3_ways g3_wallCount g3_texts f1 f4 f5 f6 f2) [(0, .ref a0), (1, .ref a3), (2, .int x2), (3, .int x3), (4, .int x4), (5, .int x5), (6, .int x6)] 14 []) : ∀ (f2 : Nat → Int32) (x2 : Int32) (x3 : Int32) (x4 : Int32) (x5 : Int32) (x6 : Int32), wpX9_countFrom_126 k14 post f1 f4 f5 f6 f2 x2 x3 x4 x5 x6 → AtW p l e rmX9_countFrom s m args below meth c dC dI A Q 9 0 0 (ceX9_countFrom cyI cyB cyJ cyZ a0 a1 a2 a3 a4 a5 a6 b3_walls g3_ways g3_wallCount g3_texts f1 f4 f5 f6 f2) [(0, .ref a0), (1, .ref a3), (2, .int x2), (3, .int x3), (4, .int x4), (5, .int x5), (6, .int x6)] 126 [] := by
  intro f2 x2 x3 x4 x5 x6 hw H locs hP hD hS ls hl
  have C1 := C0
  obtain ⟨hx, hb, hr, hml, hown, hts, hlocks⟩ := C1
  obtain ⟨v1, ev1⟩ : ∃ y : Int32, y = x6 + (-1) := ⟨_, rfl⟩
  have hw := hw v1 ev1
  refine lv_iinc (v := v1) (lv' := [(6, .int v1), (0, .ref a0), (1, .ref a3), (2, .int x2), (3, .int x3), (4, .int x4), (5, .int x5)]) hx hb dX9_countFrom_126 hl (k := 6) rfl (by rw [ev1]; rfl) (by decide) rfl (fun ls hl => ?_)
  refine lv_goto (tgt := 14) hx hb dX9_countFrom_129 (by decide) ?_
  exact hk14 f2 x2 x3 x4 x5 v1 hw H locs hP hD hS ls (lv_sub hl [1, 2, 3, 4, 5, 6, 0] rfl)
set_option maxRecDepth 100000 in
set_option maxHeartbeats 4000000 in
theorem bX9_countFrom_95 {p : Program} {l : Launch} {e : Env} {s : State} {m : MethodId} {args : Array Value} {below : List Frame} {meth : Method} {c : Code} {dC : Nat → ClassId} {dI : Nat → Nat → Nat} {cyI cyB cyJ cyZ : ClassId} {A : Nat → Prop} {a0 a1 a2 a3 a4 a5 a6 b3_walls : Nat} {g3_ways : Int32} {g3_wallCount : Int32} {g3_texts : Int32} (C0 : cxM p s m meth c args wsX9_countFrom RX9 cX9_countFrom 9 none) (hK : va_K (dC, dI) vwCl (tyA cyI cyB cyJ cyZ) s) (hN : nwA s) (hA : ∀ q : Nat, s.heap.size ≤ q → A q) {post : ((Nat → Int32)) → Prop} {f1 : Nat → Int32} {f4 : Nat → Int32} {f5 : Nat → Int32} {f6 : Nat → Int32} {k14 : (Nat → Int32) → Int32 → Int32 → Int32 → Int32 → Int32 → Prop} {Q : State → Prop} (hQ : Q = MQ below (va_Qv post (fun u : (Nat → Int32) => wAt dC dI cyI cyB cyJ cyZ A (ceX9_countFrom cyI cyB cyJ cyZ a0 a1 a2 a3 a4 a5 a6 b3_walls g3_ways g3_wallCount g3_texts f1 f4 f5 f6 u)) A) args s 0 0 A) (hk14 : ∀ (f2 : Nat → Int32) (x2 : Int32) (x3 : Int32) (x4 : Int32) (x5 : Int32) (x6 : Int32), k14 f2 x2 x3 x4 x5 x6 → AtW p l e rmX9_countFrom s m args below meth c dC dI A Q 9 0 0 (ceX9_countFrom cyI cyB cyJ cyZ a0 a1 a2 a3 a4 a5 a6 b3_walls g3_ways g3_wallCount g3_texts f1 f4 f5 f6 f2) [(0, .ref a0), (1, .ref a3), (2, .int x2), (3, .int x3), (4, .int x4), (5, .int x5), (6, .int x6)] 14 []) : ∀ (f2 : Nat → Int32) (x2 : Int32) (x3 : Int32) (x4 : Int32) (x5 : Int32) (x6 : Int32) (x8 : Int32), wpX9_countFrom_95 k14 post f1 f4 f5 f6 f2 x2 x3 x4 x5 x6 x8 → AtW p l e rmX9_countFrom s m args below meth c dC dI A Q 9 0 0 (ceX9_countFrom cyI cyB cyJ cyZ a0 a1 a2 a3 a4 a5 a6 b3_walls g3_ways g3_wallCount g3_texts f1 f4 f5 f6 f2) [(0, .ref a0), (1, .ref a3), (2, .int x2), (3, .int x3), (4, .int x4), (5, .int x5), (6, .int x6), (8, .int x8)] 95 [] := by
  intro f2 x2 x3 x4 x5 x6 x8 hw H locs hP hD hS ls hl
  have C1 := C0
  obtain ⟨hx, hb, hr, hml, hown, hts, hlocks⟩ := C1
  refine lv_aload_n hx hb dX9_countFrom_95 rfl (lv_at hl 0 rfl) ?_
  refine va_get (D := (dC, dI)) (ci := 9) (v := .ref a2) (C := RX9) (T := TX9) (N := 2) hx hb hts inX9_countFrom_X9 hown hK hP 0 rfl rfl 0 (by decide) (hts (.fieldLink RX9 11 "LeadPark$Thinning" "fewest" "[I") (List.mem_of_getElem? (i := 7) rfl)) (fun _ h9 => h9) rfl dX9_countFrom_96 ?_
  refine lv_iload_n hx hb dX9_countFrom_99 rfl (lv_at hl 3 rfl) ?_
  refine lv_bipush (v := 31) hx hb dX9_countFrom_100 (by decide) ?_
  refine lv_imul hx hb dX9_countFrom_102 ?_
  refine lv_iload hx hb dX9_countFrom_103 (lv_at hl 6 rfl) ?_
  refine lv_iadd hx hb dX9_countFrom_105 ?_
  refine lv_iload hx hb dX9_countFrom_106 (lv_at hl 7 rfl) ?_
  refine lv_aload_n hx hb dX9_countFrom_108 rfl (lv_at hl 0 rfl) ?_
  refine va_get (D := (dC, dI)) (ci := 9) (v := .ref a2) (C := RX9) (T := TX9) (N := 2) hx hb hts inX9_countFrom_X9 hown hK hP 0 rfl rfl 0 (by decide) (hts (.fieldLink RX9 11 "LeadPark$Thinning" "fewest" "[I") (List.mem_of_getElem? (i := 7) rfl)) (fun _ h9 => h9) rfl dX9_countFrom_109 ?_
  refine lv_iload_n hx hb dX9_countFrom_112 rfl (lv_at hl 3 rfl) ?_
  refine lv_bipush (v := 31) hx hb dX9_countFrom_113 (by decide) ?_
  refine lv_imul hx hb dX9_countFrom_115 ?_
  refine lv_iload hx hb dX9_countFrom_116 (lv_at hl 6 rfl) ?_
  refine lv_iadd hx hb dX9_countFrom_118 ?_
  refine lv_iconst (v := 1) hx hb dX9_countFrom_119 (by decide) ?_
  refine lv_iadd hx hb dX9_countFrom_120 ?_
  obtain ⟨hi, hw⟩ := hw
  refine va_iald hx hb hK hP 2 0 rfl rfl hi dX9_countFrom_121 ?_
  refine va_mmin hx hb (hml.trans hl.1.symm) hown (hts (.methodLink RX9 34 Lib.Math.min.name) (List.mem_of_getElem? (i := 2) rfl)) (hts (.static Lib.Math.min.name) (List.mem_of_getElem? (i := 3) rfl)) (hts (.initialized "java/lang/Math") (List.mem_of_getElem? (i := 4) rfl)) (hts (.code Lib.Math.min.name Lib.Math.min.code 2 (some .int)) (List.mem_of_getElem? (i := 5) rfl)) (Nat.le_of_ble_eq_true rfl) (Nat.le_of_ble_eq_true rfl) (by decide) (by decide) dX9_countFrom_122 ?_
  obtain ⟨hi, hw⟩ := hw
  refine va_iast hx hb hK hP hD hS 2 0 rfl rfl hi dX9_countFrom_125 (fun H locs hP hD hS => ?_)
  have hP : va_P (dC, dI) vwCl (ceX9_countFrom cyI cyB cyJ cyZ a0 a1 a2 a3 a4 a5 a6 b3_walls g3_ways g3_wallCount g3_texts f1 f4 f5 f6 (upd f2 ((x3 * 31) + x6).toNatClampNeg (iMin x8 (f2 (((x3 * 31) + x6) + 1).toNatClampNeg)))) H := hP
  have hD : va_D A (ceX9_countFrom cyI cyB cyJ cyZ a0 a1 a2 a3 a4 a5 a6 b3_walls g3_ways g3_wallCount g3_texts f1 f4 f5 f6 (upd f2 ((x3 * 31) + x6).toNatClampNeg (iMin x8 (f2 (((x3 * 31) + x6) + 1).toNatClampNeg)))) := hD
  exact bX9_countFrom_126 C0 hK hN hA hQ hk14 (upd f2 ((x3 * 31) + x6).toNatClampNeg (iMin x8 (f2 (((x3 * 31) + x6) + 1).toNatClampNeg))) x2 x3 x4 x5 x6 hw _ _ hP hD hS ls (lv_sub hl [0, 1, 2, 3, 4, 5, 6] rfl)
set_option maxRecDepth 100000 in
set_option maxHeartbeats 4000000 in
theorem bX9_countFrom_73 {p : Program} {l : Launch} {e : Env} {s : State} {m : MethodId} {args : Array Value} {below : List Frame} {meth : Method} {c : Code} {dC : Nat → ClassId} {dI : Nat → Nat → Nat} {cyI cyB cyJ cyZ : ClassId} {A : Nat → Prop} {a0 a1 a2 a3 a4 a5 a6 b3_walls : Nat} {g3_ways : Int32} {g3_wallCount : Int32} {g3_texts : Int32} (C0 : cxM p s m meth c args wsX9_countFrom RX9 cX9_countFrom 9 none) (hK : va_K (dC, dI) vwCl (tyA cyI cyB cyJ cyZ) s) (hN : nwA s) (hA : ∀ q : Nat, s.heap.size ≤ q → A q) {post : ((Nat → Int32)) → Prop} {f1 : Nat → Int32} {f4 : Nat → Int32} {f5 : Nat → Int32} {f6 : Nat → Int32} {k14 : (Nat → Int32) → Int32 → Int32 → Int32 → Int32 → Int32 → Prop} {Q : State → Prop} (hQ : Q = MQ below (va_Qv post (fun u : (Nat → Int32) => wAt dC dI cyI cyB cyJ cyZ A (ceX9_countFrom cyI cyB cyJ cyZ a0 a1 a2 a3 a4 a5 a6 b3_walls g3_ways g3_wallCount g3_texts f1 f4 f5 f6 u)) A) args s 0 0 A) (hk14 : ∀ (f2 : Nat → Int32) (x2 : Int32) (x3 : Int32) (x4 : Int32) (x5 : Int32) (x6 : Int32), k14 f2 x2 x3 x4 x5 x6 → AtW p l e rmX9_countFrom s m args below meth c dC dI A Q 9 0 0 (ceX9_countFrom cyI cyB cyJ cyZ a0 a1 a2 a3 a4 a5 a6 b3_walls g3_ways g3_wallCount g3_texts f1 f4 f5 f6 f2) [(0, .ref a0), (1, .ref a3), (2, .int x2), (3, .int x3), (4, .int x4), (5, .int x5), (6, .int x6)] 14 []) : ∀ (f2 : Nat → Int32) (x2 : Int32) (x3 : Int32) (x4 : Int32) (x5 : Int32) (x6 : Int32) (s0 : Int32), wpX9_countFrom_73 k14 post f1 f4 f5 f6 f2 x2 x3 x4 x5 x6 s0 → AtW p l e rmX9_countFrom s m args below meth c dC dI A Q 9 0 0 (ceX9_countFrom cyI cyB cyJ cyZ a0 a1 a2 a3 a4 a5 a6 b3_walls g3_ways g3_wallCount g3_texts f1 f4 f5 f6 f2) [(0, .ref a0), (1, .ref a3), (2, .int x2), (3, .int x3), (4, .int x4), (5, .int x5), (6, .int x6)] 73 [.int s0] := by
  intro f2 x2 x3 x4 x5 x6 s0 hw H locs hP hD hS ls hl
  have C1 := C0
  obtain ⟨hx, hb, hr, hml, hown, hts, hlocks⟩ := C1
  refine lv_istore (lv' := [(8, .int s0), (0, .ref a0), (1, .ref a3), (2, .int x2), (3, .int x3), (4, .int x4), (5, .int x5), (6, .int x6)]) hx hb dX9_countFrom_73 hl (by decide) rfl (fun ls hl => ?_)
  refine lv_iload_n hx hb dX9_countFrom_75 rfl (lv_at hl 4 rfl) ?_
  refine lv_iload hx hb dX9_countFrom_76 (lv_at hl 6 rfl) ?_
  refine lv_iconst (v := 1) hx hb dX9_countFrom_78 (by decide) ?_
  refine lv_isub hx hb dX9_countFrom_79 ?_
  refine lv_icmp_ne (tgt := 95) hx hb dX9_countFrom_80 (by decide) (fun hc => ?_) (fun hc => ?_)
  · have hw := hw.1 hc
    exact bX9_countFrom_95 C0 hK hN hA hQ hk14 f2 x2 x3 x4 x5 x6 s0 hw _ _ hP hD hS ls (lv_sub hl [1, 2, 3, 4, 5, 6, 7, 0] rfl)
  · have hw := hw.2 hc
    refine lv_iload hx hb dX9_countFrom_83 (lv_at hl 7 rfl) ?_
    refine lv_iload hx hb dX9_countFrom_85 (lv_at hl 6 rfl) ?_
    refine lv_iconst (v := 1) hx hb dX9_countFrom_87 (by decide) ?_
    refine lv_isub hx hb dX9_countFrom_88 ?_
    refine lv_icmp_ne (tgt := 95) hx hb dX9_countFrom_89 (by decide) (fun hc => ?_) (fun hc => ?_)
    · have hw := hw.1 hc
      exact bX9_countFrom_95 C0 hK hN hA hQ hk14 f2 x2 x3 x4 x5 x6 s0 hw _ _ hP hD hS ls (lv_sub hl [1, 2, 3, 4, 5, 6, 7, 0] rfl)
    · have hw := hw.2 hc
      refine lv_iconst (v := 1) hx hb dX9_countFrom_92 (by decide) ?_
      refine lv_istore (lv' := [(8, .int 1), (0, .ref a0), (1, .ref a3), (2, .int x2), (3, .int x3), (4, .int x4), (5, .int x5), (6, .int x6)]) hx hb dX9_countFrom_93 hl (by decide) rfl (fun ls hl => ?_)
      exact bX9_countFrom_95 C0 hK hN hA hQ hk14 f2 x2 x3 x4 x5 x6 1 hw _ _ hP hD hS ls (lv_sub hl [1, 2, 3, 4, 5, 6, 7, 0] rfl)
set_option maxRecDepth 100000 in
set_option maxHeartbeats 4000000 in
theorem bX9_countFrom_14 {p : Program} {l : Launch} {e : Env} {s : State} {m : MethodId} {args : Array Value} {below : List Frame} {meth : Method} {c : Code} {dC : Nat → ClassId} {dI : Nat → Nat → Nat} {cyI cyB cyJ cyZ : ClassId} {A : Nat → Prop} {a0 a1 a2 a3 a4 a5 a6 b3_walls : Nat} {g3_ways : Int32} {g3_wallCount : Int32} {g3_texts : Int32} (C0 : cxM p s m meth c args wsX9_countFrom RX9 cX9_countFrom 9 none) (hK : va_K (dC, dI) vwCl (tyA cyI cyB cyJ cyZ) s) (hN : nwA s) (hA : ∀ q : Nat, s.heap.size ≤ q → A q) {post : ((Nat → Int32)) → Prop} {f1 : Nat → Int32} {f4 : Nat → Int32} {f5 : Nat → Int32} {f6 : Nat → Int32} {Q : State → Prop} (hQ : Q = MQ below (va_Qv post (fun u : (Nat → Int32) => wAt dC dI cyI cyB cyJ cyZ A (ceX9_countFrom cyI cyB cyJ cyZ a0 a1 a2 a3 a4 a5 a6 b3_walls g3_ways g3_wallCount g3_texts f1 f4 f5 f6 u)) A) args s 0 0 A) : ∀ (n : Nat) (f2 : Nat → Int32) (x2 : Int32) (x3 : Int32) (x4 : Int32) (x5 : Int32) (x6 : Int32), wpX9_countFrom_14 post f1 f4 f5 f6 n f2 x2 x3 x4 x5 x6 → AtW p l e rmX9_countFrom s m args below meth c dC dI A Q 9 0 0 (ceX9_countFrom cyI cyB cyJ cyZ a0 a1 a2 a3 a4 a5 a6 b3_walls g3_ways g3_wallCount g3_texts f1 f4 f5 f6 f2) [(0, .ref a0), (1, .ref a3), (2, .int x2), (3, .int x3), (4, .int x4), (5, .int x5), (6, .int x6)] 14 [] := by
  intro n
  induction n with
  | zero => intro f2 x2 x3 x4 x5 x6 hw; exact False.elim hw
  | succ n ih =>
    intro f2 x2 x3 x4 x5 x6 hw H locs hP hD hS ls hl
    have C1 := C0
    obtain ⟨hx, hb, hr, hml, hown, hts, hlocks⟩ := C1
    refine lv_iload hx hb dX9_countFrom_14 (lv_at hl 6 rfl) ?_
    refine lv_if_lt (tgt := 132) hx hb dX9_countFrom_16 (by decide) (fun hc => ?_) (fun hc => ?_)
    · have hw := hw.1 hc
      rw [hQ]
      exact W.vret hx hb hr (fun t ht hW => ⟨⟨(f2), rfl, hw, by rw [ht]; exact hP, va_K.moved hW.alike hK, hD⟩, hS.F ht⟩) hS.2.2 dX9_countFrom_132
    · have hw := hw.2 hc
      refine lv_aload_n hx hb dX9_countFrom_19 rfl (lv_at hl 1 rfl) ?_
      refine lv_iload_n hx hb dX9_countFrom_20 rfl (lv_at hl 2 rfl) ?_
      refine lv_iload_n hx hb dX9_countFrom_21 rfl (lv_at hl 3 rfl) ?_
      refine lv_iload_n hx hb dX9_countFrom_22 rfl (lv_at hl 2 rfl) ?_
      refine lv_iload hx hb dX9_countFrom_23 (lv_at hl 6 rfl) ?_
      have hPc := hP.sub (ws' := (ceX1_distance cyI cyB cyJ cyZ a3 a5 a6 a4 b3_walls g3_ways g3_wallCount g3_texts f5 f6)) [3, 5, 6] rfl
      have hDc := hD.sub (ws' := (ceX1_distance cyI cyB cyJ cyZ a3 a5 a6 a4 b3_walls g3_ways g3_wallCount g3_texts f5 f6)) [3, 5, 6] (by decide) rfl
      have hFc := va_free (wc := (ceX1_distance cyI cyB cyJ cyZ a3 a5 a6 a4 b3_walls g3_ways g3_wallCount g3_texts f5 f6)) hD hS hA [3, 5, 6] rfl
      refine va_calli (va_runV (As := [.int x2, .int x3, .int x2, .int x6]) (rest := []) ⟨hx, hb, hml, hown, hts⟩ (ctX1_distance l dC dI cyI cyB cyJ cyZ _ a3 a5 a6 a4 b3_walls g3_ways g3_wallCount g3_texts f5 f6 x2 x3 x2 x6 _ hw) (cwV 4 hts gX9_countFrom_X1_distance rfl rfl rfl (by decide +kernel) ⟨Nat.le_of_ble_eq_true rfl, Nat.le_of_ble_eq_true rfl⟩) ⟨wPre_blind, va_recv hK hPc (ci := 1) (q0 := 0) rfl rfl, fun U hU hW => wPre_of hPc hK hDc hN hU hW⟩ rfl rfl hl.1 rfl (lv_room (Nat.le_of_ble_eq_true rfl)) dX9_countFrom_25 ⟨(Nat.zero_le _), (Nat.zero_le _)⟩) hS (fun q _ h => hFc q h) hFc (fun r2 u1 t H1 locs ht hvm hw hB hz1 hk1 hS => ?_)
      obtain ⟨hP1, hK1, hD1⟩ := hB
      rw [ht] at hP1
      obtain ⟨hP, hD⟩ := va_join (wr := pickW (ceX9_countFrom cyI cyB cyJ cyZ a0 a1 a2 a3 a4 a5 a6 b3_walls g3_ways g3_wallCount g3_texts f1 f4 f5 f6 f2) [0, 1, 2, 4]) (w1 := (ceX1_distance cyI cyB cyJ cyZ a3 a5 a6 a4 b3_walls g3_ways g3_wallCount g3_texts f5 f6)) hP hD [3, 5, 6] [0, 1, 2, 4] rfl rfl (by decide) (by decide) hk1 hFc hP1 hD1
      have hP := hP.sub (ws' := (ceX9_countFrom cyI cyB cyJ cyZ a0 a1 a2 a3 a4 a5 a6 b3_walls g3_ways g3_wallCount g3_texts f1 f4 f5 f6 f2)) [0, 1, 2, 4, 3, 5, 6] rfl
      have hD := hD.sub (ws' := (ceX9_countFrom cyI cyB cyJ cyZ a0 a1 a2 a3 a4 a5 a6 b3_walls g3_ways g3_wallCount g3_texts f1 f4 f5 f6 f2)) [0, 1, 2, 4, 3, 5, 6] (by decide) rfl
      generalize H1 = H at hP hS ⊢
      refine lv_iload hx hb dX9_countFrom_28 (lv_at hl 4 rfl) ?_
      refine lv_icmp_le (tgt := 36) hx hb dX9_countFrom_30 (by decide) (fun hc => ?_) (fun hc => ?_)
      · have hw := hw.1 hc
        refine lv_aload_n hx hb dX9_countFrom_36 rfl (lv_at hl 0 rfl) ?_
        refine va_get (D := (dC, dI)) (ci := 9) (v := .ref a1) (C := RX9) (T := TX9) (N := 2) hx hb hts inX9_countFrom_X9 hown hK hP 0 rfl rfl 1 (by decide) (hts (.fieldLink RX9 15 "LeadPark$Thinning" "fewestLater" "[I") (List.mem_of_getElem? (i := 1) rfl)) (fun _ h9 => h9) rfl dX9_countFrom_37 ?_
        refine lv_iload hx hb dX9_countFrom_40 (lv_at hl 6 rfl) ?_
        obtain ⟨hi, hw⟩ := hw
        refine va_iald hx hb hK hP 1 0 rfl rfl hi dX9_countFrom_42 ?_
        refine lv_aload_n hx hb dX9_countFrom_43 rfl (lv_at hl 0 rfl) ?_
        refine va_get (D := (dC, dI)) (ci := 9) (v := .ref a1) (C := RX9) (T := TX9) (N := 2) hx hb hts inX9_countFrom_X9 hown hK hP 0 rfl rfl 1 (by decide) (hts (.fieldLink RX9 15 "LeadPark$Thinning" "fewestLater" "[I") (List.mem_of_getElem? (i := 1) rfl)) (fun _ h9 => h9) rfl dX9_countFrom_44 ?_
        refine lv_iload hx hb dX9_countFrom_47 (lv_at hl 6 rfl) ?_
        refine lv_iconst (v := 1) hx hb dX9_countFrom_49 (by decide) ?_
        refine lv_iadd hx hb dX9_countFrom_50 ?_
        obtain ⟨hi, hw⟩ := hw
        refine va_iald hx hb hK hP 1 0 rfl rfl hi dX9_countFrom_51 ?_
        refine va_mmin hx hb (hml.trans hl.1.symm) hown (hts (.methodLink RX9 34 Lib.Math.min.name) (List.mem_of_getElem? (i := 2) rfl)) (hts (.static Lib.Math.min.name) (List.mem_of_getElem? (i := 3) rfl)) (hts (.initialized "java/lang/Math") (List.mem_of_getElem? (i := 4) rfl)) (hts (.code Lib.Math.min.name Lib.Math.min.code 2 (some .int)) (List.mem_of_getElem? (i := 5) rfl)) (Nat.le_of_ble_eq_true rfl) (Nat.le_of_ble_eq_true rfl) (by decide) (by decide) dX9_countFrom_52 ?_
        refine lv_topi (fun v3 ev3 => ?_)
        have hw := hw v3 ev3
        refine lv_istore (lv' := [(7, .int v3), (0, .ref a0), (1, .ref a3), (2, .int x2), (3, .int x3), (4, .int x4), (5, .int x5), (6, .int x6)]) hx hb dX9_countFrom_55 hl (by decide) rfl (fun ls hl => ?_)
        refine lv_iload hx hb dX9_countFrom_57 (lv_at hl 0 rfl) ?_
        refine lv_ldc (v := 2147483647) hx hb hown (hts (.constant RX9 23 (2147483647)) (List.mem_of_getElem? (i := 6) rfl)) dX9_countFrom_59 ?_
        refine lv_icmp_ne (tgt := 69) hx hb dX9_countFrom_61 (by decide) (fun hc => ?_) (fun hc => ?_)
        · have hw := hw.1 hc
          refine lv_iload hx hb dX9_countFrom_69 (lv_at hl 0 rfl) ?_
          refine lv_iconst (v := 1) hx hb dX9_countFrom_71 (by decide) ?_
          refine lv_iadd hx hb dX9_countFrom_72 ?_
          exact bX9_countFrom_73 C0 hK hN hA hQ ih f2 x2 x3 x4 x5 x6 (v3 + 1) hw _ _ hP hD hS ls (lv_sub hl [1, 2, 3, 4, 5, 6, 7] rfl)
        · have hw := hw.2 hc
          refine lv_ldc (v := 2147483647) hx hb hown (hts (.constant RX9 23 (2147483647)) (List.mem_of_getElem? (i := 6) rfl)) dX9_countFrom_64 ?_
          refine lv_goto (tgt := 73) hx hb dX9_countFrom_66 (by decide) ?_
          exact bX9_countFrom_73 C0 hK hN hA hQ ih f2 x2 x3 x4 x5 x6 2147483647 hw _ _ hP hD hS ls (lv_sub hl [1, 2, 3, 4, 5, 6, 7] rfl)
      · have hw := hw.2 hc
        refine lv_goto (tgt := 126) hx hb dX9_countFrom_33 (by decide) ?_
        exact bX9_countFrom_126 C0 hK hN hA hQ ih f2 x2 x3 x4 x5 x6 hw _ _ hP hD hS ls (lv_sub hl [0, 1, 2, 3, 4, 5, 6] rfl)
set_option maxRecDepth 100000 in
set_option maxHeartbeats 4000000 in
theorem ctX9_countFrom (l : Launch) (dC : Nat → ClassId) (dI : Nat → Nat → Nat) (cyI cyB cyJ cyZ : ClassId) (sz : Nat) (a0 a1 a2 a3 a4 a5 a6 b3_walls : Nat) (g3_ways : Int32) (g3_wallCount : Int32) (g3_texts : Int32) (f1 : Nat → Int32) (f4 : Nat → Int32) (f5 : Nat → Int32) (f6 : Nat → Int32) (f2 : Nat → Int32) (p1 : Int32) (p2 : Int32) (p3 : Int32) (post : ((Nat → Int32)) → Prop) (hw : wpX9_countFrom post f1 f4 f5 f6 f2 p1 p2 p3) : Met l yX9_countFrom wsX9_countFrom rmX9_countFrom (va_Pc [.ref a0, .ref a3, .int p1, .int p2, .int p3] (wPre dC dI cyI cyB cyJ cyZ sz (ceX9_countFrom cyI cyB cyJ cyZ a0 a1 a2 a3 a4 a5 a6 b3_walls g3_ways g3_wallCount g3_texts f1 f4 f5 f6 f2))) (va_Qv post (fun u : (Nat → Int32) => wAt dC dI cyI cyB cyJ cyZ (va_A (ceX9_countFrom cyI cyB cyJ cyZ a0 a1 a2 a3 a4 a5 a6 b3_walls g3_ways g3_wallCount g3_texts f1 f4 f5 f6 f2) sz) (ceX9_countFrom cyI cyB cyJ cyZ a0 a1 a2 a3 a4 a5 a6 b3_walls g3_ways g3_wallCount g3_texts f1 f4 f5 f6 u)) (va_A (ceX9_countFrom cyI cyB cyJ cyZ a0 a1 a2 a3 a4 a5 a6 b3_walls g3_ways g3_wallCount g3_texts f1 f4 f5 f6 f2) sz)) 0 0 (va_A (ceX9_countFrom cyI cyB cyJ cyZ a0 a1 a2 a3 a4 a5 a6 b3_walls g3_ways g3_wallCount g3_texts f1 f4 f5 f6 f2) sz) := by
  refine Met.ofW (cc := cX9_countFrom) (maxL := 9) (ret := none) (by decide) rfl ?_
  intro p e s m args below meth c s₁ B hml hv
  obtain ⟨rfl, hsz, hP, hK, hD0, hN⟩ := hv
  have hx := B.exec
  have hb := B.bytes
  have hr := B.returns
  have hts := atoms_spec (ws := wsX9_countFrom) B.pre
  have hown : s.vm.findClass RX9 = some m.cls := findClass_of_methodNamed B.named
  have hlocks := B.notSynchronized
  subst hsz
  have hD := hD0.self (sz := s.heap.size)
  generalize hAe : va_A (ceX9_countFrom cyI cyB cyJ cyZ a0 a1 a2 a3 a4 a5 a6 b3_walls g3_ways g3_wallCount g3_texts f1 f4 f5 f6 f2) s.heap.size = A at hD ⊢
  have hA : ∀ q : Nat, s.heap.size ≤ q → A q := fun q h => by rw [← hAe]; exact Or.inr h
  have hS : va_S A s.heap s.heap [] := va_S.rf
  have C0 : cxM p s m meth c _ wsX9_countFrom RX9 cX9_countFrom 9 none := ⟨hx, hb, hr, hml, hown, hts, hlocks⟩
  have hl := lv_entry ([.ref a0, .ref a3, .int p1, .int p2, .int p3]) (n := 9) (Nat.le_of_ble_eq_true rfl)
  rw [lg_entry_eq]
  generalize (lg_sl ([.ref a0, .ref a3, .int p1, .int p2, .int p3]) ++ List.replicate (9 - (lg_sl ([.ref a0, .ref a3, .int p1, .int p2, .int p3])).length) Slot.unset).toArray = ls at hl ⊢
  have hl : lv_has ls 9 [(0, .ref a0), (1, .ref a3), (2, .int p1), (3, .int p2), (4, .int p3)] := hl
  show W p l e rmX9_countFrom s m _ below meth c _ _ _ _ _ _
  refine wq (fun Q hQ => ?_)
  refine lv_aload_n hx hb dX9_countFrom_0 rfl (lv_at hl 1 rfl) ?_
  refine va_getN (D := (dC, dI)) (ci := 1) (v := .ref a4) (C := RX1) (T := TX1) (N := 7) hx hb hts inX9_countFrom_X1 hown hK hP 3 rfl rfl 2 (by decide) (va_Nw.use rfl (hN _ (List.mem_of_getElem? (i := 4) rfl))) (fun _ h9 => h9) rfl dX9_countFrom_1 ?_
  refine lv_iload_n hx hb dX9_countFrom_4 rfl (lv_at hl 2 rfl) ?_
  obtain ⟨hi, hw⟩ := hw
  refine va_iald hx hb hK hP 4 0 rfl rfl hi dX9_countFrom_5 ?_
  refine lv_topi (fun v1 ev1 => ?_)
  have hw := hw v1 ev1
  refine lv_istore (lv' := [(5, .int v1), (0, .ref a0), (1, .ref a3), (2, .int p1), (3, .int p2), (4, .int p3)]) hx hb dX9_countFrom_6 hl (by decide) rfl (fun ls hl => ?_)
  refine lv_iload hx hb dX9_countFrom_8 (lv_at hl 0 rfl) ?_
  refine lv_iconst (v := 1) hx hb dX9_countFrom_10 (by decide) ?_
  refine lv_isub hx hb dX9_countFrom_11 ?_
  refine lv_topi (fun v2 ev2 => ?_)
  have hw := hw v2 ev2
  refine lv_istore (lv' := [(6, .int v2), (5, .int v1), (0, .ref a0), (1, .ref a3), (2, .int p1), (3, .int p2), (4, .int p3)]) hx hb dX9_countFrom_12 hl (by decide) rfl (fun ls hl => ?_)
  obtain ⟨nn, hw⟩ := hw
  exact bX9_countFrom_14 C0 hK hN hA hQ nn f2 p1 p2 p3 v1 v2 hw _ _ hP hD hS ls (lv_sub hl [2, 3, 4, 5, 6, 1, 0] rfl)
/-! LeadPark$Thinning.walkOn (III)I -/
abbrev ceX9_walkOn (cyI cyB cyJ cyZ : ClassId) (a0 a1 b0_fewestLater : Nat) (f1 : Nat → Int32) : va_W := [(a0, .inr (9, [.ref a1, .ref b0_fewestLater])), (a1, .inl (cyI, 961, .inl f1))]

theorem inX9_walkOn_X9 : ∀ w ∈ wsX90, w ∈ wsX9_walkOn := fun _ h => List.mem_cons_of_mem _ (List.mem_append_right _ h)
abbrev rmX9_walkOn : Room := { frames := 0, cells := 0, slots := 0, locals := 0 }
set_option maxRecDepth 100000 in
set_option maxHeartbeats 4000000 in
theorem bX9_walkOn_78 {p : Program} {l : Launch} {e : Env} {s : State} {m : MethodId} {args : Array Value} {below : List Frame} {meth : Method} {c : Code} {dC : Nat → ClassId} {dI : Nat → Nat → Nat} {cyI cyB cyJ cyZ : ClassId} {A : Nat → Prop} {a0 a1 b0_fewestLater : Nat} (C0 : cxM p s m meth c args wsX9_walkOn RX9 cX9_walkOn 7 (some .int)) (hK : va_K (dC, dI) vwCl (tyA cyI cyB cyJ cyZ) s) (hN : nwA s) (hA : ∀ q : Nat, s.heap.size ≤ q → A q) {post : Int32 → Unit → Prop} {f1 : Nat → Int32} {k6 : Int32 → Int32 → Int32 → Int32 → Int32 → Prop} {Q : State → Prop} (hQ : Q = MQ below (va_Qi post (fun u : Unit => wAt dC dI cyI cyB cyJ cyZ A (ceX9_walkOn cyI cyB cyJ cyZ a0 a1 b0_fewestLater f1)) A) args s 0 0 A) (hk6 : ∀ (x1 : Int32) (x2 : Int32) (x3 : Int32) (x4 : Int32) (x5 : Int32), k6 x1 x2 x3 x4 x5 → AtW p l e rmX9_walkOn s m args below meth c dC dI A Q 7 0 0 (ceX9_walkOn cyI cyB cyJ cyZ a0 a1 b0_fewestLater f1) [(0, .ref a0), (1, .int x1), (2, .int x2), (3, .int x3), (4, .int x4), (5, .int x5)] 6 []) : ∀ (x1 : Int32) (x2 : Int32) (x3 : Int32) (x4 : Int32) (x5 : Int32), wpX9_walkOn_78 k6 post f1 x1 x2 x3 x4 x5 → AtW p l e rmX9_walkOn s m args below meth c dC dI A Q 7 0 0 (ceX9_walkOn cyI cyB cyJ cyZ a0 a1 b0_fewestLater f1) [(0, .ref a0), (1, .int x1), (2, .int x2), (3, .int x3), (4, .int x4), (5, .int x5)] 78 [] := by
  intro x1 x2 x3 x4 x5 hw H locs hP hD hS ls hl
  have C1 := C0
  obtain ⟨hx, hb, hr, hml, hown, hts, hlocks⟩ := C1
  obtain ⟨v1, ev1⟩ : ∃ y : Int32, y = x5 + 1 := ⟨_, rfl⟩
  have hw := hw v1 ev1
  refine lv_iinc (v := v1) (lv' := [(5, .int v1), (0, .ref a0), (1, .int x1), (2, .int x2), (3, .int x3), (4, .int x4)]) hx hb dX9_walkOn_78 hl (k := 5) rfl (by rw [ev1]; rfl) (by decide) rfl (fun ls hl => ?_)
  refine lv_goto (tgt := 6) hx hb dX9_walkOn_81 (by decide) ?_
  exact hk6 x1 x2 x3 x4 v1 hw H locs hP hD hS ls (lv_sub hl [1, 2, 3, 4, 5, 0] rfl)
set_option maxRecDepth 100000 in
set_option maxHeartbeats 4000000 in
theorem bX9_walkOn_45 {p : Program} {l : Launch} {e : Env} {s : State} {m : MethodId} {args : Array Value} {below : List Frame} {meth : Method} {c : Code} {dC : Nat → ClassId} {dI : Nat → Nat → Nat} {cyI cyB cyJ cyZ : ClassId} {A : Nat → Prop} {a0 a1 b0_fewestLater : Nat} (C0 : cxM p s m meth c args wsX9_walkOn RX9 cX9_walkOn 7 (some .int)) (hK : va_K (dC, dI) vwCl (tyA cyI cyB cyJ cyZ) s) (hN : nwA s) (hA : ∀ q : Nat, s.heap.size ≤ q → A q) {post : Int32 → Unit → Prop} {f1 : Nat → Int32} {k6 : Int32 → Int32 → Int32 → Int32 → Int32 → Prop} {Q : State → Prop} (hQ : Q = MQ below (va_Qi post (fun u : Unit => wAt dC dI cyI cyB cyJ cyZ A (ceX9_walkOn cyI cyB cyJ cyZ a0 a1 b0_fewestLater f1)) A) args s 0 0 A) (hk6 : ∀ (x1 : Int32) (x2 : Int32) (x3 : Int32) (x4 : Int32) (x5 : Int32), k6 x1 x2 x3 x4 x5 → AtW p l e rmX9_walkOn s m args below meth c dC dI A Q 7 0 0 (ceX9_walkOn cyI cyB cyJ cyZ a0 a1 b0_fewestLater f1) [(0, .ref a0), (1, .int x1), (2, .int x2), (3, .int x3), (4, .int x4), (5, .int x5)] 6 []) : ∀ (x1 : Int32) (x2 : Int32) (x3 : Int32) (x4 : Int32) (x5 : Int32) (s0 : Int32), wpX9_walkOn_45 k6 post f1 x1 x2 x3 x4 x5 s0 → AtW p l e rmX9_walkOn s m args below meth c dC dI A Q 7 0 0 (ceX9_walkOn cyI cyB cyJ cyZ a0 a1 b0_fewestLater f1) [(0, .ref a0), (1, .int x1), (2, .int x2), (3, .int x3), (4, .int x4), (5, .int x5)] 45 [.int s0] := by
  intro x1 x2 x3 x4 x5 s0 hw H locs hP hD hS ls hl
  have C1 := C0
  obtain ⟨hx, hb, hr, hml, hown, hts, hlocks⟩ := C1
  refine lv_istore (lv' := [(6, .int s0), (0, .ref a0), (1, .int x1), (2, .int x2), (3, .int x3), (4, .int x4), (5, .int x5)]) hx hb dX9_walkOn_45 hl (by decide) rfl (fun ls hl => ?_)
  refine lv_iload hx hb dX9_walkOn_47 (lv_at hl 0 rfl) ?_
  refine lv_if_eq (tgt := 78) hx hb dX9_walkOn_49 (by decide) (fun hc => ?_) (fun hc => ?_)
  · have hw := hw.1 hc
    exact bX9_walkOn_78 C0 hK hN hA hQ hk6 x1 x2 x3 x4 x5 hw _ _ hP hD hS ls (lv_sub hl [1, 2, 3, 4, 5, 6] rfl)
  · have hw := hw.2 hc
    refine lv_aload_n hx hb dX9_walkOn_52 rfl (lv_at hl 1 rfl) ?_
    refine va_get (D := (dC, dI)) (ci := 9) (v := .ref a1) (C := RX9) (T := TX9) (N := 2) hx hb hts inX9_walkOn_X9 hown hK hP 0 rfl rfl 0 (by decide) (hts (.fieldLink RX9 11 "LeadPark$Thinning" "fewest" "[I") (List.mem_of_getElem? (i := 1) rfl)) (fun _ h9 => h9) rfl dX9_walkOn_53 ?_
    refine lv_iload_n hx hb dX9_walkOn_56 rfl (lv_at hl 2 rfl) ?_
    refine lv_bipush (v := 31) hx hb dX9_walkOn_57 (by decide) ?_
    refine lv_imul hx hb dX9_walkOn_59 ?_
    refine lv_iload hx hb dX9_walkOn_60 (lv_at hl 6 rfl) ?_
    refine lv_iadd hx hb dX9_walkOn_62 ?_
    obtain ⟨hi, hw⟩ := hw
    refine va_iald hx hb hK hP 1 0 rfl rfl hi dX9_walkOn_63 ?_
    refine lv_ldc (v := 2147483647) hx hb hown (hts (.constant RX9 23 (2147483647)) (List.mem_of_getElem? (i := 2) rfl)) dX9_walkOn_64 ?_
    refine lv_icmp_eq (tgt := 78) hx hb dX9_walkOn_66 (by decide) (fun hc => ?_) (fun hc => ?_)
    · have hw := hw.1 hc
      exact bX9_walkOn_78 C0 hK hN hA hQ hk6 x1 x2 x3 x4 x5 hw _ _ hP hD hS ls (lv_sub hl [1, 2, 3, 4, 5, 6] rfl)
    · have hw := hw.2 hc
      refine lv_iload hx hb dX9_walkOn_69 (lv_at hl 5 rfl) ?_
      refine lv_iconst (v := 1) hx hb dX9_walkOn_71 (by decide) ?_
      refine lv_iload hx hb dX9_walkOn_72 (lv_at hl 6 rfl) ?_
      refine lv_ishl hx hb dX9_walkOn_74 ?_
      refine lv_ior hx hb dX9_walkOn_75 ?_
      refine lv_topi (fun v1 ev1 => ?_)
      have hw := hw v1 ev1
      refine lv_istore (lv' := [(4, .int v1), (6, .int s0), (0, .ref a0), (1, .int x1), (2, .int x2), (3, .int x3), (5, .int x5)]) hx hb dX9_walkOn_76 hl (by decide) rfl (fun ls hl => ?_)
      exact bX9_walkOn_78 C0 hK hN hA hQ hk6 x1 x2 x3 v1 x5 hw _ _ hP hD hS ls (lv_sub hl [2, 3, 4, 5, 0, 6] rfl)
set_option maxRecDepth 100000 in
set_option maxHeartbeats 4000000 in
theorem bX9_walkOn_40 {p : Program} {l : Launch} {e : Env} {s : State} {m : MethodId} {args : Array Value} {below : List Frame} {meth : Method} {c : Code} {dC : Nat → ClassId} {dI : Nat → Nat → Nat} {cyI cyB cyJ cyZ : ClassId} {A : Nat → Prop} {a0 a1 b0_fewestLater : Nat} (C0 : cxM p s m meth c args wsX9_walkOn RX9 cX9_walkOn 7 (some .int)) (hK : va_K (dC, dI) vwCl (tyA cyI cyB cyJ cyZ) s) (hN : nwA s) (hA : ∀ q : Nat, s.heap.size ≤ q → A q) {post : Int32 → Unit → Prop} {f1 : Nat → Int32} {k6 : Int32 → Int32 → Int32 → Int32 → Int32 → Prop} {Q : State → Prop} (hQ : Q = MQ below (va_Qi post (fun u : Unit => wAt dC dI cyI cyB cyJ cyZ A (ceX9_walkOn cyI cyB cyJ cyZ a0 a1 b0_fewestLater f1)) A) args s 0 0 A) (hk6 : ∀ (x1 : Int32) (x2 : Int32) (x3 : Int32) (x4 : Int32) (x5 : Int32), k6 x1 x2 x3 x4 x5 → AtW p l e rmX9_walkOn s m args below meth c dC dI A Q 7 0 0 (ceX9_walkOn cyI cyB cyJ cyZ a0 a1 b0_fewestLater f1) [(0, .ref a0), (1, .int x1), (2, .int x2), (3, .int x3), (4, .int x4), (5, .int x5)] 6 []) : ∀ (x1 : Int32) (x2 : Int32) (x3 : Int32) (x4 : Int32) (x5 : Int32), wpX9_walkOn_40 k6 post f1 x1 x2 x3 x4 x5 → AtW p l e rmX9_walkOn s m args below meth c dC dI A Q 7 0 0 (ceX9_walkOn cyI cyB cyJ cyZ a0 a1 b0_fewestLater f1) [(0, .ref a0), (1, .int x1), (2, .int x2), (3, .int x3), (4, .int x4), (5, .int x5)] 40 [] := by
  intro x1 x2 x3 x4 x5 hw H locs hP hD hS ls hl
  have C1 := C0
  obtain ⟨hx, hb, hr, hml, hown, hts, hlocks⟩ := C1
  refine lv_iconst (v := 1) hx hb dX9_walkOn_40 (by decide) ?_
  refine lv_goto (tgt := 45) hx hb dX9_walkOn_41 (by decide) ?_
  exact bX9_walkOn_45 C0 hK hN hA hQ hk6 x1 x2 x3 x4 x5 1 hw _ _ hP hD hS ls (lv_sub hl [0, 1, 2, 3, 4, 5] rfl)
set_option maxRecDepth 100000 in
set_option maxHeartbeats 4000000 in
theorem bX9_walkOn_44 {p : Program} {l : Launch} {e : Env} {s : State} {m : MethodId} {args : Array Value} {below : List Frame} {meth : Method} {c : Code} {dC : Nat → ClassId} {dI : Nat → Nat → Nat} {cyI cyB cyJ cyZ : ClassId} {A : Nat → Prop} {a0 a1 b0_fewestLater : Nat} (C0 : cxM p s m meth c args wsX9_walkOn RX9 cX9_walkOn 7 (some .int)) (hK : va_K (dC, dI) vwCl (tyA cyI cyB cyJ cyZ) s) (hN : nwA s) (hA : ∀ q : Nat, s.heap.size ≤ q → A q) {post : Int32 → Unit → Prop} {f1 : Nat → Int32} {k6 : Int32 → Int32 → Int32 → Int32 → Int32 → Prop} {Q : State → Prop} (hQ : Q = MQ below (va_Qi post (fun u : Unit => wAt dC dI cyI cyB cyJ cyZ A (ceX9_walkOn cyI cyB cyJ cyZ a0 a1 b0_fewestLater f1)) A) args s 0 0 A) (hk6 : ∀ (x1 : Int32) (x2 : Int32) (x3 : Int32) (x4 : Int32) (x5 : Int32), k6 x1 x2 x3 x4 x5 → AtW p l e rmX9_walkOn s m args below meth c dC dI A Q 7 0 0 (ceX9_walkOn cyI cyB cyJ cyZ a0 a1 b0_fewestLater f1) [(0, .ref a0), (1, .int x1), (2, .int x2), (3, .int x3), (4, .int x4), (5, .int x5)] 6 []) : ∀ (x1 : Int32) (x2 : Int32) (x3 : Int32) (x4 : Int32) (x5 : Int32), wpX9_walkOn_44 k6 post f1 x1 x2 x3 x4 x5 → AtW p l e rmX9_walkOn s m args below meth c dC dI A Q 7 0 0 (ceX9_walkOn cyI cyB cyJ cyZ a0 a1 b0_fewestLater f1) [(0, .ref a0), (1, .int x1), (2, .int x2), (3, .int x3), (4, .int x4), (5, .int x5)] 44 [] := by
  intro x1 x2 x3 x4 x5 hw H locs hP hD hS ls hl
  have C1 := C0
  obtain ⟨hx, hb, hr, hml, hown, hts, hlocks⟩ := C1
  refine lv_iconst (v := 0) hx hb dX9_walkOn_44 (by decide) ?_
  exact bX9_walkOn_45 C0 hK hN hA hQ hk6 x1 x2 x3 x4 x5 0 hw _ _ hP hD hS ls (lv_sub hl [0, 1, 2, 3, 4, 5] rfl)
set_option maxRecDepth 100000 in
set_option maxHeartbeats 4000000 in
theorem bX9_walkOn_6 {p : Program} {l : Launch} {e : Env} {s : State} {m : MethodId} {args : Array Value} {below : List Frame} {meth : Method} {c : Code} {dC : Nat → ClassId} {dI : Nat → Nat → Nat} {cyI cyB cyJ cyZ : ClassId} {A : Nat → Prop} {a0 a1 b0_fewestLater : Nat} (C0 : cxM p s m meth c args wsX9_walkOn RX9 cX9_walkOn 7 (some .int)) (hK : va_K (dC, dI) vwCl (tyA cyI cyB cyJ cyZ) s) (hN : nwA s) (hA : ∀ q : Nat, s.heap.size ≤ q → A q) {post : Int32 → Unit → Prop} {f1 : Nat → Int32} {Q : State → Prop} (hQ : Q = MQ below (va_Qi post (fun u : Unit => wAt dC dI cyI cyB cyJ cyZ A (ceX9_walkOn cyI cyB cyJ cyZ a0 a1 b0_fewestLater f1)) A) args s 0 0 A) : ∀ (n : Nat) (x1 : Int32) (x2 : Int32) (x3 : Int32) (x4 : Int32) (x5 : Int32), wpX9_walkOn_6 post f1 n x1 x2 x3 x4 x5 → AtW p l e rmX9_walkOn s m args below meth c dC dI A Q 7 0 0 (ceX9_walkOn cyI cyB cyJ cyZ a0 a1 b0_fewestLater f1) [(0, .ref a0), (1, .int x1), (2, .int x2), (3, .int x3), (4, .int x4), (5, .int x5)] 6 [] := by
  intro n
  induction n with
  | zero => intro x1 x2 x3 x4 x5 hw; exact False.elim hw
  | succ n ih =>
    intro x1 x2 x3 x4 x5 hw H locs hP hD hS ls hl
    have C1 := C0
    obtain ⟨hx, hb, hr, hml, hown, hts, hlocks⟩ := C1
    refine lv_iload hx hb dX9_walkOn_6 (lv_at hl 5 rfl) ?_
    refine lv_iload_n hx hb dX9_walkOn_8 rfl (lv_at hl 3 rfl) ?_
    refine lv_icmp_ge (tgt := 84) hx hb dX9_walkOn_9 (by decide) (fun hc => ?_) (fun hc => ?_)
    · have hw := hw.1 hc
      refine lv_iload hx hb dX9_walkOn_84 (lv_at hl 4 rfl) ?_
      rw [hQ]
      exact W.iret (v := x4) hx hb hr (fun t ht hW => ⟨⟨x4, (), rfl, hw, by rw [ht]; exact hP, va_K.moved hW.alike hK, hD⟩, hS.F ht⟩) hS.2.2 dX9_walkOn_86
    · have hw := hw.2 hc
      refine lv_iload_n hx hb dX9_walkOn_12 rfl (lv_at hl 2 rfl) ?_
      refine lv_iload hx hb dX9_walkOn_13 (lv_at hl 5 rfl) ?_
      refine lv_ishr hx hb dX9_walkOn_15 ?_
      refine lv_iconst (v := 1) hx hb dX9_walkOn_16 (by decide) ?_
      refine lv_iand hx hb dX9_walkOn_17 ?_
      refine lv_iconst (v := 1) hx hb dX9_walkOn_18 (by decide) ?_
      refine lv_icmp_eq (tgt := 40) hx hb dX9_walkOn_19 (by decide) (fun hc => ?_) (fun hc => ?_)
      · have hw := hw.1 hc
        exact bX9_walkOn_40 C0 hK hN hA hQ ih x1 x2 x3 x4 x5 hw _ _ hP hD hS ls (lv_sub hl [0, 1, 2, 3, 4, 5] rfl)
      · have hw := hw.2 hc
        refine lv_iload hx hb dX9_walkOn_22 (lv_at hl 5 rfl) ?_
        refine lv_if_le (tgt := 44) hx hb dX9_walkOn_24 (by decide) (fun hc => ?_) (fun hc => ?_)
        · have hw := hw.1 hc
          exact bX9_walkOn_44 C0 hK hN hA hQ ih x1 x2 x3 x4 x5 hw _ _ hP hD hS ls (lv_sub hl [0, 1, 2, 3, 4, 5] rfl)
        · have hw := hw.2 hc
          refine lv_iload hx hb dX9_walkOn_27 (lv_at hl 4 rfl) ?_
          refine lv_iload hx hb dX9_walkOn_29 (lv_at hl 5 rfl) ?_
          refine lv_iconst (v := 1) hx hb dX9_walkOn_31 (by decide) ?_
          refine lv_isub hx hb dX9_walkOn_32 ?_
          refine lv_ishr hx hb dX9_walkOn_33 ?_
          refine lv_iconst (v := 1) hx hb dX9_walkOn_34 (by decide) ?_
          refine lv_iand hx hb dX9_walkOn_35 ?_
          refine lv_iconst (v := 1) hx hb dX9_walkOn_36 (by decide) ?_
          refine lv_icmp_ne (tgt := 44) hx hb dX9_walkOn_37 (by decide) (fun hc => ?_) (fun hc => ?_)
          · have hw := hw.1 hc
            exact bX9_walkOn_44 C0 hK hN hA hQ ih x1 x2 x3 x4 x5 hw _ _ hP hD hS ls (lv_sub hl [0, 1, 2, 3, 4, 5] rfl)
          · have hw := hw.2 hc
            exact bX9_walkOn_40 C0 hK hN hA hQ ih x1 x2 x3 x4 x5 hw _ _ hP hD hS ls (lv_sub hl [0, 1, 2, 3, 4, 5] rfl)
set_option maxRecDepth 100000 in
set_option maxHeartbeats 4000000 in
theorem ctX9_walkOn (l : Launch) (dC : Nat → ClassId) (dI : Nat → Nat → Nat) (cyI cyB cyJ cyZ : ClassId) (sz : Nat) (a0 a1 b0_fewestLater : Nat) (f1 : Nat → Int32) (p0 : Int32) (p1 : Int32) (p2 : Int32) (post : Int32 → Unit → Prop) (hw : wpX9_walkOn post f1 p0 p1 p2) : Met l yX9_walkOn wsX9_walkOn rmX9_walkOn (va_Pc [.ref a0, .int p0, .int p1, .int p2] (wPre dC dI cyI cyB cyJ cyZ sz (ceX9_walkOn cyI cyB cyJ cyZ a0 a1 b0_fewestLater f1))) (va_Qi post (fun u : Unit => wAt dC dI cyI cyB cyJ cyZ (va_A (ceX9_walkOn cyI cyB cyJ cyZ a0 a1 b0_fewestLater f1) sz) (ceX9_walkOn cyI cyB cyJ cyZ a0 a1 b0_fewestLater f1)) (va_A (ceX9_walkOn cyI cyB cyJ cyZ a0 a1 b0_fewestLater f1) sz)) 0 0 (va_A (ceX9_walkOn cyI cyB cyJ cyZ a0 a1 b0_fewestLater f1) sz) := by
  refine Met.ofW (cc := cX9_walkOn) (maxL := 7) (ret := (some .int)) (by decide) rfl ?_
  intro p e s m args below meth c s₁ B hml hv
  obtain ⟨rfl, hsz, hP, hK, hD0, hN⟩ := hv
  have hx := B.exec
  have hb := B.bytes
  have hr := B.returns
  have hts := atoms_spec (ws := wsX9_walkOn) B.pre
  have hown : s.vm.findClass RX9 = some m.cls := findClass_of_methodNamed B.named
  have hlocks := B.notSynchronized
  subst hsz
  have hD := hD0.self (sz := s.heap.size)
  generalize hAe : va_A (ceX9_walkOn cyI cyB cyJ cyZ a0 a1 b0_fewestLater f1) s.heap.size = A at hD ⊢
  have hA : ∀ q : Nat, s.heap.size ≤ q → A q := fun q h => by rw [← hAe]; exact Or.inr h
  have hS : va_S A s.heap s.heap [] := va_S.rf
  have C0 : cxM p s m meth c _ wsX9_walkOn RX9 cX9_walkOn 7 (some .int) := ⟨hx, hb, hr, hml, hown, hts, hlocks⟩
  have hl := lv_entry ([.ref a0, .int p0, .int p1, .int p2]) (n := 7) (Nat.le_of_ble_eq_true rfl)
  rw [lg_entry_eq]
  generalize (lg_sl ([.ref a0, .int p0, .int p1, .int p2]) ++ List.replicate (7 - (lg_sl ([.ref a0, .int p0, .int p1, .int p2])).length) Slot.unset).toArray = ls at hl ⊢
  have hl : lv_has ls 7 [(0, .ref a0), (1, .int p0), (2, .int p1), (3, .int p2)] := hl
  show W p l e rmX9_walkOn s m _ below meth c _ _ _ _ _ _
  refine wq (fun Q hQ => ?_)
  refine lv_iconst (v := 0) hx hb dX9_walkOn_0 (by decide) ?_
  refine lv_istore (lv' := [(4, .int 0), (0, .ref a0), (1, .int p0), (2, .int p1), (3, .int p2)]) hx hb dX9_walkOn_1 hl (by decide) rfl (fun ls hl => ?_)
  refine lv_iconst (v := 0) hx hb dX9_walkOn_3 (by decide) ?_
  refine lv_istore (lv' := [(5, .int 0), (4, .int 0), (0, .ref a0), (1, .int p0), (2, .int p1), (3, .int p2)]) hx hb dX9_walkOn_4 hl (by decide) rfl (fun ls hl => ?_)
  obtain ⟨nn, hw⟩ := hw
  exact bX9_walkOn_6 C0 hK hN hA hQ nn p0 p1 p2 0 0 hw _ _ hP hD hS ls (lv_sub hl [2, 3, 4, 5, 1, 0] rfl)
/-! LeadPark$Thinning.leadsOn (IIII)Z -/
abbrev ceX9_leadsOn (cyI cyB cyJ cyZ : ClassId) (a0 a1 b0_fewestLater : Nat) (f1 : Nat → Int32) : va_W := [(a0, .inr (9, [.ref a1, .ref b0_fewestLater])), (a1, .inl (cyI, 961, .inl f1))]

theorem inX9_leadsOn_X9 : ∀ w ∈ wsX90, w ∈ wsX9_leadsOn := fun _ h => List.mem_cons_of_mem _ (List.mem_append_right _ h)
abbrev rmX9_leadsOn : Room := { frames := 0, cells := 0, slots := 0, locals := 0 }
set_option maxRecDepth 100000 in
set_option maxHeartbeats 4000000 in
theorem bX9_leadsOn_38 {p : Program} {l : Launch} {e : Env} {s : State} {m : MethodId} {args : Array Value} {below : List Frame} {meth : Method} {c : Code} {dC : Nat → ClassId} {dI : Nat → Nat → Nat} {cyI cyB cyJ cyZ : ClassId} {A : Nat → Prop} {a0 a1 b0_fewestLater : Nat} (C0 : cxM p s m meth c args wsX9_leadsOn RX9 cX9_leadsOn 6 (some .boolean)) (hK : va_K (dC, dI) vwCl (tyA cyI cyB cyJ cyZ) s) (hN : nwA s) (hA : ∀ q : Nat, s.heap.size ≤ q → A q) {post : Int32 → Unit → Prop} {f1 : Nat → Int32} {k3 : Int32 → Int32 → Int32 → Int32 → Int32 → Prop} {Q : State → Prop} (hQ : Q = MQ below (va_Qi post (fun u : Unit => wAt dC dI cyI cyB cyJ cyZ A (ceX9_leadsOn cyI cyB cyJ cyZ a0 a1 b0_fewestLater f1)) A) args s 0 0 A) (hk3 : ∀ (x1 : Int32) (x2 : Int32) (x3 : Int32) (x4 : Int32) (x5 : Int32), k3 x1 x2 x3 x4 x5 → AtW p l e rmX9_leadsOn s m args below meth c dC dI A Q 6 0 0 (ceX9_leadsOn cyI cyB cyJ cyZ a0 a1 b0_fewestLater f1) [(0, .ref a0), (1, .int x1), (2, .int x2), (3, .int x3), (4, .int x4), (5, .int x5)] 3 []) : ∀ (x1 : Int32) (x2 : Int32) (x3 : Int32) (x4 : Int32) (x5 : Int32), wpX9_leadsOn_38 k3 post f1 x1 x2 x3 x4 x5 → AtW p l e rmX9_leadsOn s m args below meth c dC dI A Q 6 0 0 (ceX9_leadsOn cyI cyB cyJ cyZ a0 a1 b0_fewestLater f1) [(0, .ref a0), (1, .int x1), (2, .int x2), (3, .int x3), (4, .int x4), (5, .int x5)] 38 [] := by
  intro x1 x2 x3 x4 x5 hw H locs hP hD hS ls hl
  have C1 := C0
  obtain ⟨hx, hb, hr, hml, hown, hts, hlocks⟩ := C1
  obtain ⟨v1, ev1⟩ : ∃ y : Int32, y = x5 + 1 := ⟨_, rfl⟩
  have hw := hw v1 ev1
  refine lv_iinc (v := v1) (lv' := [(5, .int v1), (0, .ref a0), (1, .int x1), (2, .int x2), (3, .int x3), (4, .int x4)]) hx hb dX9_leadsOn_38 hl (k := 5) rfl (by rw [ev1]; rfl) (by decide) rfl (fun ls hl => ?_)
  refine lv_goto (tgt := 3) hx hb dX9_leadsOn_41 (by decide) ?_
  exact hk3 x1 x2 x3 x4 v1 hw H locs hP hD hS ls (lv_sub hl [1, 2, 3, 4, 5, 0] rfl)
set_option maxRecDepth 100000 in
set_option maxHeartbeats 4000000 in
theorem bX9_leadsOn_3 {p : Program} {l : Launch} {e : Env} {s : State} {m : MethodId} {args : Array Value} {below : List Frame} {meth : Method} {c : Code} {dC : Nat → ClassId} {dI : Nat → Nat → Nat} {cyI cyB cyJ cyZ : ClassId} {A : Nat → Prop} {a0 a1 b0_fewestLater : Nat} (C0 : cxM p s m meth c args wsX9_leadsOn RX9 cX9_leadsOn 6 (some .boolean)) (hK : va_K (dC, dI) vwCl (tyA cyI cyB cyJ cyZ) s) (hN : nwA s) (hA : ∀ q : Nat, s.heap.size ≤ q → A q) {post : Int32 → Unit → Prop} {f1 : Nat → Int32} {Q : State → Prop} (hQ : Q = MQ below (va_Qi post (fun u : Unit => wAt dC dI cyI cyB cyJ cyZ A (ceX9_leadsOn cyI cyB cyJ cyZ a0 a1 b0_fewestLater f1)) A) args s 0 0 A) : ∀ (n : Nat) (x1 : Int32) (x2 : Int32) (x3 : Int32) (x4 : Int32) (x5 : Int32), wpX9_leadsOn_3 post f1 n x1 x2 x3 x4 x5 → AtW p l e rmX9_leadsOn s m args below meth c dC dI A Q 6 0 0 (ceX9_leadsOn cyI cyB cyJ cyZ a0 a1 b0_fewestLater f1) [(0, .ref a0), (1, .int x1), (2, .int x2), (3, .int x3), (4, .int x4), (5, .int x5)] 3 [] := by
  intro n
  induction n with
  | zero => intro x1 x2 x3 x4 x5 hw; exact False.elim hw
  | succ n ih =>
    intro x1 x2 x3 x4 x5 hw H locs hP hD hS ls hl
    have C1 := C0
    obtain ⟨hx, hb, hr, hml, hown, hts, hlocks⟩ := C1
    refine lv_iload hx hb dX9_leadsOn_3 (lv_at hl 5 rfl) ?_
    refine lv_iload hx hb dX9_leadsOn_5 (lv_at hl 4 rfl) ?_
    refine lv_icmp_ge (tgt := 44) hx hb dX9_leadsOn_7 (by decide) (fun hc => ?_) (fun hc => ?_)
    · have hw := hw.1 hc
      refine lv_iconst (v := 0) hx hb dX9_leadsOn_44 (by decide) ?_
      rw [hQ]
      exact W.zret (v := 0) (ty := .boolean) hx hb hr rfl (fun t ht hW => ⟨⟨0, (), rfl, hw, by rw [ht]; exact hP, va_K.moved hW.alike hK, hD⟩, hS.F ht⟩) hS.2.2 dX9_leadsOn_45
    · have hw := hw.2 hc
      refine lv_iload_n hx hb dX9_leadsOn_10 rfl (lv_at hl 2 rfl) ?_
      refine lv_iload hx hb dX9_leadsOn_11 (lv_at hl 5 rfl) ?_
      refine lv_ishr hx hb dX9_leadsOn_13 ?_
      refine lv_iconst (v := 1) hx hb dX9_leadsOn_14 (by decide) ?_
      refine lv_iand hx hb dX9_leadsOn_15 ?_
      refine lv_iconst (v := 1) hx hb dX9_leadsOn_16 (by decide) ?_
      refine lv_icmp_ne (tgt := 38) hx hb dX9_leadsOn_17 (by decide) (fun hc => ?_) (fun hc => ?_)
      · have hw := hw.1 hc
        exact bX9_leadsOn_38 C0 hK hN hA hQ ih x1 x2 x3 x4 x5 hw _ _ hP hD hS ls (lv_sub hl [0, 1, 2, 3, 4, 5] rfl)
      · have hw := hw.2 hc
        refine lv_aload_n hx hb dX9_leadsOn_20 rfl (lv_at hl 0 rfl) ?_
        refine va_get (D := (dC, dI)) (ci := 9) (v := .ref a1) (C := RX9) (T := TX9) (N := 2) hx hb hts inX9_leadsOn_X9 hown hK hP 0 rfl rfl 0 (by decide) (hts (.fieldLink RX9 11 "LeadPark$Thinning" "fewest" "[I") (List.mem_of_getElem? (i := 1) rfl)) (fun _ h9 => h9) rfl dX9_leadsOn_21 ?_
        refine lv_iload_n hx hb dX9_leadsOn_24 rfl (lv_at hl 1 rfl) ?_
        refine lv_bipush (v := 31) hx hb dX9_leadsOn_25 (by decide) ?_
        refine lv_imul hx hb dX9_leadsOn_27 ?_
        refine lv_iload hx hb dX9_leadsOn_28 (lv_at hl 5 rfl) ?_
        refine lv_iadd hx hb dX9_leadsOn_30 ?_
        obtain ⟨hi, hw⟩ := hw
        refine va_iald hx hb hK hP 1 0 rfl rfl hi dX9_leadsOn_31 ?_
        refine lv_iload_n hx hb dX9_leadsOn_32 rfl (lv_at hl 3 rfl) ?_
        refine lv_icmp_ne (tgt := 38) hx hb dX9_leadsOn_33 (by decide) (fun hc => ?_) (fun hc => ?_)
        · have hw := hw.1 hc
          exact bX9_leadsOn_38 C0 hK hN hA hQ ih x1 x2 x3 x4 x5 hw _ _ hP hD hS ls (lv_sub hl [0, 1, 2, 3, 4, 5] rfl)
        · have hw := hw.2 hc
          refine lv_iconst (v := 1) hx hb dX9_leadsOn_36 (by decide) ?_
          rw [hQ]
          exact W.zret (v := 1) (ty := .boolean) hx hb hr rfl (fun t ht hW => ⟨⟨1, (), rfl, hw, by rw [ht]; exact hP, va_K.moved hW.alike hK, hD⟩, hS.F ht⟩) hS.2.2 dX9_leadsOn_37
set_option maxRecDepth 100000 in
set_option maxHeartbeats 4000000 in
theorem ctX9_leadsOn (l : Launch) (dC : Nat → ClassId) (dI : Nat → Nat → Nat) (cyI cyB cyJ cyZ : ClassId) (sz : Nat) (a0 a1 b0_fewestLater : Nat) (f1 : Nat → Int32) (p0 : Int32) (p1 : Int32) (p2 : Int32) (p3 : Int32) (post : Int32 → Unit → Prop) (hw : wpX9_leadsOn post f1 p0 p1 p2 p3) : Met l yX9_leadsOn wsX9_leadsOn rmX9_leadsOn (va_Pc [.ref a0, .int p0, .int p1, .int p2, .int p3] (wPre dC dI cyI cyB cyJ cyZ sz (ceX9_leadsOn cyI cyB cyJ cyZ a0 a1 b0_fewestLater f1))) (va_Qi post (fun u : Unit => wAt dC dI cyI cyB cyJ cyZ (va_A (ceX9_leadsOn cyI cyB cyJ cyZ a0 a1 b0_fewestLater f1) sz) (ceX9_leadsOn cyI cyB cyJ cyZ a0 a1 b0_fewestLater f1)) (va_A (ceX9_leadsOn cyI cyB cyJ cyZ a0 a1 b0_fewestLater f1) sz)) 0 0 (va_A (ceX9_leadsOn cyI cyB cyJ cyZ a0 a1 b0_fewestLater f1) sz) := by
  refine Met.ofW (cc := cX9_leadsOn) (maxL := 6) (ret := (some .boolean)) (by decide) rfl ?_
  intro p e s m args below meth c s₁ B hml hv
  obtain ⟨rfl, hsz, hP, hK, hD0, hN⟩ := hv
  have hx := B.exec
  have hb := B.bytes
  have hr := B.returns
  have hts := atoms_spec (ws := wsX9_leadsOn) B.pre
  have hown : s.vm.findClass RX9 = some m.cls := findClass_of_methodNamed B.named
  have hlocks := B.notSynchronized
  subst hsz
  have hD := hD0.self (sz := s.heap.size)
  generalize hAe : va_A (ceX9_leadsOn cyI cyB cyJ cyZ a0 a1 b0_fewestLater f1) s.heap.size = A at hD ⊢
  have hA : ∀ q : Nat, s.heap.size ≤ q → A q := fun q h => by rw [← hAe]; exact Or.inr h
  have hS : va_S A s.heap s.heap [] := va_S.rf
  have C0 : cxM p s m meth c _ wsX9_leadsOn RX9 cX9_leadsOn 6 (some .boolean) := ⟨hx, hb, hr, hml, hown, hts, hlocks⟩
  have hl := lv_entry ([.ref a0, .int p0, .int p1, .int p2, .int p3]) (n := 6) (Nat.le_of_ble_eq_true rfl)
  rw [lg_entry_eq]
  generalize (lg_sl ([.ref a0, .int p0, .int p1, .int p2, .int p3]) ++ List.replicate (6 - (lg_sl ([.ref a0, .int p0, .int p1, .int p2, .int p3])).length) Slot.unset).toArray = ls at hl ⊢
  have hl : lv_has ls 6 [(0, .ref a0), (1, .int p0), (2, .int p1), (3, .int p2), (4, .int p3)] := hl
  show W p l e rmX9_leadsOn s m _ below meth c _ _ _ _ _ _
  refine wq (fun Q hQ => ?_)
  refine lv_iconst (v := 0) hx hb dX9_leadsOn_0 (by decide) ?_
  refine lv_istore (lv' := [(5, .int 0), (0, .ref a0), (1, .int p0), (2, .int p1), (3, .int p2), (4, .int p3)]) hx hb dX9_leadsOn_1 hl (by decide) rfl (fun ls hl => ?_)
  obtain ⟨nn, hw⟩ := hw
  exact bX9_leadsOn_3 C0 hK hN hA hQ nn p0 p1 p2 p3 0 hw _ _ hP hD hS ls (lv_sub hl [1, 2, 3, 4, 5, 0] rfl)
/-! LeadPark$Thinning.firstChoice (I)I -/
abbrev ceX9_firstChoice (cyI cyB cyJ cyZ : ClassId) (a0 a1 b0_fewestLater : Nat) (f1 : Nat → Int32) : va_W := [(a0, .inr (9, [.ref a1, .ref b0_fewestLater])), (a1, .inl (cyI, 961, .inl f1))]

theorem inX9_firstChoice_X9 : ∀ w ∈ wsX90, w ∈ wsX9_firstChoice := fun _ h => List.mem_cons_of_mem _ (List.mem_append_right _ h)
abbrev rmX9_firstChoice : Room := { frames := 1, cells := 0, slots := 0, locals := 26 }
set_option maxRecDepth 100000 in
set_option maxHeartbeats 4000000 in
theorem bX9_firstChoice_74 {p : Program} {l : Launch} {e : Env} {s : State} {m : MethodId} {args : Array Value} {below : List Frame} {meth : Method} {c : Code} {dC : Nat → ClassId} {dI : Nat → Nat → Nat} {cyI cyB cyJ cyZ : ClassId} {A : Nat → Prop} {a0 a1 b0_fewestLater : Nat} (C0 : cxM p s m meth c args wsX9_firstChoice RX9 cX9_firstChoice 7 (some .int)) (hK : va_K (dC, dI) vwCl (tyA cyI cyB cyJ cyZ) s) (hN : nwA s) (hA : ∀ q : Nat, s.heap.size ≤ q → A q) {post : Int32 → Unit → Prop} {f1 : Nat → Int32} {k23 : Int32 → Int32 → Int32 → Int32 → Int32 → Prop} {Q : State → Prop} (hQ : Q = MQ below (va_Qi post (fun u : Unit => wAt dC dI cyI cyB cyJ cyZ A (ceX9_firstChoice cyI cyB cyJ cyZ a0 a1 b0_fewestLater f1)) A) args s 0 0 A) (hk23 : ∀ (x1 : Int32) (x2 : Int32) (x3 : Int32) (x4 : Int32) (x5 : Int32), k23 x1 x2 x3 x4 x5 → AtW p l e rmX9_firstChoice s m args below meth c dC dI A Q 7 0 0 (ceX9_firstChoice cyI cyB cyJ cyZ a0 a1 b0_fewestLater f1) [(0, .ref a0), (1, .int x1), (2, .int x2), (3, .int x3), (4, .int x4), (5, .int x5)] 23 []) : ∀ (x1 : Int32) (x2 : Int32) (x3 : Int32) (x5 : Int32) (x6 : Int32), wpX9_firstChoice_74 k23 post f1 x1 x2 x3 x5 x6 → AtW p l e rmX9_firstChoice s m args below meth c dC dI A Q 7 0 0 (ceX9_firstChoice cyI cyB cyJ cyZ a0 a1 b0_fewestLater f1) [(0, .ref a0), (1, .int x1), (2, .int x2), (3, .int x3), (5, .int x5), (6, .int x6)] 74 [] := by
  intro x1 x2 x3 x5 x6 hw H locs hP hD hS ls hl
  have C1 := C0
  obtain ⟨hx, hb, hr, hml, hown, hts, hlocks⟩ := C1
  refine lv_iload_n hx hb dX9_firstChoice_74 rfl (lv_at hl 2 rfl) ?_
  refine lv_iconst (v := 1) hx hb dX9_firstChoice_75 (by decide) ?_
  refine lv_iload_n hx hb dX9_firstChoice_76 rfl (lv_at hl 3 rfl) ?_
  refine lv_ishl hx hb dX9_firstChoice_77 ?_
  refine lv_ior hx hb dX9_firstChoice_78 ?_
  refine lv_topi (fun v1 ev1 => ?_)
  have hw := hw v1 ev1
  refine lv_istore_n (lv' := [(2, .int v1), (0, .ref a0), (1, .int x1), (3, .int x3), (5, .int x5), (6, .int x6)]) hx hb dX9_firstChoice_79 rfl hl (by decide) rfl (fun ls hl => ?_)
  refine lv_aload_n hx hb dX9_firstChoice_80 rfl (lv_at hl 1 rfl) ?_
  refine lv_iload_n hx hb dX9_firstChoice_81 rfl (lv_at hl 3 rfl) ?_
  refine lv_iload hx hb dX9_firstChoice_82 (lv_at hl 5 rfl) ?_
  refine lv_iload_n hx hb dX9_firstChoice_84 rfl (lv_at hl 2 rfl) ?_
  have hPc := hP.sub (ws' := (ceX9_walkOn cyI cyB cyJ cyZ a0 a1 b0_fewestLater f1)) [0, 1] rfl
  have hDc := hD.sub (ws' := (ceX9_walkOn cyI cyB cyJ cyZ a0 a1 b0_fewestLater f1)) [0, 1] (by decide) rfl
  have hFc := va_free (wc := (ceX9_walkOn cyI cyB cyJ cyZ a0 a1 b0_fewestLater f1)) hD hS hA [0, 1] rfl
  refine va_calli (va_runV (As := [.int x3, .int x6, .int x1]) (rest := []) ⟨hx, hb, hml, hown, hts⟩ (ctX9_walkOn l dC dI cyI cyB cyJ cyZ _ a0 a1 b0_fewestLater f1 x3 x6 x1 _ hw) (cwV 3 hts gX9_firstChoice_X9_walkOn rfl rfl rfl (by decide +kernel) ⟨Nat.le_of_ble_eq_true rfl, Nat.le_of_ble_eq_true rfl⟩) ⟨wPre_blind, va_recv hK hPc (ci := 9) (q0 := 0) rfl rfl, fun U hU hW => wPre_of hPc hK hDc hN hU hW⟩ rfl rfl hl.1 rfl (lv_room (Nat.le_of_ble_eq_true rfl)) dX9_firstChoice_85 ⟨(Nat.zero_le _), (Nat.zero_le _)⟩) hS (fun q _ h => hFc q h) hFc (fun r3 u2 t H1 locs ht hvm hw hB hz1 hk1 hS => ?_)
  obtain ⟨hP1, hK1, hD1⟩ := hB
  rw [ht] at hP1
  obtain ⟨hP, hD⟩ := va_join (wr := pickW (ceX9_firstChoice cyI cyB cyJ cyZ a0 a1 b0_fewestLater f1) []) (w1 := (ceX9_walkOn cyI cyB cyJ cyZ a0 a1 b0_fewestLater f1)) hP hD [0, 1] [] rfl rfl (by decide) (by decide) hk1 hFc hP1 hD1
  have hP := hP.sub (ws' := (ceX9_firstChoice cyI cyB cyJ cyZ a0 a1 b0_fewestLater f1)) [0, 1] rfl
  have hD := hD.sub (ws' := (ceX9_firstChoice cyI cyB cyJ cyZ a0 a1 b0_fewestLater f1)) [0, 1] (by decide) rfl
  generalize H1 = H at hP hS ⊢
  refine lv_istore (lv' := [(4, .int r3), (2, .int v1), (0, .ref a0), (1, .int x1), (3, .int x3), (5, .int x5), (6, .int x6)]) hx hb dX9_firstChoice_88 hl (by decide) rfl (fun ls hl => ?_)
  obtain ⟨v4, ev4⟩ : ∃ y : Int32, y = x5 + (-1) := ⟨_, rfl⟩
  have hw := hw v4 ev4
  refine lv_iinc (v := v4) (lv' := [(5, .int v4), (4, .int r3), (2, .int v1), (0, .ref a0), (1, .int x1), (3, .int x3), (6, .int x6)]) hx hb dX9_firstChoice_90 hl (k := 5) rfl (by rw [ev4]; rfl) (by decide) rfl (fun ls hl => ?_)
  refine lv_goto (tgt := 23) hx hb dX9_firstChoice_93 (by decide) ?_
  exact hk23 x1 v1 x3 r3 v4 hw H locs hP hD hS ls (lv_sub hl [3, 4, 2, 5, 1, 0] rfl)
set_option maxRecDepth 100000 in
set_option maxHeartbeats 4000000 in
theorem bX9_firstChoice_48 {p : Program} {l : Launch} {e : Env} {s : State} {m : MethodId} {args : Array Value} {below : List Frame} {meth : Method} {c : Code} {dC : Nat → ClassId} {dI : Nat → Nat → Nat} {cyI cyB cyJ cyZ : ClassId} {A : Nat → Prop} {a0 a1 b0_fewestLater : Nat} (C0 : cxM p s m meth c args wsX9_firstChoice RX9 cX9_firstChoice 7 (some .int)) (hK : va_K (dC, dI) vwCl (tyA cyI cyB cyJ cyZ) s) (hN : nwA s) (hA : ∀ q : Nat, s.heap.size ≤ q → A q) {post : Int32 → Unit → Prop} {f1 : Nat → Int32} {k23 : Int32 → Int32 → Int32 → Int32 → Int32 → Prop} {Q : State → Prop} (hQ : Q = MQ below (va_Qi post (fun u : Unit => wAt dC dI cyI cyB cyJ cyZ A (ceX9_firstChoice cyI cyB cyJ cyZ a0 a1 b0_fewestLater f1)) A) args s 0 0 A) (hk23 : ∀ (x1 : Int32) (x2 : Int32) (x3 : Int32) (x4 : Int32) (x5 : Int32), k23 x1 x2 x3 x4 x5 → AtW p l e rmX9_firstChoice s m args below meth c dC dI A Q 7 0 0 (ceX9_firstChoice cyI cyB cyJ cyZ a0 a1 b0_fewestLater f1) [(0, .ref a0), (1, .int x1), (2, .int x2), (3, .int x3), (4, .int x4), (5, .int x5)] 23 []) : ∀ (n : Nat) (x1 : Int32) (x2 : Int32) (x3 : Int32) (x5 : Int32) (x6 : Int32), wpX9_firstChoice_48 k23 post f1 n x1 x2 x3 x5 x6 → AtW p l e rmX9_firstChoice s m args below meth c dC dI A Q 7 0 0 (ceX9_firstChoice cyI cyB cyJ cyZ a0 a1 b0_fewestLater f1) [(0, .ref a0), (1, .int x1), (2, .int x2), (3, .int x3), (5, .int x5), (6, .int x6)] 48 [] := by
  intro n
  induction n with
  | zero => intro x1 x2 x3 x5 x6 hw; exact False.elim hw
  | succ n ih =>
    intro x1 x2 x3 x5 x6 hw H locs hP hD hS ls hl
    have C1 := C0
    obtain ⟨hx, hb, hr, hml, hown, hts, hlocks⟩ := C1
    refine lv_iload_n hx hb dX9_firstChoice_48 rfl (lv_at hl 3 rfl) ?_
    refine lv_iload_n hx hb dX9_firstChoice_49 rfl (lv_at hl 1 rfl) ?_
    refine lv_iconst (v := 1) hx hb dX9_firstChoice_50 (by decide) ?_
    refine lv_isub hx hb dX9_firstChoice_51 ?_
    refine lv_icmp_ge (tgt := 74) hx hb dX9_firstChoice_52 (by decide) (fun hc => ?_) (fun hc => ?_)
    · have hw := hw.1 hc
      exact bX9_firstChoice_74 C0 hK hN hA hQ hk23 x1 x2 x3 x5 x6 hw _ _ hP hD hS ls (lv_sub hl [0, 1, 2, 3, 4, 5] rfl)
    · have hw := hw.2 hc
      refine lv_aload_n hx hb dX9_firstChoice_55 rfl (lv_at hl 0 rfl) ?_
      refine lv_iload_n hx hb dX9_firstChoice_56 rfl (lv_at hl 3 rfl) ?_
      refine lv_iload hx hb dX9_firstChoice_57 (lv_at hl 5 rfl) ?_
      refine lv_iload hx hb dX9_firstChoice_59 (lv_at hl 4 rfl) ?_
      refine lv_iload_n hx hb dX9_firstChoice_61 rfl (lv_at hl 1 rfl) ?_
      have hPc := hP.sub (ws' := (ceX9_leadsOn cyI cyB cyJ cyZ a0 a1 b0_fewestLater f1)) [0, 1] rfl
      have hDc := hD.sub (ws' := (ceX9_leadsOn cyI cyB cyJ cyZ a0 a1 b0_fewestLater f1)) [0, 1] (by decide) rfl
      have hFc := va_free (wc := (ceX9_leadsOn cyI cyB cyJ cyZ a0 a1 b0_fewestLater f1)) hD hS hA [0, 1] rfl
      refine va_calli (va_runV (As := [.int x3, .int x6, .int x5, .int x1]) (rest := []) ⟨hx, hb, hml, hown, hts⟩ (ctX9_leadsOn l dC dI cyI cyB cyJ cyZ _ a0 a1 b0_fewestLater f1 x3 x6 x5 x1 _ hw) (cwV 4 hts gX9_firstChoice_X9_leadsOn rfl rfl rfl (by decide +kernel) ⟨Nat.le_of_ble_eq_true rfl, Nat.le_of_ble_eq_true rfl⟩) ⟨wPre_blind, va_recv hK hPc (ci := 9) (q0 := 0) rfl rfl, fun U hU hW => wPre_of hPc hK hDc hN hU hW⟩ rfl rfl hl.1 rfl (lv_room (Nat.le_of_ble_eq_true rfl)) dX9_firstChoice_62 ⟨(Nat.zero_le _), (Nat.zero_le _)⟩) hS (fun q _ h => hFc q h) hFc (fun r2 u1 t H1 locs ht hvm hw hB hz1 hk1 hS => ?_)
      obtain ⟨hP1, hK1, hD1⟩ := hB
      rw [ht] at hP1
      obtain ⟨hP, hD⟩ := va_join (wr := pickW (ceX9_firstChoice cyI cyB cyJ cyZ a0 a1 b0_fewestLater f1) []) (w1 := (ceX9_leadsOn cyI cyB cyJ cyZ a0 a1 b0_fewestLater f1)) hP hD [0, 1] [] rfl rfl (by decide) (by decide) hk1 hFc hP1 hD1
      have hP := hP.sub (ws' := (ceX9_firstChoice cyI cyB cyJ cyZ a0 a1 b0_fewestLater f1)) [0, 1] rfl
      have hD := hD.sub (ws' := (ceX9_firstChoice cyI cyB cyJ cyZ a0 a1 b0_fewestLater f1)) [0, 1] (by decide) rfl
      generalize H1 = H at hP hS ⊢
      refine lv_if_ne (tgt := 74) hx hb dX9_firstChoice_65 (by decide) (fun hc => ?_) (fun hc => ?_)
      · have hw := hw.1 hc
        exact bX9_firstChoice_74 C0 hK hN hA hQ hk23 x1 x2 x3 x5 x6 hw _ _ hP hD hS ls (lv_sub hl [0, 1, 2, 3, 4, 5] rfl)
      · have hw := hw.2 hc
        obtain ⟨v3, ev3⟩ : ∃ y : Int32, y = x3 + 1 := ⟨_, rfl⟩
        have hw := hw v3 ev3
        refine lv_iinc (v := v3) (lv' := [(3, .int v3), (0, .ref a0), (1, .int x1), (2, .int x2), (5, .int x5), (6, .int x6)]) hx hb dX9_firstChoice_68 hl (k := 3) rfl (by rw [ev3]; rfl) (by decide) rfl (fun ls hl => ?_)
        refine lv_goto (tgt := 48) hx hb dX9_firstChoice_71 (by decide) ?_
        exact ih x1 x2 v3 x5 x6 hw H locs hP hD hS ls (lv_sub hl [1, 2, 3, 0, 4, 5] rfl)
set_option maxRecDepth 100000 in
set_option maxHeartbeats 4000000 in
theorem bX9_firstChoice_23 {p : Program} {l : Launch} {e : Env} {s : State} {m : MethodId} {args : Array Value} {below : List Frame} {meth : Method} {c : Code} {dC : Nat → ClassId} {dI : Nat → Nat → Nat} {cyI cyB cyJ cyZ : ClassId} {A : Nat → Prop} {a0 a1 b0_fewestLater : Nat} (C0 : cxM p s m meth c args wsX9_firstChoice RX9 cX9_firstChoice 7 (some .int)) (hK : va_K (dC, dI) vwCl (tyA cyI cyB cyJ cyZ) s) (hN : nwA s) (hA : ∀ q : Nat, s.heap.size ≤ q → A q) {post : Int32 → Unit → Prop} {f1 : Nat → Int32} {Q : State → Prop} (hQ : Q = MQ below (va_Qi post (fun u : Unit => wAt dC dI cyI cyB cyJ cyZ A (ceX9_firstChoice cyI cyB cyJ cyZ a0 a1 b0_fewestLater f1)) A) args s 0 0 A) : ∀ (n : Nat) (x1 : Int32) (x2 : Int32) (x3 : Int32) (x4 : Int32) (x5 : Int32), wpX9_firstChoice_23 post f1 n x1 x2 x3 x4 x5 → AtW p l e rmX9_firstChoice s m args below meth c dC dI A Q 7 0 0 (ceX9_firstChoice cyI cyB cyJ cyZ a0 a1 b0_fewestLater f1) [(0, .ref a0), (1, .int x1), (2, .int x2), (3, .int x3), (4, .int x4), (5, .int x5)] 23 [] := by
  intro n
  induction n with
  | zero => intro x1 x2 x3 x4 x5 hw; exact False.elim hw
  | succ n ih =>
    intro x1 x2 x3 x4 x5 hw H locs hP hD hS ls hl
    have C1 := C0
    obtain ⟨hx, hb, hr, hml, hown, hts, hlocks⟩ := C1
    refine lv_iload hx hb dX9_firstChoice_23 (lv_at hl 5 rfl) ?_
    refine lv_iconst (v := 1) hx hb dX9_firstChoice_25 (by decide) ?_
    refine lv_icmp_lt (tgt := 96) hx hb dX9_firstChoice_26 (by decide) (fun hc => ?_) (fun hc => ?_)
    · have hw := hw.1 hc
      refine lv_iload_n hx hb dX9_firstChoice_96 rfl (lv_at hl 2 rfl) ?_
      rw [hQ]
      exact W.iret (v := x2) hx hb hr (fun t ht hW => ⟨⟨x2, (), rfl, hw, by rw [ht]; exact hP, va_K.moved hW.alike hK, hD⟩, hS.F ht⟩) hS.2.2 dX9_firstChoice_97
    · have hw := hw.2 hc
      refine lv_iload_n hx hb dX9_firstChoice_29 rfl (lv_at hl 3 rfl) ?_
      refine lv_iload_n hx hb dX9_firstChoice_30 rfl (lv_at hl 1 rfl) ?_
      refine lv_iconst (v := 1) hx hb dX9_firstChoice_31 (by decide) ?_
      refine lv_isub hx hb dX9_firstChoice_32 ?_
      refine lv_icmp_ge (tgt := 96) hx hb dX9_firstChoice_33 (by decide) (fun hc => ?_) (fun hc => ?_)
      · have hw := hw.1 hc
        refine lv_iload_n hx hb dX9_firstChoice_96 rfl (lv_at hl 2 rfl) ?_
        rw [hQ]
        exact W.iret (v := x2) hx hb hr (fun t ht hW => ⟨⟨x2, (), rfl, hw, by rw [ht]; exact hP, va_K.moved hW.alike hK, hD⟩, hS.F ht⟩) hS.2.2 dX9_firstChoice_97
      · have hw := hw.2 hc
        refine lv_iload hx hb dX9_firstChoice_36 (lv_at hl 4 rfl) ?_
        refine lv_iload hx hb dX9_firstChoice_38 (lv_at hl 4 rfl) ?_
        refine lv_iconst (v := 1) hx hb dX9_firstChoice_40 (by decide) ?_
        refine lv_ishl hx hb dX9_firstChoice_41 ?_
        refine lv_ior hx hb dX9_firstChoice_42 ?_
        refine lv_topi (fun v1 ev1 => ?_)
        have hw := hw v1 ev1
        refine lv_istore (lv' := [(6, .int v1), (0, .ref a0), (1, .int x1), (2, .int x2), (3, .int x3), (4, .int x4), (5, .int x5)]) hx hb dX9_firstChoice_43 hl (by decide) rfl (fun ls hl => ?_)
        obtain ⟨v2, ev2⟩ : ∃ y : Int32, y = x3 + 1 := ⟨_, rfl⟩
        have hw := hw v2 ev2
        refine lv_iinc (v := v2) (lv' := [(3, .int v2), (6, .int v1), (0, .ref a0), (1, .int x1), (2, .int x2), (4, .int x4), (5, .int x5)]) hx hb dX9_firstChoice_45 hl (k := 4) rfl (by rw [ev2]; rfl) (by decide) rfl (fun ls hl => ?_)
        obtain ⟨nn, hw⟩ := hw
        exact bX9_firstChoice_48 C0 hK hN hA hQ ih nn x1 x2 v2 x5 v1 hw _ _ hP hD hS ls (lv_sub hl [2, 3, 4, 0, 6, 1] rfl)
set_option maxRecDepth 100000 in
set_option maxHeartbeats 4000000 in
theorem ctX9_firstChoice (l : Launch) (dC : Nat → ClassId) (dI : Nat → Nat → Nat) (cyI cyB cyJ cyZ : ClassId) (sz : Nat) (a0 a1 b0_fewestLater : Nat) (f1 : Nat → Int32) (p0 : Int32) (post : Int32 → Unit → Prop) (hw : wpX9_firstChoice post f1 p0) : Met l yX9_firstChoice wsX9_firstChoice rmX9_firstChoice (va_Pc [.ref a0, .int p0] (wPre dC dI cyI cyB cyJ cyZ sz (ceX9_firstChoice cyI cyB cyJ cyZ a0 a1 b0_fewestLater f1))) (va_Qi post (fun u : Unit => wAt dC dI cyI cyB cyJ cyZ (va_A (ceX9_firstChoice cyI cyB cyJ cyZ a0 a1 b0_fewestLater f1) sz) (ceX9_firstChoice cyI cyB cyJ cyZ a0 a1 b0_fewestLater f1)) (va_A (ceX9_firstChoice cyI cyB cyJ cyZ a0 a1 b0_fewestLater f1) sz)) 0 0 (va_A (ceX9_firstChoice cyI cyB cyJ cyZ a0 a1 b0_fewestLater f1) sz) := by
  refine Met.ofW (cc := cX9_firstChoice) (maxL := 7) (ret := (some .int)) (by decide) rfl ?_
  intro p e s m args below meth c s₁ B hml hv
  obtain ⟨rfl, hsz, hP, hK, hD0, hN⟩ := hv
  have hx := B.exec
  have hb := B.bytes
  have hr := B.returns
  have hts := atoms_spec (ws := wsX9_firstChoice) B.pre
  have hown : s.vm.findClass RX9 = some m.cls := findClass_of_methodNamed B.named
  have hlocks := B.notSynchronized
  subst hsz
  have hD := hD0.self (sz := s.heap.size)
  generalize hAe : va_A (ceX9_firstChoice cyI cyB cyJ cyZ a0 a1 b0_fewestLater f1) s.heap.size = A at hD ⊢
  have hA : ∀ q : Nat, s.heap.size ≤ q → A q := fun q h => by rw [← hAe]; exact Or.inr h
  have hS : va_S A s.heap s.heap [] := va_S.rf
  have C0 : cxM p s m meth c _ wsX9_firstChoice RX9 cX9_firstChoice 7 (some .int) := ⟨hx, hb, hr, hml, hown, hts, hlocks⟩
  have hl := lv_entry ([.ref a0, .int p0]) (n := 7) (Nat.le_of_ble_eq_true rfl)
  rw [lg_entry_eq]
  generalize (lg_sl ([.ref a0, .int p0]) ++ List.replicate (7 - (lg_sl ([.ref a0, .int p0])).length) Slot.unset).toArray = ls at hl ⊢
  have hl : lv_has ls 7 [(0, .ref a0), (1, .int p0)] := hl
  show W p l e rmX9_firstChoice s m _ below meth c _ _ _ _ _ _
  refine wq (fun Q hQ => ?_)
  refine lv_iconst (v := 1) hx hb dX9_firstChoice_0 (by decide) ?_
  refine lv_istore_n (lv' := [(2, .int 1), (0, .ref a0), (1, .int p0)]) hx hb dX9_firstChoice_1 rfl hl (by decide) rfl (fun ls hl => ?_)
  refine lv_iconst (v := 0) hx hb dX9_firstChoice_2 (by decide) ?_
  refine lv_istore_n (lv' := [(3, .int 0), (2, .int 1), (0, .ref a0), (1, .int p0)]) hx hb dX9_firstChoice_3 rfl hl (by decide) rfl (fun ls hl => ?_)
  refine lv_aload_n hx hb dX9_firstChoice_4 rfl (lv_at hl 2 rfl) ?_
  refine lv_iconst (v := 0) hx hb dX9_firstChoice_5 (by decide) ?_
  refine lv_iconst (v := 1) hx hb dX9_firstChoice_6 (by decide) ?_
  refine lv_iload_n hx hb dX9_firstChoice_7 rfl (lv_at hl 3 rfl) ?_
  have hPc := hP.sub (ws' := (ceX9_walkOn cyI cyB cyJ cyZ a0 a1 b0_fewestLater f1)) [0, 1] rfl
  have hDc := hD.sub (ws' := (ceX9_walkOn cyI cyB cyJ cyZ a0 a1 b0_fewestLater f1)) [0, 1] (by decide) rfl
  have hFc := va_free (wc := (ceX9_walkOn cyI cyB cyJ cyZ a0 a1 b0_fewestLater f1)) hD hS hA [0, 1] rfl
  refine va_calli (va_runV (As := [.int 0, .int 1, .int p0]) (rest := []) ⟨hx, hb, hml, hown, hts⟩ (ctX9_walkOn l dC dI cyI cyB cyJ cyZ _ a0 a1 b0_fewestLater f1 0 1 p0 _ hw) (cwV 3 hts gX9_firstChoice_X9_walkOn rfl rfl rfl (by decide +kernel) ⟨Nat.le_of_ble_eq_true rfl, Nat.le_of_ble_eq_true rfl⟩) ⟨wPre_blind, va_recv hK hPc (ci := 9) (q0 := 0) rfl rfl, fun U hU hW => wPre_of hPc hK hDc hN hU hW⟩ rfl rfl hl.1 rfl (lv_room (Nat.le_of_ble_eq_true rfl)) dX9_firstChoice_8 ⟨(Nat.zero_le _), (Nat.zero_le _)⟩) hS (fun q _ h => hFc q h) hFc (fun r2 u1 t H1 locs ht hvm hw hB hz1 hk1 hS => ?_)
  obtain ⟨hP1, hK1, hD1⟩ := hB
  rw [ht] at hP1
  obtain ⟨hP, hD⟩ := va_join (wr := pickW (ceX9_firstChoice cyI cyB cyJ cyZ a0 a1 b0_fewestLater f1) []) (w1 := (ceX9_walkOn cyI cyB cyJ cyZ a0 a1 b0_fewestLater f1)) hP hD [0, 1] [] rfl rfl (by decide) (by decide) hk1 hFc hP1 hD1
  have hP := hP.sub (ws' := (ceX9_firstChoice cyI cyB cyJ cyZ a0 a1 b0_fewestLater f1)) [0, 1] rfl
  have hD := hD.sub (ws' := (ceX9_firstChoice cyI cyB cyJ cyZ a0 a1 b0_fewestLater f1)) [0, 1] (by decide) rfl
  generalize H1 = H at hP hS ⊢
  refine lv_istore (lv' := [(4, .int r2), (3, .int 0), (2, .int 1), (0, .ref a0), (1, .int p0)]) hx hb dX9_firstChoice_11 hl (by decide) rfl (fun ls hl => ?_)
  refine lv_aload_n hx hb dX9_firstChoice_13 rfl (lv_at hl 3 rfl) ?_
  refine va_get (D := (dC, dI)) (ci := 9) (v := .ref a1) (C := RX9) (T := TX9) (N := 2) hx hb hts inX9_firstChoice_X9 hown hK hP 0 rfl rfl 0 (by decide) (hts (.fieldLink RX9 11 "LeadPark$Thinning" "fewest" "[I") (List.mem_of_getElem? (i := 1) rfl)) (fun _ h9 => h9) rfl dX9_firstChoice_14 ?_
  refine lv_iconst (v := 0) hx hb dX9_firstChoice_17 (by decide) ?_
  obtain ⟨hi, hw⟩ := hw
  refine va_iald hx hb hK hP 1 0 rfl rfl hi dX9_firstChoice_18 ?_
  refine lv_iconst (v := 1) hx hb dX9_firstChoice_19 (by decide) ?_
  refine lv_isub hx hb dX9_firstChoice_20 ?_
  refine lv_topi (fun v3 ev3 => ?_)
  have hw := hw v3 ev3
  refine lv_istore (lv' := [(5, .int v3), (4, .int r2), (3, .int 0), (2, .int 1), (0, .ref a0), (1, .int p0)]) hx hb dX9_firstChoice_21 hl (by decide) rfl (fun ls hl => ?_)
  obtain ⟨nn, hw⟩ := hw
  exact bX9_firstChoice_23 C0 hK hN hA hQ nn p0 1 0 r2 v3 hw _ _ hP hD hS ls (lv_sub hl [4, 5, 3, 2, 1, 0] rfl)
/-! LeadPark$Thinning.fewestCorners (LLeadPark$Ground;II)I -/
abbrev ceX9_fewestCorners (cyI cyB cyJ cyZ : ClassId) (a0 a1 a2 a3 a4 a5 a6 b3_walls : Nat) (g3_ways : Int32) (g3_wallCount : Int32) (g3_texts : Int32) (f4 : Nat → Int32) (f5 : Nat → Int32) (f6 : Nat → Int32) (f1 : Nat → Int32) (f2 : Nat → Int32) : va_W := [(a0, .inr (9, [.ref a1, .ref a2])), (a1, .inl (cyI, 961, .inl f1)), (a2, .inl (cyI, 31, .inl f2)), (a3, .inr (1, [.ref a5, .ref a6, .ref a4, .ref b3_walls, .int g3_ways, .int g3_wallCount, .int g3_texts])), (a4, .inl (cyI, 12, .inl f4)), (a5, .inl (cyI, 360, .inl f5)), (a6, .inl (cyI, 360, .inl f6))]

theorem inX9_fewestCorners_X1 : ∀ w ∈ wsX10, w ∈ wsX9_fewestCorners := fun _ h => List.mem_cons_of_mem _ (List.mem_append_left _ (List.mem_append_right _ h))
theorem inX9_fewestCorners_X9 : ∀ w ∈ wsX90, w ∈ wsX9_fewestCorners := fun _ h => List.mem_cons_of_mem _ (List.mem_append_right _ h)
abbrev rmX9_fewestCorners : Room := { frames := 2, cells := 0, slots := 0, locals := 68 }
set_option maxRecDepth 100000 in
set_option maxHeartbeats 4000000 in
theorem bX9_fewestCorners_49 {p : Program} {l : Launch} {e : Env} {s : State} {m : MethodId} {args : Array Value} {below : List Frame} {meth : Method} {c : Code} {dC : Nat → ClassId} {dI : Nat → Nat → Nat} {cyI cyB cyJ cyZ : ClassId} {A : Nat → Prop} {a0 a1 a2 a3 a4 a5 a6 b3_walls : Nat} {g3_ways : Int32} {g3_wallCount : Int32} {g3_texts : Int32} (C0 : cxM p s m meth c args wsX9_fewestCorners RX9 cX9_fewestCorners 7 (some .int)) (hK : va_K (dC, dI) vwCl (tyA cyI cyB cyJ cyZ) s) (hN : nwA s) (hA : ∀ q : Nat, s.heap.size ≤ q → A q) {post : Int32 → ((Nat → Int32) × (Nat → Int32)) → Prop} {f4 : Nat → Int32} {f5 : Nat → Int32} {f6 : Nat → Int32} {k32 : (Nat → Int32) → (Nat → Int32) → Int32 → Int32 → Int32 → Int32 → Prop} {Q : State → Prop} (hQ : Q = MQ below (va_Qi post (fun u : (Nat → Int32) × (Nat → Int32) => wAt dC dI cyI cyB cyJ cyZ A (ceX9_fewestCorners cyI cyB cyJ cyZ a0 a1 a2 a3 a4 a5 a6 b3_walls g3_ways g3_wallCount g3_texts f4 f5 f6 u.1 u.2)) A) args s 0 0 A) (hk32 : ∀ (f1 : Nat → Int32) (f2 : Nat → Int32) (x2 : Int32) (x3 : Int32) (x4 : Int32) (x5 : Int32), k32 f1 f2 x2 x3 x4 x5 → AtW p l e rmX9_fewestCorners s m args below meth c dC dI A Q 7 0 0 (ceX9_fewestCorners cyI cyB cyJ cyZ a0 a1 a2 a3 a4 a5 a6 b3_walls g3_ways g3_wallCount g3_texts f4 f5 f6 f1 f2) [(0, .ref a0), (1, .ref a3), (2, .int x2), (3, .int x3), (4, .int x4), (5, .int x5)] 32 []) : ∀ (n : Nat) (f1 : Nat → Int32) (f2 : Nat → Int32) (x2 : Int32) (x3 : Int32) (x4 : Int32) (x5 : Int32) (x6 : Int32), wpX9_fewestCorners_49 k32 post f4 f5 f6 n f1 f2 x2 x3 x4 x5 x6 → AtW p l e rmX9_fewestCorners s m args below meth c dC dI A Q 7 0 0 (ceX9_fewestCorners cyI cyB cyJ cyZ a0 a1 a2 a3 a4 a5 a6 b3_walls g3_ways g3_wallCount g3_texts f4 f5 f6 f1 f2) [(0, .ref a0), (1, .ref a3), (2, .int x2), (3, .int x3), (4, .int x4), (5, .int x5), (6, .int x6)] 49 [] := by
  intro n
  induction n with
  | zero => intro f1 f2 x2 x3 x4 x5 x6 hw; exact False.elim hw
  | succ n ih =>
    intro f1 f2 x2 x3 x4 x5 x6 hw H locs hP hD hS ls hl
    have C1 := C0
    obtain ⟨hx, hb, hr, hml, hown, hts, hlocks⟩ := C1
    refine lv_iload hx hb dX9_fewestCorners_49 (lv_at hl 6 rfl) ?_
    refine lv_iload hx hb dX9_fewestCorners_51 (lv_at hl 4 rfl) ?_
    refine lv_icmp_ge (tgt := 92) hx hb dX9_fewestCorners_53 (by decide) (fun hc => ?_) (fun hc => ?_)
    · have hw := hw.1 hc
      obtain ⟨v1, ev1⟩ : ∃ y : Int32, y = x5 + (-1) := ⟨_, rfl⟩
      have hw := hw v1 ev1
      refine lv_iinc (v := v1) (lv' := [(5, .int v1), (0, .ref a0), (1, .ref a3), (2, .int x2), (3, .int x3), (4, .int x4), (6, .int x6)]) hx hb dX9_fewestCorners_92 hl (k := 5) rfl (by rw [ev1]; rfl) (by decide) rfl (fun ls hl => ?_)
      refine lv_goto (tgt := 32) hx hb dX9_fewestCorners_95 (by decide) ?_
      exact hk32 f1 f2 x2 x3 x4 v1 hw H locs hP hD hS ls (lv_sub hl [1, 2, 3, 4, 5, 0] rfl)
    · have hw := hw.2 hc
      refine lv_aload_n hx hb dX9_fewestCorners_56 rfl (lv_at hl 0 rfl) ?_
      refine va_get (D := (dC, dI)) (ci := 9) (v := .ref a2) (C := RX9) (T := TX9) (N := 2) hx hb hts inX9_fewestCorners_X9 hown hK hP 0 rfl rfl 1 (by decide) (hts (.fieldLink RX9 15 "LeadPark$Thinning" "fewestLater" "[I") (List.mem_of_getElem? (i := 3) rfl)) (fun _ h9 => h9) rfl dX9_fewestCorners_57 ?_
      refine lv_iload hx hb dX9_fewestCorners_60 (lv_at hl 6 rfl) ?_
      refine lv_aload_n hx hb dX9_fewestCorners_62 rfl (lv_at hl 0 rfl) ?_
      refine va_get (D := (dC, dI)) (ci := 9) (v := .ref a2) (C := RX9) (T := TX9) (N := 2) hx hb hts inX9_fewestCorners_X9 hown hK hP 0 rfl rfl 1 (by decide) (hts (.fieldLink RX9 15 "LeadPark$Thinning" "fewestLater" "[I") (List.mem_of_getElem? (i := 3) rfl)) (fun _ h9 => h9) rfl dX9_fewestCorners_63 ?_
      refine lv_iload hx hb dX9_fewestCorners_66 (lv_at hl 6 rfl) ?_
      obtain ⟨hi, hw⟩ := hw
      refine va_iald hx hb hK hP 2 0 rfl rfl hi dX9_fewestCorners_68 ?_
      refine lv_aload_n hx hb dX9_fewestCorners_69 rfl (lv_at hl 0 rfl) ?_
      refine va_get (D := (dC, dI)) (ci := 9) (v := .ref a1) (C := RX9) (T := TX9) (N := 2) hx hb hts inX9_fewestCorners_X9 hown hK hP 0 rfl rfl 0 (by decide) (hts (.fieldLink RX9 11 "LeadPark$Thinning" "fewest" "[I") (List.mem_of_getElem? (i := 1) rfl)) (fun _ h9 => h9) rfl dX9_fewestCorners_70 ?_
      refine lv_iload hx hb dX9_fewestCorners_73 (lv_at hl 5 rfl) ?_
      refine lv_bipush (v := 31) hx hb dX9_fewestCorners_75 (by decide) ?_
      refine lv_imul hx hb dX9_fewestCorners_77 ?_
      refine lv_iload hx hb dX9_fewestCorners_78 (lv_at hl 6 rfl) ?_
      refine lv_iadd hx hb dX9_fewestCorners_80 ?_
      obtain ⟨hi, hw⟩ := hw
      refine va_iald hx hb hK hP 1 0 rfl rfl hi dX9_fewestCorners_81 ?_
      refine va_mmin hx hb (hml.trans hl.1.symm) hown (hts (.methodLink RX9 34 Lib.Math.min.name) (List.mem_of_getElem? (i := 4) rfl)) (hts (.static Lib.Math.min.name) (List.mem_of_getElem? (i := 5) rfl)) (hts (.initialized "java/lang/Math") (List.mem_of_getElem? (i := 6) rfl)) (hts (.code Lib.Math.min.name Lib.Math.min.code 2 (some .int)) (List.mem_of_getElem? (i := 7) rfl)) (Nat.le_of_ble_eq_true rfl) (Nat.le_of_ble_eq_true rfl) (by decide) (by decide) dX9_fewestCorners_82 ?_
      obtain ⟨hi, hw⟩ := hw
      refine va_iast hx hb hK hP hD hS 2 0 rfl rfl hi dX9_fewestCorners_85 (fun H locs hP hD hS => ?_)
      have hP : va_P (dC, dI) vwCl (ceX9_fewestCorners cyI cyB cyJ cyZ a0 a1 a2 a3 a4 a5 a6 b3_walls g3_ways g3_wallCount g3_texts f4 f5 f6 f1 (upd f2 x6.toNatClampNeg (iMin (f2 x6.toNatClampNeg) (f1 ((x5 * 31) + x6).toNatClampNeg)))) H := hP
      have hD : va_D A (ceX9_fewestCorners cyI cyB cyJ cyZ a0 a1 a2 a3 a4 a5 a6 b3_walls g3_ways g3_wallCount g3_texts f4 f5 f6 f1 (upd f2 x6.toNatClampNeg (iMin (f2 x6.toNatClampNeg) (f1 ((x5 * 31) + x6).toNatClampNeg)))) := hD
      obtain ⟨v2, ev2⟩ : ∃ y : Int32, y = x6 + 1 := ⟨_, rfl⟩
      have hw := hw v2 ev2
      refine lv_iinc (v := v2) (lv' := [(6, .int v2), (0, .ref a0), (1, .ref a3), (2, .int x2), (3, .int x3), (4, .int x4), (5, .int x5)]) hx hb dX9_fewestCorners_86 hl (k := 6) rfl (by rw [ev2]; rfl) (by decide) rfl (fun ls hl => ?_)
      refine lv_goto (tgt := 49) hx hb dX9_fewestCorners_89 (by decide) ?_
      exact ih f1 (upd f2 x6.toNatClampNeg (iMin (f2 x6.toNatClampNeg) (f1 ((x5 * 31) + x6).toNatClampNeg))) x2 x3 x4 x5 v2 hw H locs hP hD hS ls (lv_sub hl [1, 2, 3, 4, 5, 6, 0] rfl)
set_option maxRecDepth 100000 in
set_option maxHeartbeats 4000000 in
theorem bX9_fewestCorners_32 {p : Program} {l : Launch} {e : Env} {s : State} {m : MethodId} {args : Array Value} {below : List Frame} {meth : Method} {c : Code} {dC : Nat → ClassId} {dI : Nat → Nat → Nat} {cyI cyB cyJ cyZ : ClassId} {A : Nat → Prop} {a0 a1 a2 a3 a4 a5 a6 b3_walls : Nat} {g3_ways : Int32} {g3_wallCount : Int32} {g3_texts : Int32} (C0 : cxM p s m meth c args wsX9_fewestCorners RX9 cX9_fewestCorners 7 (some .int)) (hK : va_K (dC, dI) vwCl (tyA cyI cyB cyJ cyZ) s) (hN : nwA s) (hA : ∀ q : Nat, s.heap.size ≤ q → A q) {post : Int32 → ((Nat → Int32) × (Nat → Int32)) → Prop} {f4 : Nat → Int32} {f5 : Nat → Int32} {f6 : Nat → Int32} {Q : State → Prop} (hQ : Q = MQ below (va_Qi post (fun u : (Nat → Int32) × (Nat → Int32) => wAt dC dI cyI cyB cyJ cyZ A (ceX9_fewestCorners cyI cyB cyJ cyZ a0 a1 a2 a3 a4 a5 a6 b3_walls g3_ways g3_wallCount g3_texts f4 f5 f6 u.1 u.2)) A) args s 0 0 A) : ∀ (n : Nat) (f1 : Nat → Int32) (f2 : Nat → Int32) (x2 : Int32) (x3 : Int32) (x4 : Int32) (x5 : Int32), wpX9_fewestCorners_32 post f4 f5 f6 n f1 f2 x2 x3 x4 x5 → AtW p l e rmX9_fewestCorners s m args below meth c dC dI A Q 7 0 0 (ceX9_fewestCorners cyI cyB cyJ cyZ a0 a1 a2 a3 a4 a5 a6 b3_walls g3_ways g3_wallCount g3_texts f4 f5 f6 f1 f2) [(0, .ref a0), (1, .ref a3), (2, .int x2), (3, .int x3), (4, .int x4), (5, .int x5)] 32 [] := by
  intro n
  induction n with
  | zero => intro f1 f2 x2 x3 x4 x5 hw; exact False.elim hw
  | succ n ih =>
    intro f1 f2 x2 x3 x4 x5 hw H locs hP hD hS ls hl
    have C1 := C0
    obtain ⟨hx, hb, hr, hml, hown, hts, hlocks⟩ := C1
    refine lv_iload hx hb dX9_fewestCorners_32 (lv_at hl 5 rfl) ?_
    refine lv_if_lt (tgt := 98) hx hb dX9_fewestCorners_34 (by decide) (fun hc => ?_) (fun hc => ?_)
    · have hw := hw.1 hc
      refine lv_aload_n hx hb dX9_fewestCorners_98 rfl (lv_at hl 0 rfl) ?_
      refine lv_iload hx hb dX9_fewestCorners_99 (lv_at hl 4 rfl) ?_
      have hPc := hP.sub (ws' := (ceX9_firstChoice cyI cyB cyJ cyZ a0 a1 a2 f1)) [0, 1] rfl
      have hDc := hD.sub (ws' := (ceX9_firstChoice cyI cyB cyJ cyZ a0 a1 a2 f1)) [0, 1] (by decide) rfl
      have hFc := va_free (wc := (ceX9_firstChoice cyI cyB cyJ cyZ a0 a1 a2 f1)) hD hS hA [0, 1] rfl
      refine va_calli (va_runV (As := [.int x4]) (rest := []) ⟨hx, hb, hml, hown, hts⟩ (ctX9_firstChoice l dC dI cyI cyB cyJ cyZ _ a0 a1 a2 f1 x4 _ hw) (cwV 1 hts gX9_fewestCorners_X9_firstChoice rfl rfl rfl (by decide +kernel) ⟨Nat.le_of_ble_eq_true rfl, Nat.le_of_ble_eq_true rfl⟩) ⟨wPre_blind, va_recv hK hPc (ci := 9) (q0 := 0) rfl rfl, fun U hU hW => wPre_of hPc hK hDc hN hU hW⟩ rfl rfl hl.1 rfl (lv_room (Nat.le_of_ble_eq_true rfl)) dX9_fewestCorners_101 ⟨(Nat.zero_le _), (Nat.zero_le _)⟩) hS (fun q _ h => hFc q h) hFc (fun r2 u1 t H1 locs ht hvm hw hB hz1 hk1 hS => ?_)
      obtain ⟨hP1, hK1, hD1⟩ := hB
      rw [ht] at hP1
      obtain ⟨hP, hD⟩ := va_join (wr := pickW (ceX9_fewestCorners cyI cyB cyJ cyZ a0 a1 a2 a3 a4 a5 a6 b3_walls g3_ways g3_wallCount g3_texts f4 f5 f6 f1 f2) [2, 3, 4, 5, 6]) (w1 := (ceX9_firstChoice cyI cyB cyJ cyZ a0 a1 a2 f1)) hP hD [0, 1] [2, 3, 4, 5, 6] rfl rfl (by decide) (by decide) hk1 hFc hP1 hD1
      have hP := hP.sub (ws' := (ceX9_fewestCorners cyI cyB cyJ cyZ a0 a1 a2 a3 a4 a5 a6 b3_walls g3_ways g3_wallCount g3_texts f4 f5 f6 f1 f2)) [5, 6, 0, 1, 2, 3, 4] rfl
      have hD := hD.sub (ws' := (ceX9_fewestCorners cyI cyB cyJ cyZ a0 a1 a2 a3 a4 a5 a6 b3_walls g3_ways g3_wallCount g3_texts f4 f5 f6 f1 f2)) [5, 6, 0, 1, 2, 3, 4] (by decide) rfl
      generalize H1 = H at hP hS ⊢
      rw [hQ]
      exact W.iret (v := r2) hx hb hr (fun t ht hW => ⟨⟨r2, (f1, f2), rfl, hw, by rw [ht]; exact hP, va_K.moved hW.alike hK, hD⟩, hS.F ht⟩) hS.2.2 dX9_fewestCorners_104
    · have hw := hw.2 hc
      refine lv_aload_n hx hb dX9_fewestCorners_37 rfl (lv_at hl 0 rfl) ?_
      refine lv_aload_n hx hb dX9_fewestCorners_38 rfl (lv_at hl 1 rfl) ?_
      refine lv_iload_n hx hb dX9_fewestCorners_39 rfl (lv_at hl 2 rfl) ?_
      refine lv_iload hx hb dX9_fewestCorners_40 (lv_at hl 5 rfl) ?_
      refine lv_iload_n hx hb dX9_fewestCorners_42 rfl (lv_at hl 3 rfl) ?_
      have hPc := hP.sub (ws' := (ceX9_countFrom cyI cyB cyJ cyZ a0 a2 a1 a3 a4 a5 a6 b3_walls g3_ways g3_wallCount g3_texts f2 f4 f5 f6 f1)) [0, 2, 1, 3, 4, 5, 6] rfl
      have hDc := hD.sub (ws' := (ceX9_countFrom cyI cyB cyJ cyZ a0 a2 a1 a3 a4 a5 a6 b3_walls g3_ways g3_wallCount g3_texts f2 f4 f5 f6 f1)) [0, 2, 1, 3, 4, 5, 6] (by decide) rfl
      have hFc := va_free (wc := (ceX9_countFrom cyI cyB cyJ cyZ a0 a2 a1 a3 a4 a5 a6 b3_walls g3_ways g3_wallCount g3_texts f2 f4 f5 f6 f1)) hD hS hA [0, 2, 1, 3, 4, 5, 6] rfl
      refine va_callv (va_runV (As := [.ref a3, .int x2, .int x5, .int x3]) (rest := []) ⟨hx, hb, hml, hown, hts⟩ (ctX9_countFrom l dC dI cyI cyB cyJ cyZ _ a0 a2 a1 a3 a4 a5 a6 b3_walls g3_ways g3_wallCount g3_texts f2 f4 f5 f6 f1 x2 x5 x3 _ hw) (cwV 4 hts gX9_fewestCorners_X9_countFrom rfl rfl rfl (by decide +kernel) ⟨Nat.le_of_ble_eq_true rfl, Nat.le_of_ble_eq_true rfl⟩) ⟨wPre_blind, va_recv hK hPc (ci := 9) (q0 := 0) rfl rfl, fun U hU hW => wPre_of hPc hK hDc hN hU hW⟩ rfl rfl hl.1 rfl (lv_room (Nat.le_of_ble_eq_true rfl)) dX9_fewestCorners_43 ⟨(Nat.zero_le _), (Nat.zero_le _)⟩) hS (fun q _ h => hFc q h) hFc (fun u3 t H1 locs ht hvm hw hB hz1 hk1 hS => ?_)
      obtain ⟨hP1, hK1, hD1⟩ := hB
      rw [ht] at hP1
      obtain ⟨hP, hD⟩ := va_join (wr := pickW (ceX9_fewestCorners cyI cyB cyJ cyZ a0 a1 a2 a3 a4 a5 a6 b3_walls g3_ways g3_wallCount g3_texts f4 f5 f6 f1 f2) []) (w1 := (ceX9_countFrom cyI cyB cyJ cyZ a0 a2 a1 a3 a4 a5 a6 b3_walls g3_ways g3_wallCount g3_texts f2 f4 f5 f6 u3)) hP hD [0, 2, 1, 3, 4, 5, 6] [] rfl rfl (by decide) (by decide) hk1 hFc hP1 hD1
      have hP := hP.sub (ws' := (ceX9_fewestCorners cyI cyB cyJ cyZ a0 a1 a2 a3 a4 a5 a6 b3_walls g3_ways g3_wallCount g3_texts f4 f5 f6 u3 f2)) [0, 2, 1, 3, 4, 5, 6] rfl
      have hD := hD.sub (ws' := (ceX9_fewestCorners cyI cyB cyJ cyZ a0 a1 a2 a3 a4 a5 a6 b3_walls g3_ways g3_wallCount g3_texts f4 f5 f6 u3 f2)) [0, 2, 1, 3, 4, 5, 6] (by decide) rfl
      generalize H1 = H at hP hS ⊢
      refine lv_iconst (v := 0) hx hb dX9_fewestCorners_46 (by decide) ?_
      refine lv_istore (lv' := [(6, .int 0), (0, .ref a0), (1, .ref a3), (2, .int x2), (3, .int x3), (4, .int x4), (5, .int x5)]) hx hb dX9_fewestCorners_47 hl (by decide) rfl (fun ls hl => ?_)
      obtain ⟨nn, hw⟩ := hw
      exact bX9_fewestCorners_49 C0 hK hN hA hQ ih nn u3 f2 x2 x3 x4 x5 0 hw _ _ hP hD hS ls (lv_sub hl [1, 2, 3, 4, 5, 6, 0] rfl)
set_option maxRecDepth 100000 in
set_option maxHeartbeats 4000000 in
theorem ctX9_fewestCorners (l : Launch) (dC : Nat → ClassId) (dI : Nat → Nat → Nat) (cyI cyB cyJ cyZ : ClassId) (sz : Nat) (a0 a1 a2 a3 a4 a5 a6 b3_walls : Nat) (g3_ways : Int32) (g3_wallCount : Int32) (g3_texts : Int32) (f4 : Nat → Int32) (f5 : Nat → Int32) (f6 : Nat → Int32) (f1 : Nat → Int32) (f2 : Nat → Int32) (p1 : Int32) (p2 : Int32) (post : Int32 → ((Nat → Int32) × (Nat → Int32)) → Prop) (hw : wpX9_fewestCorners post f4 f5 f6 f1 f2 p1 p2) : Met l yX9_fewestCorners wsX9_fewestCorners rmX9_fewestCorners (va_Pc [.ref a0, .ref a3, .int p1, .int p2] (wPre dC dI cyI cyB cyJ cyZ sz (ceX9_fewestCorners cyI cyB cyJ cyZ a0 a1 a2 a3 a4 a5 a6 b3_walls g3_ways g3_wallCount g3_texts f4 f5 f6 f1 f2))) (va_Qi post (fun u : (Nat → Int32) × (Nat → Int32) => wAt dC dI cyI cyB cyJ cyZ (va_A (ceX9_fewestCorners cyI cyB cyJ cyZ a0 a1 a2 a3 a4 a5 a6 b3_walls g3_ways g3_wallCount g3_texts f4 f5 f6 f1 f2) sz) (ceX9_fewestCorners cyI cyB cyJ cyZ a0 a1 a2 a3 a4 a5 a6 b3_walls g3_ways g3_wallCount g3_texts f4 f5 f6 u.1 u.2)) (va_A (ceX9_fewestCorners cyI cyB cyJ cyZ a0 a1 a2 a3 a4 a5 a6 b3_walls g3_ways g3_wallCount g3_texts f4 f5 f6 f1 f2) sz)) 0 0 (va_A (ceX9_fewestCorners cyI cyB cyJ cyZ a0 a1 a2 a3 a4 a5 a6 b3_walls g3_ways g3_wallCount g3_texts f4 f5 f6 f1 f2) sz) := by
  refine Met.ofW (cc := cX9_fewestCorners) (maxL := 7) (ret := (some .int)) (by decide) rfl ?_
  intro p e s m args below meth c s₁ B hml hv
  obtain ⟨rfl, hsz, hP, hK, hD0, hN⟩ := hv
  have hx := B.exec
  have hb := B.bytes
  have hr := B.returns
  have hts := atoms_spec (ws := wsX9_fewestCorners) B.pre
  have hown : s.vm.findClass RX9 = some m.cls := findClass_of_methodNamed B.named
  have hlocks := B.notSynchronized
  subst hsz
  have hD := hD0.self (sz := s.heap.size)
  generalize hAe : va_A (ceX9_fewestCorners cyI cyB cyJ cyZ a0 a1 a2 a3 a4 a5 a6 b3_walls g3_ways g3_wallCount g3_texts f4 f5 f6 f1 f2) s.heap.size = A at hD ⊢
  have hA : ∀ q : Nat, s.heap.size ≤ q → A q := fun q h => by rw [← hAe]; exact Or.inr h
  have hS : va_S A s.heap s.heap [] := va_S.rf
  have C0 : cxM p s m meth c _ wsX9_fewestCorners RX9 cX9_fewestCorners 7 (some .int) := ⟨hx, hb, hr, hml, hown, hts, hlocks⟩
  have hl := lv_entry ([.ref a0, .ref a3, .int p1, .int p2]) (n := 7) (Nat.le_of_ble_eq_true rfl)
  rw [lg_entry_eq]
  generalize (lg_sl ([.ref a0, .ref a3, .int p1, .int p2]) ++ List.replicate (7 - (lg_sl ([.ref a0, .ref a3, .int p1, .int p2])).length) Slot.unset).toArray = ls at hl ⊢
  have hl : lv_has ls 7 [(0, .ref a0), (1, .ref a3), (2, .int p1), (3, .int p2)] := hl
  show W p l e rmX9_fewestCorners s m _ below meth c _ _ _ _ _ _
  refine wq (fun Q hQ => ?_)
  refine lv_aload_n hx hb dX9_fewestCorners_0 rfl (lv_at hl 1 rfl) ?_
  refine va_getN (D := (dC, dI)) (ci := 1) (v := .ref a4) (C := RX1) (T := TX1) (N := 7) hx hb hts inX9_fewestCorners_X1 hown hK hP 3 rfl rfl 2 (by decide) (va_Nw.use rfl (hN _ (List.mem_of_getElem? (i := 4) rfl))) (fun _ h9 => h9) rfl dX9_fewestCorners_1 ?_
  refine lv_iload_n hx hb dX9_fewestCorners_4 rfl (lv_at hl 2 rfl) ?_
  obtain ⟨hi, hw⟩ := hw
  refine va_iald hx hb hK hP 4 0 rfl rfl hi dX9_fewestCorners_5 ?_
  refine lv_topi (fun v1 ev1 => ?_)
  have hw := hw v1 ev1
  refine lv_istore (lv' := [(4, .int v1), (0, .ref a0), (1, .ref a3), (2, .int p1), (3, .int p2)]) hx hb dX9_fewestCorners_6 hl (by decide) rfl (fun ls hl => ?_)
  refine lv_aload_n hx hb dX9_fewestCorners_8 rfl (lv_at hl 1 rfl) ?_
  refine va_get (D := (dC, dI)) (ci := 9) (v := .ref a1) (C := RX9) (T := TX9) (N := 2) hx hb hts inX9_fewestCorners_X9 hown hK hP 0 rfl rfl 0 (by decide) (hts (.fieldLink RX9 11 "LeadPark$Thinning" "fewest" "[I") (List.mem_of_getElem? (i := 1) rfl)) (fun _ h9 => h9) rfl dX9_fewestCorners_9 ?_
  refine lv_ldc (v := 2147483647) hx hb hown (hts (.constant RX9 23 (2147483647)) (List.mem_of_getElem? (i := 2) rfl)) dX9_fewestCorners_12 ?_
  have hPc := hP.sub (ws' := (ceJ7_fill_53178 cyI cyB cyJ cyZ a1 961 f1)) [1] rfl
  have hDc := hD.sub (ws' := (ceJ7_fill_53178 cyI cyB cyJ cyZ a1 961 f1)) [1] (by decide) rfl
  have hFc := va_free (wc := (ceJ7_fill_53178 cyI cyB cyJ cyZ a1 961 f1)) hD hS hA [1] rfl
  refine va_callv (va_runS (As := [.ref a1, .int 2147483647]) (rest := []) ⟨hx, hb, hml, hown, hts⟩ (ctJ7_fill_53178 l dC dI cyI cyB cyJ cyZ _ a1 961 f1 2147483647 _ hw) (va_cwS 2 hts gX9_fewestCorners_J7_fill_53178 rfl rfl rfl (by decide +kernel) ⟨Nat.le_of_ble_eq_true rfl, Nat.le_of_ble_eq_true rfl⟩) ⟨wPre_blind, fun U hU hW => wPre_of hPc hK hDc hN hU hW⟩ rfl rfl hl.1 rfl (lv_room (Nat.le_of_ble_eq_true rfl)) dX9_fewestCorners_14 ⟨(Nat.zero_le _), (Nat.zero_le _)⟩) hS (fun q _ h => hFc q h) hFc (fun u2 t H1 locs ht hvm hw hB hz1 hk1 hS => ?_)
  obtain ⟨hP1, hK1, hD1⟩ := hB
  rw [ht] at hP1
  obtain ⟨hP, hD⟩ := va_join (wr := pickW (ceX9_fewestCorners cyI cyB cyJ cyZ a0 a1 a2 a3 a4 a5 a6 b3_walls g3_ways g3_wallCount g3_texts f4 f5 f6 f1 f2) [0, 2, 3, 4, 5, 6]) (w1 := (ceJ7_fill_53178 cyI cyB cyJ cyZ a1 961 u2)) hP hD [1] [0, 2, 3, 4, 5, 6] rfl rfl (by decide) (by decide) hk1 hFc hP1 hD1
  have hP := hP.sub (ws' := (ceX9_fewestCorners cyI cyB cyJ cyZ a0 a1 a2 a3 a4 a5 a6 b3_walls g3_ways g3_wallCount g3_texts f4 f5 f6 u2 f2)) [0, 6, 1, 2, 3, 4, 5] rfl
  have hD := hD.sub (ws' := (ceX9_fewestCorners cyI cyB cyJ cyZ a0 a1 a2 a3 a4 a5 a6 b3_walls g3_ways g3_wallCount g3_texts f4 f5 f6 u2 f2)) [0, 6, 1, 2, 3, 4, 5] (by decide) rfl
  generalize H1 = H at hP hS ⊢
  refine lv_aload_n hx hb dX9_fewestCorners_17 rfl (lv_at hl 1 rfl) ?_
  refine va_get (D := (dC, dI)) (ci := 9) (v := .ref a2) (C := RX9) (T := TX9) (N := 2) hx hb hts inX9_fewestCorners_X9 hown hK hP 0 rfl rfl 1 (by decide) (hts (.fieldLink RX9 15 "LeadPark$Thinning" "fewestLater" "[I") (List.mem_of_getElem? (i := 3) rfl)) (fun _ h9 => h9) rfl dX9_fewestCorners_18 ?_
  refine lv_ldc (v := 2147483647) hx hb hown (hts (.constant RX9 23 (2147483647)) (List.mem_of_getElem? (i := 2) rfl)) dX9_fewestCorners_21 ?_
  have hPc := hP.sub (ws' := (ceJ7_fill_53178 cyI cyB cyJ cyZ a2 31 f2)) [2] rfl
  have hDc := hD.sub (ws' := (ceJ7_fill_53178 cyI cyB cyJ cyZ a2 31 f2)) [2] (by decide) rfl
  have hFc := va_free (wc := (ceJ7_fill_53178 cyI cyB cyJ cyZ a2 31 f2)) hD hS hA [2] rfl
  refine va_callv (va_runS (As := [.ref a2, .int 2147483647]) (rest := []) ⟨hx, hb, hml, hown, hts⟩ (ctJ7_fill_53178 l dC dI cyI cyB cyJ cyZ _ a2 31 f2 2147483647 _ hw) (va_cwS 2 hts gX9_fewestCorners_J7_fill_53178 rfl rfl rfl (by decide +kernel) ⟨Nat.le_of_ble_eq_true rfl, Nat.le_of_ble_eq_true rfl⟩) ⟨wPre_blind, fun U hU hW => wPre_of hPc hK hDc hN hU hW⟩ rfl rfl hl.1 rfl (lv_room (Nat.le_of_ble_eq_true rfl)) dX9_fewestCorners_23 ⟨(Nat.zero_le _), (Nat.zero_le _)⟩) hS (fun q _ h => hFc q h) hFc (fun u3 t H1 locs ht hvm hw hB hz1 hk1 hS => ?_)
  obtain ⟨hP1, hK1, hD1⟩ := hB
  rw [ht] at hP1
  obtain ⟨hP, hD⟩ := va_join (wr := pickW (ceX9_fewestCorners cyI cyB cyJ cyZ a0 a1 a2 a3 a4 a5 a6 b3_walls g3_ways g3_wallCount g3_texts f4 f5 f6 u2 f2) [0, 1, 3, 4, 5, 6]) (w1 := (ceJ7_fill_53178 cyI cyB cyJ cyZ a2 31 u3)) hP hD [2] [0, 1, 3, 4, 5, 6] rfl rfl (by decide) (by decide) hk1 hFc hP1 hD1
  have hP := hP.sub (ws' := (ceX9_fewestCorners cyI cyB cyJ cyZ a0 a1 a2 a3 a4 a5 a6 b3_walls g3_ways g3_wallCount g3_texts f4 f5 f6 u2 u3)) [0, 1, 6, 2, 3, 4, 5] rfl
  have hD := hD.sub (ws' := (ceX9_fewestCorners cyI cyB cyJ cyZ a0 a1 a2 a3 a4 a5 a6 b3_walls g3_ways g3_wallCount g3_texts f4 f5 f6 u2 u3)) [0, 1, 6, 2, 3, 4, 5] (by decide) rfl
  generalize H1 = H at hP hS ⊢
  refine lv_iload hx hb dX9_fewestCorners_26 (lv_at hl 0 rfl) ?_
  refine lv_iconst (v := 1) hx hb dX9_fewestCorners_28 (by decide) ?_
  refine lv_isub hx hb dX9_fewestCorners_29 ?_
  refine lv_topi (fun v4 ev4 => ?_)
  have hw := hw v4 ev4
  refine lv_istore (lv' := [(5, .int v4), (4, .int v1), (0, .ref a0), (1, .ref a3), (2, .int p1), (3, .int p2)]) hx hb dX9_fewestCorners_30 hl (by decide) rfl (fun ls hl => ?_)
  obtain ⟨nn, hw⟩ := hw
  exact bX9_fewestCorners_32 C0 hK hN hA hQ nn u2 u3 p1 p2 v1 v4 hw _ _ hP hD hS ls (lv_sub hl [2, 3, 4, 5, 1, 0] rfl)
