/-! LeadPark$Law.copyFrom (LLeadPark$Law;)V -/
abbrev ceX2_copyFrom (cyI cyB cyJ cyZ : ClassId) (a0 a1 a2 a3 b0_seen b2_seen : Nat) (g2_size : Int32) (g2_lines : Int32) (f3 : Nat → Int32) (g0_size : Int32) (g0_lines : Int32) (f1 : Nat → Int32) : va_W := [(a0, .inr (2, [.ref a1, .ref b0_seen, .int g0_size, .int g0_lines])), (a1, .inl (cyI, 400, .inl f1)), (a2, .inr (2, [.ref a3, .ref b2_seen, .int g2_size, .int g2_lines])), (a3, .inl (cyI, 400, .inl f3))]

theorem inX2_copyFrom_X2 : ∀ w ∈ wsX20, w ∈ wsX2_copyFrom := fun _ h => List.mem_cons_of_mem _ (List.mem_append_right _ h)
abbrev rmX2_copyFrom : Room := { frames := 1, cells := 0, slots := 0, locals := 64 }
set_option maxRecDepth 100000 in
set_option maxHeartbeats 4000000 in
theorem ctX2_copyFrom (l : Launch) (dC : Nat → ClassId) (dI : Nat → Nat → Nat) (cyI cyB cyJ cyZ : ClassId) (sz : Nat) (a0 a1 a2 a3 b0_seen b2_seen : Nat) (g2_size : Int32) (g2_lines : Int32) (f3 : Nat → Int32) (g0_size : Int32) (g0_lines : Int32) (f1 : Nat → Int32) (post : (Int32 × Int32 × (Nat → Int32)) → Prop) (hw : wpX2_copyFrom post g2_size g2_lines f3 g0_size g0_lines f1 ) : Met l yX2_copyFrom wsX2_copyFrom rmX2_copyFrom (va_Pc [.ref a0, .ref a2] (wPre dC dI cyI cyB cyJ cyZ sz (ceX2_copyFrom cyI cyB cyJ cyZ a0 a1 a2 a3 b0_seen b2_seen g2_size g2_lines f3 g0_size g0_lines f1))) (va_Qv post (fun u : Int32 × Int32 × (Nat → Int32) => wAt dC dI cyI cyB cyJ cyZ (va_A (ceX2_copyFrom cyI cyB cyJ cyZ a0 a1 a2 a3 b0_seen b2_seen g2_size g2_lines f3 g0_size g0_lines f1) sz) (ceX2_copyFrom cyI cyB cyJ cyZ a0 a1 a2 a3 b0_seen b2_seen g2_size g2_lines f3 u.1 u.2.1 u.2.2)) (va_A (ceX2_copyFrom cyI cyB cyJ cyZ a0 a1 a2 a3 b0_seen b2_seen g2_size g2_lines f3 g0_size g0_lines f1) sz)) 0 0 (va_A (ceX2_copyFrom cyI cyB cyJ cyZ a0 a1 a2 a3 b0_seen b2_seen g2_size g2_lines f3 g0_size g0_lines f1) sz) := by
  refine Met.ofW (cc := cX2_copyFrom) (maxL := 2) (ret := none) (by decide) rfl ?_
  intro p e s m args below meth c s₁ B hml hv
  obtain ⟨rfl, hsz, hP, hK, hD0, hN⟩ := hv
  have hx := B.exec
  have hb := B.bytes
  have hr := B.returns
  have hts := atoms_spec (ws := wsX2_copyFrom) B.pre
  have hown : s.vm.findClass RX2 = some m.cls := findClass_of_methodNamed B.named
  have hlocks := B.notSynchronized
  subst hsz
  have hD := hD0.self (sz := s.heap.size)
  generalize hAe : va_A (ceX2_copyFrom cyI cyB cyJ cyZ a0 a1 a2 a3 b0_seen b2_seen g2_size g2_lines f3 g0_size g0_lines f1) s.heap.size = A at hD ⊢
  have hA : ∀ q : Nat, s.heap.size ≤ q → A q := fun q h => by rw [← hAe]; exact Or.inr h
  have hS : va_S A s.heap s.heap [] := va_S.rf
  have C0 : cxM p s m meth c _ wsX2_copyFrom RX2 cX2_copyFrom 2 none := ⟨hx, hb, hr, hml, hown, hts, hlocks⟩
  have hl := lv_entry ([.ref a0, .ref a2]) (n := 2) (Nat.le_of_ble_eq_true rfl)
  rw [lg_entry_eq]
  generalize (lg_sl ([.ref a0, .ref a2]) ++ List.replicate (2 - (lg_sl ([.ref a0, .ref a2])).length) Slot.unset).toArray = ls at hl ⊢
  have hl : lv_has ls 2 [(0, .ref a0), (1, .ref a2)] := hl
  show W p l e rmX2_copyFrom s m _ below meth c _ _ _ _ _ _
  refine wq (fun Q hQ => ?_)
  refine lv_aload_n hx hb dX2_copyFrom_0 rfl (lv_at hl 1 rfl) ?_
  refine va_get (D := (dC, dI)) (ci := 2) (v := .ref a3) (C := RX2) (T := TX2) (N := 4) hx hb hts inX2_copyFrom_X2 hown hK hP 2 rfl rfl 0 (by decide) (hts (.fieldLink RX2 11 "LeadPark$Law" "orders" "[I") (List.mem_of_getElem? (i := 1) rfl)) (fun _ h9 => h9) rfl dX2_copyFrom_1 ?_
  refine lv_iconst (v := 0) hx hb dX2_copyFrom_4 (by decide) ?_
  refine lv_aload_n hx hb dX2_copyFrom_5 rfl (lv_at hl 0 rfl) ?_
  refine va_get (D := (dC, dI)) (ci := 2) (v := .ref a1) (C := RX2) (T := TX2) (N := 4) hx hb hts inX2_copyFrom_X2 hown hK hP 0 rfl rfl 0 (by decide) (hts (.fieldLink RX2 11 "LeadPark$Law" "orders" "[I") (List.mem_of_getElem? (i := 1) rfl)) (fun _ h9 => h9) rfl dX2_copyFrom_6 ?_
  refine lv_iconst (v := 0) hx hb dX2_copyFrom_9 (by decide) ?_
  refine lv_aload_n hx hb dX2_copyFrom_10 rfl (lv_at hl 0 rfl) ?_
  refine va_get (D := (dC, dI)) (ci := 2) (v := .ref a1) (C := RX2) (T := TX2) (N := 4) hx hb hts inX2_copyFrom_X2 hown hK hP 0 rfl rfl 0 (by decide) (hts (.fieldLink RX2 11 "LeadPark$Law" "orders" "[I") (List.mem_of_getElem? (i := 1) rfl)) (fun _ h9 => h9) rfl dX2_copyFrom_11 ?_
  refine va_alen (v := 400) hx hb hK hP 1 0 rfl rfl rfl dX2_copyFrom_14 ?_
  refine va_copyi (ty := .int) hx hb (hml.trans hl.1.symm) hown (hts (.methodLink RX2 25 arraycopyName) (List.mem_of_getElem? (i := 2) rfl)) (hts (.native arraycopyName) (List.mem_of_getElem? (i := 3) rfl)) (hts (.static arraycopyName) (List.mem_of_getElem? (i := 4) rfl)) (hts (.initialized "java/lang/System") (List.mem_of_getElem? (i := 5) rfl)) hK hP hD hS 3 1 0 0 rfl rfl rfl rfl rfl (by decide) (by decide) (by decide) (by decide) (by decide) (fun _ _ => rfl) (Nat.le_of_ble_eq_true rfl) (Nat.le_of_ble_eq_true rfl) dX2_copyFrom_15 (fun H locs hP hD hS => ?_)
  have hP : va_P (dC, dI) vwCl (ceX2_copyFrom cyI cyB cyJ cyZ a0 a1 a2 a3 b0_seen b2_seen g2_size g2_lines f3 g0_size g0_lines (va_cpy f3 f1 (0 : Int32).toNatClampNeg (0 : Int32).toNatClampNeg (400 : Int32).toNatClampNeg)) H := hP
  have hD : va_D A (ceX2_copyFrom cyI cyB cyJ cyZ a0 a1 a2 a3 b0_seen b2_seen g2_size g2_lines f3 g0_size g0_lines (va_cpy f3 f1 (0 : Int32).toNatClampNeg (0 : Int32).toNatClampNeg (400 : Int32).toNatClampNeg)) := hD
  refine lv_aload_n hx hb dX2_copyFrom_18 rfl (lv_at hl 0 rfl) ?_
  refine lv_aload_n hx hb dX2_copyFrom_19 rfl (lv_at hl 1 rfl) ?_
  refine va_get (D := (dC, dI)) (ci := 2) (v := .int g2_size) (C := RX2) (T := TX2) (N := 4) hx hb hts inX2_copyFrom_X2 hown hK hP 2 rfl rfl 2 (by decide) (hts (.fieldLink RX2 18 "LeadPark$Law" "size" "I") (List.mem_of_getElem? (i := 6) rfl)) (fun _ h9 => h9) rfl dX2_copyFrom_20 ?_
  refine va_put (D := (dC, dI)) (ci := 2) (v := .int g2_size) (ty := .int) (C := RX2) (T := TX2) (N := 4) hx hb hts inX2_copyFrom_X2 tyX2 tyX2_ok nmX2 hown hK hP hD hS 0 rfl rfl 2 (by decide) (hts (.fieldLink RX2 18 "LeadPark$Law" "size" "I") (List.mem_of_getElem? (i := 6) rfl)) (fun _ h9 => h9) rfl (by decide +kernel) rfl rfl (Nat.le_of_ble_eq_true rfl) dX2_copyFrom_23 (fun H locs hP hD hS => ?_)
  have hP : va_P (dC, dI) vwCl (ceX2_copyFrom cyI cyB cyJ cyZ a0 a1 a2 a3 b0_seen b2_seen g2_size g2_lines f3 g2_size g0_lines (va_cpy f3 f1 (0 : Int32).toNatClampNeg (0 : Int32).toNatClampNeg (400 : Int32).toNatClampNeg)) H := hP
  have hD : va_D A (ceX2_copyFrom cyI cyB cyJ cyZ a0 a1 a2 a3 b0_seen b2_seen g2_size g2_lines f3 g2_size g0_lines (va_cpy f3 f1 (0 : Int32).toNatClampNeg (0 : Int32).toNatClampNeg (400 : Int32).toNatClampNeg)) := hD
  refine lv_aload_n hx hb dX2_copyFrom_26 rfl (lv_at hl 0 rfl) ?_
  refine lv_aload_n hx hb dX2_copyFrom_27 rfl (lv_at hl 1 rfl) ?_
  refine va_get (D := (dC, dI)) (ci := 2) (v := .int g2_lines) (C := RX2) (T := TX2) (N := 4) hx hb hts inX2_copyFrom_X2 hown hK hP 2 rfl rfl 3 (by decide) (hts (.fieldLink RX2 22 "LeadPark$Law" "lines" "I") (List.mem_of_getElem? (i := 7) rfl)) (fun _ h9 => h9) rfl dX2_copyFrom_28 ?_
  refine va_put (D := (dC, dI)) (ci := 2) (v := .int g2_lines) (ty := .int) (C := RX2) (T := TX2) (N := 4) hx hb hts inX2_copyFrom_X2 tyX2 tyX2_ok nmX2 hown hK hP hD hS 0 rfl rfl 3 (by decide) (hts (.fieldLink RX2 22 "LeadPark$Law" "lines" "I") (List.mem_of_getElem? (i := 7) rfl)) (fun _ h9 => h9) rfl (by decide +kernel) rfl rfl (Nat.le_of_ble_eq_true rfl) dX2_copyFrom_31 (fun H locs hP hD hS => ?_)
  have hP : va_P (dC, dI) vwCl (ceX2_copyFrom cyI cyB cyJ cyZ a0 a1 a2 a3 b0_seen b2_seen g2_size g2_lines f3 g2_size g2_lines (va_cpy f3 f1 (0 : Int32).toNatClampNeg (0 : Int32).toNatClampNeg (400 : Int32).toNatClampNeg)) H := hP
  have hD : va_D A (ceX2_copyFrom cyI cyB cyJ cyZ a0 a1 a2 a3 b0_seen b2_seen g2_size g2_lines f3 g2_size g2_lines (va_cpy f3 f1 (0 : Int32).toNatClampNeg (0 : Int32).toNatClampNeg (400 : Int32).toNatClampNeg)) := hD
  rw [hQ]
  exact W.vret hx hb hr (fun t ht hW => ⟨⟨(g2_size, g2_lines, (va_cpy f3 f1 (0 : Int32).toNatClampNeg (0 : Int32).toNatClampNeg (400 : Int32).toNatClampNeg)), rfl, hw, by rw [ht]; exact hP, va_K.moved hW.alike hK, hD⟩, hS.F ht⟩) hS.2.2 dX2_copyFrom_34
/-! LeadPark$Law.someLineHolds ()Z -/
abbrev ceX2_someLineHolds (cyI cyB cyJ cyZ : ClassId) (a0 a1 a2 : Nat) (g0_lines : Int32) (g0_size : Int32) (f1 : Nat → Int32) (f2 : Nat → Int32) : va_W := [(a0, .inr (2, [.ref a1, .ref a2, .int g0_size, .int g0_lines])), (a1, .inl (cyI, 400, .inl f1)), (a2, .inl (cyI, 7, .inl f2))]

theorem inX2_someLineHolds_X2 : ∀ w ∈ wsX20, w ∈ wsX2_someLineHolds := fun _ h => List.mem_cons_of_mem _ (List.mem_append_right _ h)
abbrev rmX2_someLineHolds : Room := { frames := 0, cells := 0, slots := 0, locals := 0 }
set_option maxRecDepth 100000 in
set_option maxHeartbeats 4000000 in
theorem bX2_someLineHolds_201 {p : Program} {l : Launch} {e : Env} {s : State} {m : MethodId} {args : Array Value} {below : List Frame} {meth : Method} {c : Code} {dC : Nat → ClassId} {dI : Nat → Nat → Nat} {cyI cyB cyJ cyZ : ClassId} {A : Nat → Prop} {a0 a1 a2 : Nat} {g0_lines : Int32} (C0 : cxM p s m meth c args wsX2_someLineHolds RX2 cX2_someLineHolds 6 (some .boolean)) (hK : va_K (dC, dI) vwCl (tyA cyI cyB cyJ cyZ) s) (hN : nwA s) (hA : ∀ q : Nat, s.heap.size ≤ q → A q) {post : Int32 → Unit → Prop} {g0_size : Int32} {f1 : Nat → Int32} {f2 : Nat → Int32} {k9 : Int32 → Int32 → Int32 → Int32 → Prop} {Q : State → Prop} (hQ : Q = MQ below (va_Qi post (fun u : Unit => wAt dC dI cyI cyB cyJ cyZ A (ceX2_someLineHolds cyI cyB cyJ cyZ a0 a1 a2 g0_lines g0_size f1 f2)) A) args s 0 0 A) (hk9 : ∀ (x1 : Int32) (x2 : Int32) (x3 : Int32) (x4 : Int32), k9 x1 x2 x3 x4 → AtW p l e rmX2_someLineHolds s m args below meth c dC dI A Q 6 0 0 (ceX2_someLineHolds cyI cyB cyJ cyZ a0 a1 a2 g0_lines g0_size f1 f2) [(0, .ref a0), (1, .int x1), (2, .int x2), (3, .int x3), (4, .int x4)] 9 []) : ∀ (x1 : Int32) (x2 : Int32) (x3 : Int32) (x4 : Int32), wpX2_someLineHolds_201 k9 post g0_size f1 f2 x1 x2 x3 x4 → AtW p l e rmX2_someLineHolds s m args below meth c dC dI A Q 6 0 0 (ceX2_someLineHolds cyI cyB cyJ cyZ a0 a1 a2 g0_lines g0_size f1 f2) [(0, .ref a0), (1, .int x1), (2, .int x2), (3, .int x3), (4, .int x4)] 201 [] := by
  intro x1 x2 x3 x4 hw H locs hP hD hS ls hl
  have C1 := C0
  obtain ⟨hx, hb, hr, hml, hown, hts, hlocks⟩ := C1
  obtain ⟨v1, ev1⟩ : ∃ y : Int32, y = x4 + 1 := ⟨_, rfl⟩
  have hw := hw v1 ev1
  refine lv_iinc (v := v1) (lv' := [(4, .int v1), (0, .ref a0), (1, .int x1), (2, .int x2), (3, .int x3)]) hx hb dX2_someLineHolds_201 hl (k := 4) rfl (by rw [ev1]; rfl) (by decide) rfl (fun ls hl => ?_)
  refine lv_goto (tgt := 9) hx hb dX2_someLineHolds_204 (by decide) ?_
  exact hk9 x1 x2 x3 v1 hw H locs hP hD hS ls (lv_sub hl [1, 2, 3, 4, 0] rfl)
set_option maxRecDepth 100000 in
set_option maxHeartbeats 4000000 in
theorem bX2_someLineHolds_148 {p : Program} {l : Launch} {e : Env} {s : State} {m : MethodId} {args : Array Value} {below : List Frame} {meth : Method} {c : Code} {dC : Nat → ClassId} {dI : Nat → Nat → Nat} {cyI cyB cyJ cyZ : ClassId} {A : Nat → Prop} {a0 a1 a2 : Nat} {g0_lines : Int32} (C0 : cxM p s m meth c args wsX2_someLineHolds RX2 cX2_someLineHolds 6 (some .boolean)) (hK : va_K (dC, dI) vwCl (tyA cyI cyB cyJ cyZ) s) (hN : nwA s) (hA : ∀ q : Nat, s.heap.size ≤ q → A q) {post : Int32 → Unit → Prop} {g0_size : Int32} {f1 : Nat → Int32} {f2 : Nat → Int32} {k9 : Int32 → Int32 → Int32 → Int32 → Prop} {Q : State → Prop} (hQ : Q = MQ below (va_Qi post (fun u : Unit => wAt dC dI cyI cyB cyJ cyZ A (ceX2_someLineHolds cyI cyB cyJ cyZ a0 a1 a2 g0_lines g0_size f1 f2)) A) args s 0 0 A) (hk9 : ∀ (x1 : Int32) (x2 : Int32) (x3 : Int32) (x4 : Int32), k9 x1 x2 x3 x4 → AtW p l e rmX2_someLineHolds s m args below meth c dC dI A Q 6 0 0 (ceX2_someLineHolds cyI cyB cyJ cyZ a0 a1 a2 g0_lines g0_size f1 f2) [(0, .ref a0), (1, .int x1), (2, .int x2), (3, .int x3), (4, .int x4)] 9 []) : ∀ (x2 : Int32) (x4 : Int32) (s0 : Int32) (s1 : Int32), wpX2_someLineHolds_148 k9 post g0_size f1 f2 x2 x4 s0 s1 → AtW p l e rmX2_someLineHolds s m args below meth c dC dI A Q 6 0 0 (ceX2_someLineHolds cyI cyB cyJ cyZ a0 a1 a2 g0_lines g0_size f1 f2) [(0, .ref a0), (2, .int x2), (4, .int x4)] 148 [.int s1, .int s0] := by
  intro x2 x4 s0 s1 hw H locs hP hD hS ls hl
  have C1 := C0
  obtain ⟨hx, hb, hr, hml, hown, hts, hlocks⟩ := C1
  refine lv_ior hx hb dX2_someLineHolds_148 ?_
  refine lv_topi (fun v1 ev1 => ?_)
  have hw := hw v1 ev1
  refine lv_istore_n (lv' := [(3, .int v1), (0, .ref a0), (2, .int x2), (4, .int x4)]) hx hb dX2_someLineHolds_149 rfl hl (by decide) rfl (fun ls hl => ?_)
  refine lv_iconst (v := 0) hx hb dX2_someLineHolds_150 (by decide) ?_
  refine lv_istore_n (lv' := [(1, .int 0), (3, .int v1), (0, .ref a0), (2, .int x2), (4, .int x4)]) hx hb dX2_someLineHolds_151 rfl hl (by decide) rfl (fun ls hl => ?_)
  refine lv_goto (tgt := 201) hx hb dX2_someLineHolds_152 (by decide) ?_
  exact bX2_someLineHolds_201 C0 hK hN hA hQ hk9 0 x2 v1 x4 hw _ _ hP hD hS ls (lv_sub hl [2, 0, 3, 1, 4] rfl)
set_option maxRecDepth 100000 in
set_option maxHeartbeats 4000000 in
theorem bX2_someLineHolds_128 {p : Program} {l : Launch} {e : Env} {s : State} {m : MethodId} {args : Array Value} {below : List Frame} {meth : Method} {c : Code} {dC : Nat → ClassId} {dI : Nat → Nat → Nat} {cyI cyB cyJ cyZ : ClassId} {A : Nat → Prop} {a0 a1 a2 : Nat} {g0_lines : Int32} (C0 : cxM p s m meth c args wsX2_someLineHolds RX2 cX2_someLineHolds 6 (some .boolean)) (hK : va_K (dC, dI) vwCl (tyA cyI cyB cyJ cyZ) s) (hN : nwA s) (hA : ∀ q : Nat, s.heap.size ≤ q → A q) {post : Int32 → Unit → Prop} {g0_size : Int32} {f1 : Nat → Int32} {f2 : Nat → Int32} {k9 : Int32 → Int32 → Int32 → Int32 → Prop} {Q : State → Prop} (hQ : Q = MQ below (va_Qi post (fun u : Unit => wAt dC dI cyI cyB cyJ cyZ A (ceX2_someLineHolds cyI cyB cyJ cyZ a0 a1 a2 g0_lines g0_size f1 f2)) A) args s 0 0 A) (hk9 : ∀ (x1 : Int32) (x2 : Int32) (x3 : Int32) (x4 : Int32), k9 x1 x2 x3 x4 → AtW p l e rmX2_someLineHolds s m args below meth c dC dI A Q 6 0 0 (ceX2_someLineHolds cyI cyB cyJ cyZ a0 a1 a2 g0_lines g0_size f1 f2) [(0, .ref a0), (1, .int x1), (2, .int x2), (3, .int x3), (4, .int x4)] 9 []) : ∀ (x2 : Int32) (x4 : Int32) (s0 : Int32) (s1 : Int32), wpX2_someLineHolds_128 k9 post g0_size f1 f2 x2 x4 s0 s1 → AtW p l e rmX2_someLineHolds s m args below meth c dC dI A Q 6 0 0 (ceX2_someLineHolds cyI cyB cyJ cyZ a0 a1 a2 g0_lines g0_size f1 f2) [(0, .ref a0), (2, .int x2), (4, .int x4)] 128 [.int s1, .int s0] := by
  intro x2 x4 s0 s1 hw H locs hP hD hS ls hl
  have C1 := C0
  obtain ⟨hx, hb, hr, hml, hown, hts, hlocks⟩ := C1
  refine lv_ior hx hb dX2_someLineHolds_128 ?_
  refine lv_topi (fun v1 ev1 => ?_)
  have hw := hw v1 ev1
  refine lv_istore_n (lv' := [(3, .int v1), (0, .ref a0), (2, .int x2), (4, .int x4)]) hx hb dX2_someLineHolds_129 rfl hl (by decide) rfl (fun ls hl => ?_)
  refine lv_iconst (v := 0) hx hb dX2_someLineHolds_130 (by decide) ?_
  refine lv_istore_n (lv' := [(1, .int 0), (3, .int v1), (0, .ref a0), (2, .int x2), (4, .int x4)]) hx hb dX2_someLineHolds_131 rfl hl (by decide) rfl (fun ls hl => ?_)
  refine lv_goto (tgt := 201) hx hb dX2_someLineHolds_132 (by decide) ?_
  exact bX2_someLineHolds_201 C0 hK hN hA hQ hk9 0 x2 v1 x4 hw _ _ hP hD hS ls (lv_sub hl [2, 0, 3, 1, 4] rfl)
set_option maxRecDepth 100000 in
set_option maxHeartbeats 4000000 in
theorem bX2_someLineHolds_9 {p : Program} {l : Launch} {e : Env} {s : State} {m : MethodId} {args : Array Value} {below : List Frame} {meth : Method} {c : Code} {dC : Nat → ClassId} {dI : Nat → Nat → Nat} {cyI cyB cyJ cyZ : ClassId} {A : Nat → Prop} {a0 a1 a2 : Nat} {g0_lines : Int32} (C0 : cxM p s m meth c args wsX2_someLineHolds RX2 cX2_someLineHolds 6 (some .boolean)) (hK : va_K (dC, dI) vwCl (tyA cyI cyB cyJ cyZ) s) (hN : nwA s) (hA : ∀ q : Nat, s.heap.size ≤ q → A q) {post : Int32 → Unit → Prop} {g0_size : Int32} {f1 : Nat → Int32} {f2 : Nat → Int32} {Q : State → Prop} (hQ : Q = MQ below (va_Qi post (fun u : Unit => wAt dC dI cyI cyB cyJ cyZ A (ceX2_someLineHolds cyI cyB cyJ cyZ a0 a1 a2 g0_lines g0_size f1 f2)) A) args s 0 0 A) : ∀ (n : Nat) (x1 : Int32) (x2 : Int32) (x3 : Int32) (x4 : Int32), wpX2_someLineHolds_9 post g0_size f1 f2 n x1 x2 x3 x4 → AtW p l e rmX2_someLineHolds s m args below meth c dC dI A Q 6 0 0 (ceX2_someLineHolds cyI cyB cyJ cyZ a0 a1 a2 g0_lines g0_size f1 f2) [(0, .ref a0), (1, .int x1), (2, .int x2), (3, .int x3), (4, .int x4)] 9 [] := by
  intro n
  induction n with
  | zero => intro x1 x2 x3 x4 hw; exact False.elim hw
  | succ n ih =>
    intro x1 x2 x3 x4 hw H locs hP hD hS ls hl
    have C1 := C0
    obtain ⟨hx, hb, hr, hml, hown, hts, hlocks⟩ := C1
    refine lv_iload hx hb dX2_someLineHolds_9 (lv_at hl 4 rfl) ?_
    refine lv_aload_n hx hb dX2_someLineHolds_11 rfl (lv_at hl 0 rfl) ?_
    refine va_get (D := (dC, dI)) (ci := 2) (v := .int g0_size) (C := RX2) (T := TX2) (N := 4) hx hb hts inX2_someLineHolds_X2 hown hK hP 0 rfl rfl 2 (by decide) (hts (.fieldLink RX2 18 "LeadPark$Law" "size" "I") (List.mem_of_getElem? (i := 1) rfl)) (fun _ h9 => h9) rfl dX2_someLineHolds_12 ?_
    refine lv_icmp_ge (tgt := 207) hx hb dX2_someLineHolds_15 (by decide) (fun hc => ?_) (fun hc => ?_)
    · have hw := hw.1 hc
      refine lv_iconst (v := 0) hx hb dX2_someLineHolds_207 (by decide) ?_
      rw [hQ]
      exact W.zret (v := 0) (ty := .boolean) hx hb hr rfl (fun t ht hW => ⟨⟨0, (), rfl, hw, by rw [ht]; exact hP, va_K.moved hW.alike hK, hD⟩, hS.F ht⟩) hS.2.2 dX2_someLineHolds_208
    · have hw := hw.2 hc
      refine lv_aload_n hx hb dX2_someLineHolds_18 rfl (lv_at hl 0 rfl) ?_
      refine va_get (D := (dC, dI)) (ci := 2) (v := .ref a1) (C := RX2) (T := TX2) (N := 4) hx hb hts inX2_someLineHolds_X2 hown hK hP 0 rfl rfl 0 (by decide) (hts (.fieldLink RX2 11 "LeadPark$Law" "orders" "[I") (List.mem_of_getElem? (i := 2) rfl)) (fun _ h9 => h9) rfl dX2_someLineHolds_19 ?_
      refine lv_iload hx hb dX2_someLineHolds_22 (lv_at hl 4 rfl) ?_
      obtain ⟨hi, hw⟩ := hw
      refine va_iald hx hb hK hP 1 0 rfl rfl hi dX2_someLineHolds_24 ?_
      refine lv_topi (fun v1 ev1 => ?_)
      have hw := hw v1 ev1
      refine lv_istore (lv' := [(5, .int v1), (0, .ref a0), (1, .int x1), (2, .int x2), (3, .int x3), (4, .int x4)]) hx hb dX2_someLineHolds_25 hl (by decide) rfl (fun ls hl => ?_)
      refine lv_iload hx hb dX2_someLineHolds_27 (lv_at hl 0 rfl) ?_
      refine lv_if_lt (tgt := 40) hx hb dX2_someLineHolds_29 (by decide) (fun hc => ?_) (fun hc => ?_)
      · have hw := hw.1 hc
        refine lv_iload hx hb dX2_someLineHolds_40 (lv_at hl 0 rfl) ?_
        refine lv_bipush (v := (-7)) hx hb dX2_someLineHolds_42 (by decide) ?_
        refine lv_icmp_lt (tgt := 62) hx hb dX2_someLineHolds_44 (by decide) (fun hc => ?_) (fun hc => ?_)
        · have hw := hw.1 hc
          refine lv_iload hx hb dX2_someLineHolds_62 (lv_at hl 0 rfl) ?_
          by_cases hq0 : v1 = (-14) ∨ v1 = (-13) ∨ v1 = (-12) ∨ v1 = (-11) ∨ v1 = (-10) ∨ v1 = (-9) ∨ v1 = (-8)
          · rcases hq0 with hq | hq | hq | hq | hq | hq | hq
            · have hw := hw.1 hq
              refine lv_tableIn (tgt := 185) (off := 121) hx hb dX2_someLineHolds_64 (by rw [hq]; decide) (by rw [hq]; decide) (by rw [hq]; rfl) (by decide) ?_
              refine lv_iconst (v := 1) hx hb dX2_someLineHolds_185 (by decide) ?_
              refine lv_istore_n (lv' := [(3, .int 1), (5, .int v1), (0, .ref a0), (1, .int x1), (2, .int x2), (4, .int x4)]) hx hb dX2_someLineHolds_186 rfl hl (by decide) rfl (fun ls hl => ?_)
              refine lv_goto (tgt := 201) hx hb dX2_someLineHolds_187 (by decide) ?_
              exact bX2_someLineHolds_201 C0 hK hN hA hQ ih x1 x2 1 x4 hw _ _ hP hD hS ls (lv_sub hl [2, 3, 4, 0, 5] rfl)
            · have hw := hw.2.1 hq
              refine lv_tableIn (tgt := 174) (off := 110) hx hb dX2_someLineHolds_64 (by rw [hq]; decide) (by rw [hq]; decide) (by rw [hq]; rfl) (by decide) ?_
              refine lv_iload_n hx hb dX2_someLineHolds_174 rfl (lv_at hl 4 rfl) ?_
              refine lv_iconst (v := 1) hx hb dX2_someLineHolds_175 (by decide) ?_
              refine lv_ishr hx hb dX2_someLineHolds_176 ?_
              refine lv_iload_n hx hb dX2_someLineHolds_177 rfl (lv_at hl 4 rfl) ?_
              refine lv_iconst (v := 1) hx hb dX2_someLineHolds_178 (by decide) ?_
              refine lv_iand hx hb dX2_someLineHolds_179 ?_
              refine lv_ior hx hb dX2_someLineHolds_180 ?_
              refine lv_topi (fun v2 ev2 => ?_)
              have hw := hw v2 ev2
              refine lv_istore_n (lv' := [(3, .int v2), (5, .int v1), (0, .ref a0), (1, .int x1), (2, .int x2), (4, .int x4)]) hx hb dX2_someLineHolds_181 rfl hl (by decide) rfl (fun ls hl => ?_)
              refine lv_goto (tgt := 201) hx hb dX2_someLineHolds_182 (by decide) ?_
              exact bX2_someLineHolds_201 C0 hK hN hA hQ ih x1 x2 v2 x4 hw _ _ hP hD hS ls (lv_sub hl [2, 3, 4, 0, 5] rfl)
            · have hw := hw.2.2.1 hq
              refine lv_tableIn (tgt := 162) (off := 98) hx hb dX2_someLineHolds_64 (by rw [hq]; decide) (by rw [hq]; decide) (by rw [hq]; rfl) (by decide) ?_
              refine lv_iload_n hx hb dX2_someLineHolds_162 rfl (lv_at hl 4 rfl) ?_
              refine lv_iconst (v := 1) hx hb dX2_someLineHolds_163 (by decide) ?_
              refine lv_ishr hx hb dX2_someLineHolds_164 ?_
              refine lv_iload_n hx hb dX2_someLineHolds_165 rfl (lv_at hl 4 rfl) ?_
              refine lv_bipush (v := (-2)) hx hb dX2_someLineHolds_166 (by decide) ?_
              refine lv_ior hx hb dX2_someLineHolds_168 ?_
              refine lv_iand hx hb dX2_someLineHolds_169 ?_
              refine lv_topi (fun v3 ev3 => ?_)
              have hw := hw v3 ev3
              refine lv_istore_n (lv' := [(3, .int v3), (5, .int v1), (0, .ref a0), (1, .int x1), (2, .int x2), (4, .int x4)]) hx hb dX2_someLineHolds_170 rfl hl (by decide) rfl (fun ls hl => ?_)
              refine lv_goto (tgt := 201) hx hb dX2_someLineHolds_171 (by decide) ?_
              exact bX2_someLineHolds_201 C0 hK hN hA hQ ih x1 x2 v3 x4 hw _ _ hP hD hS ls (lv_sub hl [2, 3, 4, 0, 5] rfl)
            · have hw := hw.2.2.2.1 hq
              refine lv_tableIn (tgt := 155) (off := 91) hx hb dX2_someLineHolds_64 (by rw [hq]; decide) (by rw [hq]; decide) (by rw [hq]; rfl) (by decide) ?_
              refine lv_iload_n hx hb dX2_someLineHolds_155 rfl (lv_at hl 4 rfl) ?_
              refine lv_iconst (v := 1) hx hb dX2_someLineHolds_156 (by decide) ?_
              refine lv_ixor hx hb dX2_someLineHolds_157 ?_
              refine lv_topi (fun v4 ev4 => ?_)
              have hw := hw v4 ev4
              refine lv_istore_n (lv' := [(3, .int v4), (5, .int v1), (0, .ref a0), (1, .int x1), (2, .int x2), (4, .int x4)]) hx hb dX2_someLineHolds_158 rfl hl (by decide) rfl (fun ls hl => ?_)
              refine lv_goto (tgt := 201) hx hb dX2_someLineHolds_159 (by decide) ?_
              exact bX2_someLineHolds_201 C0 hK hN hA hQ ih x1 x2 v4 x4 hw _ _ hP hD hS ls (lv_sub hl [2, 3, 4, 0, 5] rfl)
            · have hw := hw.2.2.2.2.1 hq
              refine lv_tableIn (tgt := 135) (off := 71) hx hb dX2_someLineHolds_64 (by rw [hq]; decide) (by rw [hq]; decide) (by rw [hq]; rfl) (by decide) ?_
              refine lv_iload_n hx hb dX2_someLineHolds_135 rfl (lv_at hl 4 rfl) ?_
              refine lv_iconst (v := 1) hx hb dX2_someLineHolds_136 (by decide) ?_
              refine lv_ishl hx hb dX2_someLineHolds_137 ?_
              refine lv_iload_n hx hb dX2_someLineHolds_138 rfl (lv_at hl 3 rfl) ?_
              refine lv_iload_n hx hb dX2_someLineHolds_139 rfl (lv_at hl 2 rfl) ?_
              refine lv_icmp_le (tgt := 147) hx hb dX2_someLineHolds_140 (by decide) (fun hc => ?_) (fun hc => ?_)
              · have hw := hw.1 hc
                refine lv_iconst (v := 0) hx hb dX2_someLineHolds_147 (by decide) ?_
                exact bX2_someLineHolds_148 C0 hK hN hA hQ ih x2 x4 (x3 <<< ((1 : Int32) &&& 31)) 0 hw _ _ hP hD hS ls (lv_sub hl [1, 3, 5] rfl)
              · have hw := hw.2 hc
                refine lv_iconst (v := 1) hx hb dX2_someLineHolds_143 (by decide) ?_
                refine lv_goto (tgt := 148) hx hb dX2_someLineHolds_144 (by decide) ?_
                exact bX2_someLineHolds_148 C0 hK hN hA hQ ih x2 x4 (x3 <<< ((1 : Int32) &&& 31)) 1 hw _ _ hP hD hS ls (lv_sub hl [1, 3, 5] rfl)
            · have hw := hw.2.2.2.2.2.1 hq
              refine lv_tableIn (tgt := 115) (off := 51) hx hb dX2_someLineHolds_64 (by rw [hq]; decide) (by rw [hq]; decide) (by rw [hq]; rfl) (by decide) ?_
              refine lv_iload_n hx hb dX2_someLineHolds_115 rfl (lv_at hl 4 rfl) ?_
              refine lv_iconst (v := 1) hx hb dX2_someLineHolds_116 (by decide) ?_
              refine lv_ishl hx hb dX2_someLineHolds_117 ?_
              refine lv_iload_n hx hb dX2_someLineHolds_118 rfl (lv_at hl 3 rfl) ?_
              refine lv_iload_n hx hb dX2_someLineHolds_119 rfl (lv_at hl 2 rfl) ?_
              refine lv_icmp_ge (tgt := 127) hx hb dX2_someLineHolds_120 (by decide) (fun hc => ?_) (fun hc => ?_)
              · have hw := hw.1 hc
                refine lv_iconst (v := 0) hx hb dX2_someLineHolds_127 (by decide) ?_
                exact bX2_someLineHolds_128 C0 hK hN hA hQ ih x2 x4 (x3 <<< ((1 : Int32) &&& 31)) 0 hw _ _ hP hD hS ls (lv_sub hl [1, 3, 5] rfl)
              · have hw := hw.2 hc
                refine lv_iconst (v := 1) hx hb dX2_someLineHolds_123 (by decide) ?_
                refine lv_goto (tgt := 128) hx hb dX2_someLineHolds_124 (by decide) ?_
                exact bX2_someLineHolds_128 C0 hK hN hA hQ ih x2 x4 (x3 <<< ((1 : Int32) &&& 31)) 1 hw _ _ hP hD hS ls (lv_sub hl [1, 3, 5] rfl)
            · have hw := hw.2.2.2.2.2.2.1 hq
              refine lv_tableIn (tgt := 108) (off := 44) hx hb dX2_someLineHolds_64 (by rw [hq]; decide) (by rw [hq]; decide) (by rw [hq]; rfl) (by decide) ?_
              refine lv_iload_n hx hb dX2_someLineHolds_108 rfl (lv_at hl 2 rfl) ?_
              refine lv_istore_n (lv' := [(2, .int x1), (5, .int v1), (0, .ref a0), (1, .int x1), (3, .int x3), (4, .int x4)]) hx hb dX2_someLineHolds_109 rfl hl (by decide) rfl (fun ls hl => ?_)
              refine lv_iconst (v := 0) hx hb dX2_someLineHolds_110 (by decide) ?_
              refine lv_istore_n (lv' := [(1, .int 0), (2, .int x1), (5, .int v1), (0, .ref a0), (3, .int x3), (4, .int x4)]) hx hb dX2_someLineHolds_111 rfl hl (by decide) rfl (fun ls hl => ?_)
              refine lv_goto (tgt := 201) hx hb dX2_someLineHolds_112 (by decide) ?_
              exact bX2_someLineHolds_201 C0 hK hN hA hQ ih 0 x1 x3 x4 hw _ _ hP hD hS ls (lv_sub hl [3, 0, 1, 4, 5] rfl)
          · have hw := hw.2.2.2.2.2.2.2 hq0
            refine lv_tableOut (tgt := 190) hx hb dX2_someLineHolds_64 (by simp only [not_or, ← Int32.toInt_inj] at hq0; simp at hq0; omega) (by decide) ?_
            refine lv_iload_n hx hb dX2_someLineHolds_190 rfl (lv_at hl 4 rfl) ?_
            refine lv_iconst (v := 1) hx hb dX2_someLineHolds_191 (by decide) ?_
            refine lv_iand hx hb dX2_someLineHolds_192 ?_
            refine lv_iconst (v := 1) hx hb dX2_someLineHolds_193 (by decide) ?_
            refine lv_icmp_ne (tgt := 199) hx hb dX2_someLineHolds_194 (by decide) (fun hc => ?_) (fun hc => ?_)
            · have hw := hw.1 hc
              refine lv_iconst (v := 0) hx hb dX2_someLineHolds_199 (by decide) ?_
              refine lv_istore_n (lv' := [(3, .int 0), (5, .int v1), (0, .ref a0), (1, .int x1), (2, .int x2), (4, .int x4)]) hx hb dX2_someLineHolds_200 rfl hl (by decide) rfl (fun ls hl => ?_)
              exact bX2_someLineHolds_201 C0 hK hN hA hQ ih x1 x2 0 x4 hw _ _ hP hD hS ls (lv_sub hl [2, 3, 4, 0, 5] rfl)
            · have hw := hw.2 hc
              refine lv_iconst (v := 1) hx hb dX2_someLineHolds_197 (by decide) ?_
              rw [hQ]
              exact W.zret (v := 1) (ty := .boolean) hx hb hr rfl (fun t ht hW => ⟨⟨1, (), rfl, hw, by rw [ht]; exact hP, va_K.moved hW.alike hK, hD⟩, hS.F ht⟩) hS.2.2 dX2_someLineHolds_198
        · have hw := hw.2 hc
          refine lv_iload_n hx hb dX2_someLineHolds_47 rfl (lv_at hl 2 rfl) ?_
          refine lv_aload_n hx hb dX2_someLineHolds_48 rfl (lv_at hl 1 rfl) ?_
          refine va_get (D := (dC, dI)) (ci := 2) (v := .ref a2) (C := RX2) (T := TX2) (N := 4) hx hb hts inX2_someLineHolds_X2 hown hK hP 0 rfl rfl 1 (by decide) (hts (.fieldLink RX2 15 "LeadPark$Law" "seen" "[I") (List.mem_of_getElem? (i := 3) rfl)) (fun _ h9 => h9) rfl dX2_someLineHolds_49 ?_
          refine lv_iconst (v := (-1)) hx hb dX2_someLineHolds_52 (by decide) ?_
          refine lv_iload hx hb dX2_someLineHolds_53 (lv_at hl 0 rfl) ?_
          refine lv_isub hx hb dX2_someLineHolds_55 ?_
          obtain ⟨hi, hw⟩ := hw
          refine va_iald hx hb hK hP 2 0 rfl rfl hi dX2_someLineHolds_56 ?_
          refine lv_iadd hx hb dX2_someLineHolds_57 ?_
          refine lv_topi (fun v5 ev5 => ?_)
          have hw := hw v5 ev5
          refine lv_istore_n (lv' := [(1, .int v5), (5, .int v1), (0, .ref a0), (2, .int x2), (3, .int x3), (4, .int x4)]) hx hb dX2_someLineHolds_58 rfl hl (by decide) rfl (fun ls hl => ?_)
          refine lv_goto (tgt := 201) hx hb dX2_someLineHolds_59 (by decide) ?_
          exact bX2_someLineHolds_201 C0 hK hN hA hQ ih v5 x2 x3 x4 hw _ _ hP hD hS ls (lv_sub hl [2, 0, 3, 4, 5] rfl)
      · have hw := hw.2 hc
        refine lv_iload_n hx hb dX2_someLineHolds_32 rfl (lv_at hl 2 rfl) ?_
        refine lv_iload hx hb dX2_someLineHolds_33 (lv_at hl 0 rfl) ?_
        refine lv_iadd hx hb dX2_someLineHolds_35 ?_
        refine lv_topi (fun v6 ev6 => ?_)
        have hw := hw v6 ev6
        refine lv_istore_n (lv' := [(1, .int v6), (5, .int v1), (0, .ref a0), (2, .int x2), (3, .int x3), (4, .int x4)]) hx hb dX2_someLineHolds_36 rfl hl (by decide) rfl (fun ls hl => ?_)
        refine lv_goto (tgt := 201) hx hb dX2_someLineHolds_37 (by decide) ?_
        exact bX2_someLineHolds_201 C0 hK hN hA hQ ih v6 x2 x3 x4 hw _ _ hP hD hS ls (lv_sub hl [2, 0, 3, 4, 5] rfl)
set_option maxRecDepth 100000 in
set_option maxHeartbeats 4000000 in
theorem ctX2_someLineHolds (l : Launch) (dC : Nat → ClassId) (dI : Nat → Nat → Nat) (cyI cyB cyJ cyZ : ClassId) (sz : Nat) (a0 a1 a2 : Nat) (g0_lines : Int32) (g0_size : Int32) (f1 : Nat → Int32) (f2 : Nat → Int32) (post : Int32 → Unit → Prop) (hw : wpX2_someLineHolds post g0_size f1 f2 ) : Met l yX2_someLineHolds wsX2_someLineHolds rmX2_someLineHolds (va_Pc [.ref a0] (wPre dC dI cyI cyB cyJ cyZ sz (ceX2_someLineHolds cyI cyB cyJ cyZ a0 a1 a2 g0_lines g0_size f1 f2))) (va_Qi post (fun u : Unit => wAt dC dI cyI cyB cyJ cyZ (va_A (ceX2_someLineHolds cyI cyB cyJ cyZ a0 a1 a2 g0_lines g0_size f1 f2) sz) (ceX2_someLineHolds cyI cyB cyJ cyZ a0 a1 a2 g0_lines g0_size f1 f2)) (va_A (ceX2_someLineHolds cyI cyB cyJ cyZ a0 a1 a2 g0_lines g0_size f1 f2) sz)) 0 0 (va_A (ceX2_someLineHolds cyI cyB cyJ cyZ a0 a1 a2 g0_lines g0_size f1 f2) sz) := by
  refine Met.ofW (cc := cX2_someLineHolds) (maxL := 6) (ret := (some .boolean)) (by decide) rfl ?_
  intro p e s m args below meth c s₁ B hml hv
  obtain ⟨rfl, hsz, hP, hK, hD0, hN⟩ := hv
  have hx := B.exec
  have hb := B.bytes
  have hr := B.returns
  have hts := atoms_spec (ws := wsX2_someLineHolds) B.pre
  have hown : s.vm.findClass RX2 = some m.cls := findClass_of_methodNamed B.named
  have hlocks := B.notSynchronized
  subst hsz
  have hD := hD0.self (sz := s.heap.size)
  generalize hAe : va_A (ceX2_someLineHolds cyI cyB cyJ cyZ a0 a1 a2 g0_lines g0_size f1 f2) s.heap.size = A at hD ⊢
  have hA : ∀ q : Nat, s.heap.size ≤ q → A q := fun q h => by rw [← hAe]; exact Or.inr h
  have hS : va_S A s.heap s.heap [] := va_S.rf
  have C0 : cxM p s m meth c _ wsX2_someLineHolds RX2 cX2_someLineHolds 6 (some .boolean) := ⟨hx, hb, hr, hml, hown, hts, hlocks⟩
  have hl := lv_entry ([.ref a0]) (n := 6) (Nat.le_of_ble_eq_true rfl)
  rw [lg_entry_eq]
  generalize (lg_sl ([.ref a0]) ++ List.replicate (6 - (lg_sl ([.ref a0])).length) Slot.unset).toArray = ls at hl ⊢
  have hl : lv_has ls 6 [(0, .ref a0)] := hl
  show W p l e rmX2_someLineHolds s m _ below meth c _ _ _ _ _ _
  refine wq (fun Q hQ => ?_)
  refine lv_iconst (v := 0) hx hb dX2_someLineHolds_0 (by decide) ?_
  refine lv_istore_n (lv' := [(1, .int 0), (0, .ref a0)]) hx hb dX2_someLineHolds_1 rfl hl (by decide) rfl (fun ls hl => ?_)
  refine lv_iconst (v := 0) hx hb dX2_someLineHolds_2 (by decide) ?_
  refine lv_istore_n (lv' := [(2, .int 0), (1, .int 0), (0, .ref a0)]) hx hb dX2_someLineHolds_3 rfl hl (by decide) rfl (fun ls hl => ?_)
  refine lv_iconst (v := 0) hx hb dX2_someLineHolds_4 (by decide) ?_
  refine lv_istore_n (lv' := [(3, .int 0), (2, .int 0), (1, .int 0), (0, .ref a0)]) hx hb dX2_someLineHolds_5 rfl hl (by decide) rfl (fun ls hl => ?_)
  refine lv_iconst (v := 0) hx hb dX2_someLineHolds_6 (by decide) ?_
  refine lv_istore (lv' := [(4, .int 0), (3, .int 0), (2, .int 0), (1, .int 0), (0, .ref a0)]) hx hb dX2_someLineHolds_7 hl (by decide) rfl (fun ls hl => ?_)
  obtain ⟨nn, hw⟩ := hw
  exact bX2_someLineHolds_9 C0 hK hN hA hQ nn 0 0 0 0 hw _ _ hP hD hS ls (lv_sub hl [4, 3, 2, 1, 0] rfl)
/-! LeadPark$Law.isBroken (LLeadPark$Ground;IIII)Z -/
abbrev ceX2_isBroken (cyI cyB cyJ cyZ : ClassId) (a0 a1 a2 a3 a4 a5 b3_counts b3_walls : Nat) (g0_lines : Int32) (g3_ways : Int32) (g3_wallCount : Int32) (g3_texts : Int32) (g0_size : Int32) (f2 : Nat → Int32) (f4 : Nat → Int32) (f5 : Nat → Int32) (f1 : Nat → Int32) : va_W := [(a0, .inr (2, [.ref a2, .ref a1, .int g0_size, .int g0_lines])), (a1, .inl (cyI, 7, .inl f1)), (a2, .inl (cyI, 400, .inl f2)), (a3, .inr (1, [.ref a4, .ref a5, .ref b3_counts, .ref b3_walls, .int g3_ways, .int g3_wallCount, .int g3_texts])), (a4, .inl (cyI, 360, .inl f4)), (a5, .inl (cyI, 360, .inl f5))]

theorem inX2_isBroken_X2 : ∀ w ∈ wsX20, w ∈ wsX2_isBroken := fun _ h => List.mem_cons_of_mem _ (List.mem_append_left _ (List.mem_append_right _ h))
abbrev rmX2_isBroken : Room := { frames := 1, cells := 0, slots := 0, locals := 28 }
set_option maxRecDepth 100000 in
set_option maxHeartbeats 4000000 in
theorem ctX2_isBroken (l : Launch) (dC : Nat → ClassId) (dI : Nat → Nat → Nat) (cyI cyB cyJ cyZ : ClassId) (sz : Nat) (a0 a1 a2 a3 a4 a5 b3_counts b3_walls : Nat) (g0_lines : Int32) (g3_ways : Int32) (g3_wallCount : Int32) (g3_texts : Int32) (g0_size : Int32) (f2 : Nat → Int32) (f4 : Nat → Int32) (f5 : Nat → Int32) (f1 : Nat → Int32) (p1 : Int32) (p2 : Int32) (p3 : Int32) (p4 : Int32) (post : Int32 → ((Nat → Int32)) → Prop) (hw : wpX2_isBroken post g0_size f2 f4 f5 f1 p1 p2 p3 p4) : Met l yX2_isBroken wsX2_isBroken rmX2_isBroken (va_Pc [.ref a0, .ref a3, .int p1, .int p2, .int p3, .int p4] (wPre dC dI cyI cyB cyJ cyZ sz (ceX2_isBroken cyI cyB cyJ cyZ a0 a1 a2 a3 a4 a5 b3_counts b3_walls g0_lines g3_ways g3_wallCount g3_texts g0_size f2 f4 f5 f1))) (va_Qi post (fun u : (Nat → Int32) => wAt dC dI cyI cyB cyJ cyZ (va_A (ceX2_isBroken cyI cyB cyJ cyZ a0 a1 a2 a3 a4 a5 b3_counts b3_walls g0_lines g3_ways g3_wallCount g3_texts g0_size f2 f4 f5 f1) sz) (ceX2_isBroken cyI cyB cyJ cyZ a0 a1 a2 a3 a4 a5 b3_counts b3_walls g0_lines g3_ways g3_wallCount g3_texts g0_size f2 f4 f5 u)) (va_A (ceX2_isBroken cyI cyB cyJ cyZ a0 a1 a2 a3 a4 a5 b3_counts b3_walls g0_lines g3_ways g3_wallCount g3_texts g0_size f2 f4 f5 f1) sz)) 0 0 (va_A (ceX2_isBroken cyI cyB cyJ cyZ a0 a1 a2 a3 a4 a5 b3_counts b3_walls g0_lines g3_ways g3_wallCount g3_texts g0_size f2 f4 f5 f1) sz) := by
  refine Met.ofW (cc := cX2_isBroken) (maxL := 6) (ret := (some .boolean)) (by decide) rfl ?_
  intro p e s m args below meth c s₁ B hml hv
  obtain ⟨rfl, hsz, hP, hK, hD0, hN⟩ := hv
  have hx := B.exec
  have hb := B.bytes
  have hr := B.returns
  have hts := atoms_spec (ws := wsX2_isBroken) B.pre
  have hown : s.vm.findClass RX2 = some m.cls := findClass_of_methodNamed B.named
  have hlocks := B.notSynchronized
  subst hsz
  have hD := hD0.self (sz := s.heap.size)
  generalize hAe : va_A (ceX2_isBroken cyI cyB cyJ cyZ a0 a1 a2 a3 a4 a5 b3_counts b3_walls g0_lines g3_ways g3_wallCount g3_texts g0_size f2 f4 f5 f1) s.heap.size = A at hD ⊢
  have hA : ∀ q : Nat, s.heap.size ≤ q → A q := fun q h => by rw [← hAe]; exact Or.inr h
  have hS : va_S A s.heap s.heap [] := va_S.rf
  have C0 : cxM p s m meth c _ wsX2_isBroken RX2 cX2_isBroken 6 (some .boolean) := ⟨hx, hb, hr, hml, hown, hts, hlocks⟩
  have hl := lv_entry ([.ref a0, .ref a3, .int p1, .int p2, .int p3, .int p4]) (n := 6) (Nat.le_of_ble_eq_true rfl)
  rw [lg_entry_eq]
  generalize (lg_sl ([.ref a0, .ref a3, .int p1, .int p2, .int p3, .int p4]) ++ List.replicate (6 - (lg_sl ([.ref a0, .ref a3, .int p1, .int p2, .int p3, .int p4])).length) Slot.unset).toArray = ls at hl ⊢
  have hl : lv_has ls 6 [(0, .ref a0), (1, .ref a3), (2, .int p1), (3, .int p2), (4, .int p3), (5, .int p4)] := hl
  show W p l e rmX2_isBroken s m _ below meth c _ _ _ _ _ _
  refine wq (fun Q hQ => ?_)
  refine lv_aload_n hx hb dX2_isBroken_0 rfl (lv_at hl 0 rfl) ?_
  refine va_get (D := (dC, dI)) (ci := 2) (v := .int g0_size) (C := RX2) (T := TX2) (N := 4) hx hb hts inX2_isBroken_X2 hown hK hP 0 rfl rfl 2 (by decide) (hts (.fieldLink RX2 18 "LeadPark$Law" "size" "I") (List.mem_of_getElem? (i := 1) rfl)) (fun _ h9 => h9) rfl dX2_isBroken_1 ?_
  refine lv_if_ne (tgt := 9) hx hb dX2_isBroken_4 (by decide) (fun hc => ?_) (fun hc => ?_)
  · have hw := hw.1 hc
    refine lv_aload_n hx hb dX2_isBroken_9 rfl (lv_at hl 0 rfl) ?_
    refine va_get (D := (dC, dI)) (ci := 2) (v := .ref a1) (C := RX2) (T := TX2) (N := 4) hx hb hts inX2_isBroken_X2 hown hK hP 0 rfl rfl 1 (by decide) (hts (.fieldLink RX2 15 "LeadPark$Law" "seen" "[I") (List.mem_of_getElem? (i := 2) rfl)) (fun _ h9 => h9) rfl dX2_isBroken_10 ?_
    refine lv_iconst (v := 0) hx hb dX2_isBroken_13 (by decide) ?_
    refine lv_iload_n hx hb dX2_isBroken_14 rfl (lv_at hl 3 rfl) ?_
    obtain ⟨hi, hw⟩ := hw
    refine va_iast hx hb hK hP hD hS 1 0 rfl rfl hi dX2_isBroken_15 (fun H locs hP hD hS => ?_)
    have hP : va_P (dC, dI) vwCl (ceX2_isBroken cyI cyB cyJ cyZ a0 a1 a2 a3 a4 a5 b3_counts b3_walls g0_lines g3_ways g3_wallCount g3_texts g0_size f2 f4 f5 (upd f1 (0 : Int32).toNatClampNeg p2)) H := hP
    have hD : va_D A (ceX2_isBroken cyI cyB cyJ cyZ a0 a1 a2 a3 a4 a5 b3_counts b3_walls g0_lines g3_ways g3_wallCount g3_texts g0_size f2 f4 f5 (upd f1 (0 : Int32).toNatClampNeg p2)) := hD
    refine lv_aload_n hx hb dX2_isBroken_16 rfl (lv_at hl 0 rfl) ?_
    refine va_get (D := (dC, dI)) (ci := 2) (v := .ref a1) (C := RX2) (T := TX2) (N := 4) hx hb hts inX2_isBroken_X2 hown hK hP 0 rfl rfl 1 (by decide) (hts (.fieldLink RX2 15 "LeadPark$Law" "seen" "[I") (List.mem_of_getElem? (i := 2) rfl)) (fun _ h9 => h9) rfl dX2_isBroken_17 ?_
    refine lv_iconst (v := 1) hx hb dX2_isBroken_20 (by decide) ?_
    refine lv_iload hx hb dX2_isBroken_21 (lv_at hl 5 rfl) ?_
    obtain ⟨hi, hw⟩ := hw
    refine va_iast hx hb hK hP hD hS 1 0 rfl rfl hi dX2_isBroken_23 (fun H locs hP hD hS => ?_)
    have hP : va_P (dC, dI) vwCl (ceX2_isBroken cyI cyB cyJ cyZ a0 a1 a2 a3 a4 a5 b3_counts b3_walls g0_lines g3_ways g3_wallCount g3_texts g0_size f2 f4 f5 (upd (upd f1 (0 : Int32).toNatClampNeg p2) (1 : Int32).toNatClampNeg p4)) H := hP
    have hD : va_D A (ceX2_isBroken cyI cyB cyJ cyZ a0 a1 a2 a3 a4 a5 b3_counts b3_walls g0_lines g3_ways g3_wallCount g3_texts g0_size f2 f4 f5 (upd (upd f1 (0 : Int32).toNatClampNeg p2) (1 : Int32).toNatClampNeg p4)) := hD
    refine lv_aload_n hx hb dX2_isBroken_24 rfl (lv_at hl 0 rfl) ?_
    refine va_get (D := (dC, dI)) (ci := 2) (v := .ref a1) (C := RX2) (T := TX2) (N := 4) hx hb hts inX2_isBroken_X2 hown hK hP 0 rfl rfl 1 (by decide) (hts (.fieldLink RX2 15 "LeadPark$Law" "seen" "[I") (List.mem_of_getElem? (i := 2) rfl)) (fun _ h9 => h9) rfl dX2_isBroken_25 ?_
    refine lv_iconst (v := 2) hx hb dX2_isBroken_28 (by decide) ?_
    refine lv_aload_n hx hb dX2_isBroken_29 rfl (lv_at hl 1 rfl) ?_
    refine lv_iload_n hx hb dX2_isBroken_30 rfl (lv_at hl 2 rfl) ?_
    refine lv_iload_n hx hb dX2_isBroken_31 rfl (lv_at hl 3 rfl) ?_
    refine lv_iload hx hb dX2_isBroken_32 (lv_at hl 4 rfl) ?_
    refine lv_iload hx hb dX2_isBroken_34 (lv_at hl 5 rfl) ?_
    have hPc := hP.sub (ws' := (ceX1_distance cyI cyB cyJ cyZ a3 a4 a5 b3_counts b3_walls g3_ways g3_wallCount g3_texts f4 f5)) [3, 4, 5] rfl
    have hDc := hD.sub (ws' := (ceX1_distance cyI cyB cyJ cyZ a3 a4 a5 b3_counts b3_walls g3_ways g3_wallCount g3_texts f4 f5)) [3, 4, 5] (by decide) rfl
    have hFc := va_free (wc := (ceX1_distance cyI cyB cyJ cyZ a3 a4 a5 b3_counts b3_walls g3_ways g3_wallCount g3_texts f4 f5)) hD hS hA [3, 4, 5] rfl
    refine va_calli (va_runV (As := [.int p1, .int p2, .int p3, .int p4]) (rest := [.int 2, .ref a1]) ⟨hx, hb, hml, hown, hts⟩ (ctX1_distance l dC dI cyI cyB cyJ cyZ _ a3 a4 a5 b3_counts b3_walls g3_ways g3_wallCount g3_texts f4 f5 p1 p2 p3 p4 _ hw) (cwV 4 hts gX2_isBroken_X1_distance rfl rfl rfl (by decide +kernel) ⟨Nat.le_of_ble_eq_true rfl, Nat.le_of_ble_eq_true rfl⟩) ⟨wPre_blind, va_recv hK hPc (ci := 1) (q0 := 0) rfl rfl, fun U hU hW => wPre_of hPc hK hDc hN hU hW⟩ rfl rfl hl.1 rfl (lv_room (Nat.le_of_ble_eq_true rfl)) dX2_isBroken_36 ⟨(Nat.zero_le _), (Nat.zero_le _)⟩) hS (fun q _ h => hFc q h) hFc (fun r2 u1 t H1 locs ht hvm hw hB hz1 hk1 hS => ?_)
    obtain ⟨hP1, hK1, hD1⟩ := hB
    rw [ht] at hP1
    obtain ⟨hP, hD⟩ := va_join (wr := pickW (ceX2_isBroken cyI cyB cyJ cyZ a0 a1 a2 a3 a4 a5 b3_counts b3_walls g0_lines g3_ways g3_wallCount g3_texts g0_size f2 f4 f5 (upd (upd f1 (0 : Int32).toNatClampNeg p2) (1 : Int32).toNatClampNeg p4)) [0, 1, 2]) (w1 := (ceX1_distance cyI cyB cyJ cyZ a3 a4 a5 b3_counts b3_walls g3_ways g3_wallCount g3_texts f4 f5)) hP hD [3, 4, 5] [0, 1, 2] rfl rfl (by decide) (by decide) hk1 hFc hP1 hD1
    have hP := hP.sub (ws' := (ceX2_isBroken cyI cyB cyJ cyZ a0 a1 a2 a3 a4 a5 b3_counts b3_walls g0_lines g3_ways g3_wallCount g3_texts g0_size f2 f4 f5 (upd (upd f1 (0 : Int32).toNatClampNeg p2) (1 : Int32).toNatClampNeg p4))) [0, 1, 2, 3, 4, 5] rfl
    have hD := hD.sub (ws' := (ceX2_isBroken cyI cyB cyJ cyZ a0 a1 a2 a3 a4 a5 b3_counts b3_walls g0_lines g3_ways g3_wallCount g3_texts g0_size f2 f4 f5 (upd (upd f1 (0 : Int32).toNatClampNeg p2) (1 : Int32).toNatClampNeg p4))) [0, 1, 2, 3, 4, 5] (by decide) rfl
    generalize H1 = H at hP hS ⊢
    obtain ⟨hi, hw⟩ := hw
    refine va_iast hx hb hK hP hD hS 1 0 rfl rfl hi dX2_isBroken_39 (fun H locs hP hD hS => ?_)
    have hP : va_P (dC, dI) vwCl (ceX2_isBroken cyI cyB cyJ cyZ a0 a1 a2 a3 a4 a5 b3_counts b3_walls g0_lines g3_ways g3_wallCount g3_texts g0_size f2 f4 f5 (upd (upd (upd f1 (0 : Int32).toNatClampNeg p2) (1 : Int32).toNatClampNeg p4) (2 : Int32).toNatClampNeg r2)) H := hP
    have hD : va_D A (ceX2_isBroken cyI cyB cyJ cyZ a0 a1 a2 a3 a4 a5 b3_counts b3_walls g0_lines g3_ways g3_wallCount g3_texts g0_size f2 f4 f5 (upd (upd (upd f1 (0 : Int32).toNatClampNeg p2) (1 : Int32).toNatClampNeg p4) (2 : Int32).toNatClampNeg r2)) := hD
    refine lv_aload_n hx hb dX2_isBroken_40 rfl (lv_at hl 0 rfl) ?_
    refine va_get (D := (dC, dI)) (ci := 2) (v := .ref a1) (C := RX2) (T := TX2) (N := 4) hx hb hts inX2_isBroken_X2 hown hK hP 0 rfl rfl 1 (by decide) (hts (.fieldLink RX2 15 "LeadPark$Law" "seen" "[I") (List.mem_of_getElem? (i := 2) rfl)) (fun _ h9 => h9) rfl dX2_isBroken_41 ?_
    refine lv_iconst (v := 3) hx hb dX2_isBroken_44 (by decide) ?_
    refine lv_aload_n hx hb dX2_isBroken_45 rfl (lv_at hl 1 rfl) ?_
    refine lv_iload_n hx hb dX2_isBroken_46 rfl (lv_at hl 2 rfl) ?_
    refine lv_iload_n hx hb dX2_isBroken_47 rfl (lv_at hl 3 rfl) ?_
    have hPc := hP.sub (ws' := (ceX1_xOf cyI cyB cyJ cyZ a3 a4 a5 b3_counts b3_walls g3_ways g3_wallCount g3_texts f4)) [3, 4] rfl
    have hDc := hD.sub (ws' := (ceX1_xOf cyI cyB cyJ cyZ a3 a4 a5 b3_counts b3_walls g3_ways g3_wallCount g3_texts f4)) [3, 4] (by decide) rfl
    have hFc := va_free (wc := (ceX1_xOf cyI cyB cyJ cyZ a3 a4 a5 b3_counts b3_walls g3_ways g3_wallCount g3_texts f4)) hD hS hA [3, 4] rfl
    refine va_calli (va_runV (As := [.int p1, .int p2]) (rest := [.int 3, .ref a1]) ⟨hx, hb, hml, hown, hts⟩ (ctX1_xOf l dC dI cyI cyB cyJ cyZ _ a3 a4 a5 b3_counts b3_walls g3_ways g3_wallCount g3_texts f4 p1 p2 _ hw) (cwV 2 hts gX2_isBroken_X1_xOf rfl rfl rfl (by decide +kernel) ⟨Nat.le_of_ble_eq_true rfl, Nat.le_of_ble_eq_true rfl⟩) ⟨wPre_blind, va_recv hK hPc (ci := 1) (q0 := 0) rfl rfl, fun U hU hW => wPre_of hPc hK hDc hN hU hW⟩ rfl rfl hl.1 rfl (lv_room (Nat.le_of_ble_eq_true rfl)) dX2_isBroken_48 ⟨(Nat.zero_le _), (Nat.zero_le _)⟩) hS (fun q _ h => hFc q h) hFc (fun r4 u3 t H1 locs ht hvm hw hB hz1 hk1 hS => ?_)
    obtain ⟨hP1, hK1, hD1⟩ := hB
    rw [ht] at hP1
    obtain ⟨hP, hD⟩ := va_join (wr := pickW (ceX2_isBroken cyI cyB cyJ cyZ a0 a1 a2 a3 a4 a5 b3_counts b3_walls g0_lines g3_ways g3_wallCount g3_texts g0_size f2 f4 f5 (upd (upd (upd f1 (0 : Int32).toNatClampNeg p2) (1 : Int32).toNatClampNeg p4) (2 : Int32).toNatClampNeg r2)) [0, 1, 2, 5]) (w1 := (ceX1_xOf cyI cyB cyJ cyZ a3 a4 a5 b3_counts b3_walls g3_ways g3_wallCount g3_texts f4)) hP hD [3, 4] [0, 1, 2, 5] rfl rfl (by decide) (by decide) hk1 hFc hP1 hD1
    have hP := hP.sub (ws' := (ceX2_isBroken cyI cyB cyJ cyZ a0 a1 a2 a3 a4 a5 b3_counts b3_walls g0_lines g3_ways g3_wallCount g3_texts g0_size f2 f4 f5 (upd (upd (upd f1 (0 : Int32).toNatClampNeg p2) (1 : Int32).toNatClampNeg p4) (2 : Int32).toNatClampNeg r2))) [0, 1, 2, 4, 5, 3] rfl
    have hD := hD.sub (ws' := (ceX2_isBroken cyI cyB cyJ cyZ a0 a1 a2 a3 a4 a5 b3_counts b3_walls g0_lines g3_ways g3_wallCount g3_texts g0_size f2 f4 f5 (upd (upd (upd f1 (0 : Int32).toNatClampNeg p2) (1 : Int32).toNatClampNeg p4) (2 : Int32).toNatClampNeg r2))) [0, 1, 2, 4, 5, 3] (by decide) rfl
    generalize H1 = H at hP hS ⊢
    obtain ⟨hi, hw⟩ := hw
    refine va_iast hx hb hK hP hD hS 1 0 rfl rfl hi dX2_isBroken_51 (fun H locs hP hD hS => ?_)
    have hP : va_P (dC, dI) vwCl (ceX2_isBroken cyI cyB cyJ cyZ a0 a1 a2 a3 a4 a5 b3_counts b3_walls g0_lines g3_ways g3_wallCount g3_texts g0_size f2 f4 f5 (upd (upd (upd (upd f1 (0 : Int32).toNatClampNeg p2) (1 : Int32).toNatClampNeg p4) (2 : Int32).toNatClampNeg r2) (3 : Int32).toNatClampNeg r4)) H := hP
    have hD : va_D A (ceX2_isBroken cyI cyB cyJ cyZ a0 a1 a2 a3 a4 a5 b3_counts b3_walls g0_lines g3_ways g3_wallCount g3_texts g0_size f2 f4 f5 (upd (upd (upd (upd f1 (0 : Int32).toNatClampNeg p2) (1 : Int32).toNatClampNeg p4) (2 : Int32).toNatClampNeg r2) (3 : Int32).toNatClampNeg r4)) := hD
    refine lv_aload_n hx hb dX2_isBroken_52 rfl (lv_at hl 0 rfl) ?_
    refine va_get (D := (dC, dI)) (ci := 2) (v := .ref a1) (C := RX2) (T := TX2) (N := 4) hx hb hts inX2_isBroken_X2 hown hK hP 0 rfl rfl 1 (by decide) (hts (.fieldLink RX2 15 "LeadPark$Law" "seen" "[I") (List.mem_of_getElem? (i := 2) rfl)) (fun _ h9 => h9) rfl dX2_isBroken_53 ?_
    refine lv_iconst (v := 4) hx hb dX2_isBroken_56 (by decide) ?_
    refine lv_aload_n hx hb dX2_isBroken_57 rfl (lv_at hl 1 rfl) ?_
    refine lv_iload_n hx hb dX2_isBroken_58 rfl (lv_at hl 2 rfl) ?_
    refine lv_iload_n hx hb dX2_isBroken_59 rfl (lv_at hl 3 rfl) ?_
    have hPc := hP.sub (ws' := (ceX1_yOf cyI cyB cyJ cyZ a3 a5 a4 b3_counts b3_walls g3_ways g3_wallCount g3_texts f5)) [3, 5] rfl
    have hDc := hD.sub (ws' := (ceX1_yOf cyI cyB cyJ cyZ a3 a5 a4 b3_counts b3_walls g3_ways g3_wallCount g3_texts f5)) [3, 5] (by decide) rfl
    have hFc := va_free (wc := (ceX1_yOf cyI cyB cyJ cyZ a3 a5 a4 b3_counts b3_walls g3_ways g3_wallCount g3_texts f5)) hD hS hA [3, 5] rfl
    refine va_calli (va_runV (As := [.int p1, .int p2]) (rest := [.int 4, .ref a1]) ⟨hx, hb, hml, hown, hts⟩ (ctX1_yOf l dC dI cyI cyB cyJ cyZ _ a3 a5 a4 b3_counts b3_walls g3_ways g3_wallCount g3_texts f5 p1 p2 _ hw) (cwV 2 hts gX2_isBroken_X1_yOf rfl rfl rfl (by decide +kernel) ⟨Nat.le_of_ble_eq_true rfl, Nat.le_of_ble_eq_true rfl⟩) ⟨wPre_blind, va_recv hK hPc (ci := 1) (q0 := 0) rfl rfl, fun U hU hW => wPre_of hPc hK hDc hN hU hW⟩ rfl rfl hl.1 rfl (lv_room (Nat.le_of_ble_eq_true rfl)) dX2_isBroken_60 ⟨(Nat.zero_le _), (Nat.zero_le _)⟩) hS (fun q _ h => hFc q h) hFc (fun r6 u5 t H1 locs ht hvm hw hB hz1 hk1 hS => ?_)
    obtain ⟨hP1, hK1, hD1⟩ := hB
    rw [ht] at hP1
    obtain ⟨hP, hD⟩ := va_join (wr := pickW (ceX2_isBroken cyI cyB cyJ cyZ a0 a1 a2 a3 a4 a5 b3_counts b3_walls g0_lines g3_ways g3_wallCount g3_texts g0_size f2 f4 f5 (upd (upd (upd (upd f1 (0 : Int32).toNatClampNeg p2) (1 : Int32).toNatClampNeg p4) (2 : Int32).toNatClampNeg r2) (3 : Int32).toNatClampNeg r4)) [0, 1, 2, 4]) (w1 := (ceX1_yOf cyI cyB cyJ cyZ a3 a5 a4 b3_counts b3_walls g3_ways g3_wallCount g3_texts f5)) hP hD [3, 5] [0, 1, 2, 4] rfl rfl (by decide) (by decide) hk1 hFc hP1 hD1
    have hP := hP.sub (ws' := (ceX2_isBroken cyI cyB cyJ cyZ a0 a1 a2 a3 a4 a5 b3_counts b3_walls g0_lines g3_ways g3_wallCount g3_texts g0_size f2 f4 f5 (upd (upd (upd (upd f1 (0 : Int32).toNatClampNeg p2) (1 : Int32).toNatClampNeg p4) (2 : Int32).toNatClampNeg r2) (3 : Int32).toNatClampNeg r4))) [0, 1, 2, 4, 3, 5] rfl
    have hD := hD.sub (ws' := (ceX2_isBroken cyI cyB cyJ cyZ a0 a1 a2 a3 a4 a5 b3_counts b3_walls g0_lines g3_ways g3_wallCount g3_texts g0_size f2 f4 f5 (upd (upd (upd (upd f1 (0 : Int32).toNatClampNeg p2) (1 : Int32).toNatClampNeg p4) (2 : Int32).toNatClampNeg r2) (3 : Int32).toNatClampNeg r4))) [0, 1, 2, 4, 3, 5] (by decide) rfl
    generalize H1 = H at hP hS ⊢
    obtain ⟨hi, hw⟩ := hw
    refine va_iast hx hb hK hP hD hS 1 0 rfl rfl hi dX2_isBroken_63 (fun H locs hP hD hS => ?_)
    have hP : va_P (dC, dI) vwCl (ceX2_isBroken cyI cyB cyJ cyZ a0 a1 a2 a3 a4 a5 b3_counts b3_walls g0_lines g3_ways g3_wallCount g3_texts g0_size f2 f4 f5 (upd (upd (upd (upd (upd f1 (0 : Int32).toNatClampNeg p2) (1 : Int32).toNatClampNeg p4) (2 : Int32).toNatClampNeg r2) (3 : Int32).toNatClampNeg r4) (4 : Int32).toNatClampNeg r6)) H := hP
    have hD : va_D A (ceX2_isBroken cyI cyB cyJ cyZ a0 a1 a2 a3 a4 a5 b3_counts b3_walls g0_lines g3_ways g3_wallCount g3_texts g0_size f2 f4 f5 (upd (upd (upd (upd (upd f1 (0 : Int32).toNatClampNeg p2) (1 : Int32).toNatClampNeg p4) (2 : Int32).toNatClampNeg r2) (3 : Int32).toNatClampNeg r4) (4 : Int32).toNatClampNeg r6)) := hD
    refine lv_aload_n hx hb dX2_isBroken_64 rfl (lv_at hl 0 rfl) ?_
    refine va_get (D := (dC, dI)) (ci := 2) (v := .ref a1) (C := RX2) (T := TX2) (N := 4) hx hb hts inX2_isBroken_X2 hown hK hP 0 rfl rfl 1 (by decide) (hts (.fieldLink RX2 15 "LeadPark$Law" "seen" "[I") (List.mem_of_getElem? (i := 2) rfl)) (fun _ h9 => h9) rfl dX2_isBroken_65 ?_
    refine lv_iconst (v := 5) hx hb dX2_isBroken_68 (by decide) ?_
    refine lv_aload_n hx hb dX2_isBroken_69 rfl (lv_at hl 1 rfl) ?_
    refine lv_iload hx hb dX2_isBroken_70 (lv_at hl 4 rfl) ?_
    refine lv_iload hx hb dX2_isBroken_72 (lv_at hl 5 rfl) ?_
    have hPc := hP.sub (ws' := (ceX1_xOf cyI cyB cyJ cyZ a3 a4 a5 b3_counts b3_walls g3_ways g3_wallCount g3_texts f4)) [3, 4] rfl
    have hDc := hD.sub (ws' := (ceX1_xOf cyI cyB cyJ cyZ a3 a4 a5 b3_counts b3_walls g3_ways g3_wallCount g3_texts f4)) [3, 4] (by decide) rfl
    have hFc := va_free (wc := (ceX1_xOf cyI cyB cyJ cyZ a3 a4 a5 b3_counts b3_walls g3_ways g3_wallCount g3_texts f4)) hD hS hA [3, 4] rfl
    refine va_calli (va_runV (As := [.int p3, .int p4]) (rest := [.int 5, .ref a1]) ⟨hx, hb, hml, hown, hts⟩ (ctX1_xOf l dC dI cyI cyB cyJ cyZ _ a3 a4 a5 b3_counts b3_walls g3_ways g3_wallCount g3_texts f4 p3 p4 _ hw) (cwV 2 hts gX2_isBroken_X1_xOf rfl rfl rfl (by decide +kernel) ⟨Nat.le_of_ble_eq_true rfl, Nat.le_of_ble_eq_true rfl⟩) ⟨wPre_blind, va_recv hK hPc (ci := 1) (q0 := 0) rfl rfl, fun U hU hW => wPre_of hPc hK hDc hN hU hW⟩ rfl rfl hl.1 rfl (lv_room (Nat.le_of_ble_eq_true rfl)) dX2_isBroken_74 ⟨(Nat.zero_le _), (Nat.zero_le _)⟩) hS (fun q _ h => hFc q h) hFc (fun r8 u7 t H1 locs ht hvm hw hB hz1 hk1 hS => ?_)
    obtain ⟨hP1, hK1, hD1⟩ := hB
    rw [ht] at hP1
    obtain ⟨hP, hD⟩ := va_join (wr := pickW (ceX2_isBroken cyI cyB cyJ cyZ a0 a1 a2 a3 a4 a5 b3_counts b3_walls g0_lines g3_ways g3_wallCount g3_texts g0_size f2 f4 f5 (upd (upd (upd (upd (upd f1 (0 : Int32).toNatClampNeg p2) (1 : Int32).toNatClampNeg p4) (2 : Int32).toNatClampNeg r2) (3 : Int32).toNatClampNeg r4) (4 : Int32).toNatClampNeg r6)) [0, 1, 2, 5]) (w1 := (ceX1_xOf cyI cyB cyJ cyZ a3 a4 a5 b3_counts b3_walls g3_ways g3_wallCount g3_texts f4)) hP hD [3, 4] [0, 1, 2, 5] rfl rfl (by decide) (by decide) hk1 hFc hP1 hD1
    have hP := hP.sub (ws' := (ceX2_isBroken cyI cyB cyJ cyZ a0 a1 a2 a3 a4 a5 b3_counts b3_walls g0_lines g3_ways g3_wallCount g3_texts g0_size f2 f4 f5 (upd (upd (upd (upd (upd f1 (0 : Int32).toNatClampNeg p2) (1 : Int32).toNatClampNeg p4) (2 : Int32).toNatClampNeg r2) (3 : Int32).toNatClampNeg r4) (4 : Int32).toNatClampNeg r6))) [0, 1, 2, 4, 5, 3] rfl
    have hD := hD.sub (ws' := (ceX2_isBroken cyI cyB cyJ cyZ a0 a1 a2 a3 a4 a5 b3_counts b3_walls g0_lines g3_ways g3_wallCount g3_texts g0_size f2 f4 f5 (upd (upd (upd (upd (upd f1 (0 : Int32).toNatClampNeg p2) (1 : Int32).toNatClampNeg p4) (2 : Int32).toNatClampNeg r2) (3 : Int32).toNatClampNeg r4) (4 : Int32).toNatClampNeg r6))) [0, 1, 2, 4, 5, 3] (by decide) rfl
    generalize H1 = H at hP hS ⊢
    obtain ⟨hi, hw⟩ := hw
    refine va_iast hx hb hK hP hD hS 1 0 rfl rfl hi dX2_isBroken_77 (fun H locs hP hD hS => ?_)
    have hP : va_P (dC, dI) vwCl (ceX2_isBroken cyI cyB cyJ cyZ a0 a1 a2 a3 a4 a5 b3_counts b3_walls g0_lines g3_ways g3_wallCount g3_texts g0_size f2 f4 f5 (upd (upd (upd (upd (upd (upd f1 (0 : Int32).toNatClampNeg p2) (1 : Int32).toNatClampNeg p4) (2 : Int32).toNatClampNeg r2) (3 : Int32).toNatClampNeg r4) (4 : Int32).toNatClampNeg r6) (5 : Int32).toNatClampNeg r8)) H := hP
    have hD : va_D A (ceX2_isBroken cyI cyB cyJ cyZ a0 a1 a2 a3 a4 a5 b3_counts b3_walls g0_lines g3_ways g3_wallCount g3_texts g0_size f2 f4 f5 (upd (upd (upd (upd (upd (upd f1 (0 : Int32).toNatClampNeg p2) (1 : Int32).toNatClampNeg p4) (2 : Int32).toNatClampNeg r2) (3 : Int32).toNatClampNeg r4) (4 : Int32).toNatClampNeg r6) (5 : Int32).toNatClampNeg r8)) := hD
    refine lv_aload_n hx hb dX2_isBroken_78 rfl (lv_at hl 0 rfl) ?_
    refine va_get (D := (dC, dI)) (ci := 2) (v := .ref a1) (C := RX2) (T := TX2) (N := 4) hx hb hts inX2_isBroken_X2 hown hK hP 0 rfl rfl 1 (by decide) (hts (.fieldLink RX2 15 "LeadPark$Law" "seen" "[I") (List.mem_of_getElem? (i := 2) rfl)) (fun _ h9 => h9) rfl dX2_isBroken_79 ?_
    refine lv_bipush (v := 6) hx hb dX2_isBroken_82 (by decide) ?_
    refine lv_aload_n hx hb dX2_isBroken_84 rfl (lv_at hl 1 rfl) ?_
    refine lv_iload hx hb dX2_isBroken_85 (lv_at hl 4 rfl) ?_
    refine lv_iload hx hb dX2_isBroken_87 (lv_at hl 5 rfl) ?_
    have hPc := hP.sub (ws' := (ceX1_yOf cyI cyB cyJ cyZ a3 a5 a4 b3_counts b3_walls g3_ways g3_wallCount g3_texts f5)) [3, 5] rfl
    have hDc := hD.sub (ws' := (ceX1_yOf cyI cyB cyJ cyZ a3 a5 a4 b3_counts b3_walls g3_ways g3_wallCount g3_texts f5)) [3, 5] (by decide) rfl
    have hFc := va_free (wc := (ceX1_yOf cyI cyB cyJ cyZ a3 a5 a4 b3_counts b3_walls g3_ways g3_wallCount g3_texts f5)) hD hS hA [3, 5] rfl
    refine va_calli (va_runV (As := [.int p3, .int p4]) (rest := [.int 6, .ref a1]) ⟨hx, hb, hml, hown, hts⟩ (ctX1_yOf l dC dI cyI cyB cyJ cyZ _ a3 a5 a4 b3_counts b3_walls g3_ways g3_wallCount g3_texts f5 p3 p4 _ hw) (cwV 2 hts gX2_isBroken_X1_yOf rfl rfl rfl (by decide +kernel) ⟨Nat.le_of_ble_eq_true rfl, Nat.le_of_ble_eq_true rfl⟩) ⟨wPre_blind, va_recv hK hPc (ci := 1) (q0 := 0) rfl rfl, fun U hU hW => wPre_of hPc hK hDc hN hU hW⟩ rfl rfl hl.1 rfl (lv_room (Nat.le_of_ble_eq_true rfl)) dX2_isBroken_89 ⟨(Nat.zero_le _), (Nat.zero_le _)⟩) hS (fun q _ h => hFc q h) hFc (fun r10 u9 t H1 locs ht hvm hw hB hz1 hk1 hS => ?_)
    obtain ⟨hP1, hK1, hD1⟩ := hB
    rw [ht] at hP1
    obtain ⟨hP, hD⟩ := va_join (wr := pickW (ceX2_isBroken cyI cyB cyJ cyZ a0 a1 a2 a3 a4 a5 b3_counts b3_walls g0_lines g3_ways g3_wallCount g3_texts g0_size f2 f4 f5 (upd (upd (upd (upd (upd (upd f1 (0 : Int32).toNatClampNeg p2) (1 : Int32).toNatClampNeg p4) (2 : Int32).toNatClampNeg r2) (3 : Int32).toNatClampNeg r4) (4 : Int32).toNatClampNeg r6) (5 : Int32).toNatClampNeg r8)) [0, 1, 2, 4]) (w1 := (ceX1_yOf cyI cyB cyJ cyZ a3 a5 a4 b3_counts b3_walls g3_ways g3_wallCount g3_texts f5)) hP hD [3, 5] [0, 1, 2, 4] rfl rfl (by decide) (by decide) hk1 hFc hP1 hD1
    have hP := hP.sub (ws' := (ceX2_isBroken cyI cyB cyJ cyZ a0 a1 a2 a3 a4 a5 b3_counts b3_walls g0_lines g3_ways g3_wallCount g3_texts g0_size f2 f4 f5 (upd (upd (upd (upd (upd (upd f1 (0 : Int32).toNatClampNeg p2) (1 : Int32).toNatClampNeg p4) (2 : Int32).toNatClampNeg r2) (3 : Int32).toNatClampNeg r4) (4 : Int32).toNatClampNeg r6) (5 : Int32).toNatClampNeg r8))) [0, 1, 2, 4, 3, 5] rfl
    have hD := hD.sub (ws' := (ceX2_isBroken cyI cyB cyJ cyZ a0 a1 a2 a3 a4 a5 b3_counts b3_walls g0_lines g3_ways g3_wallCount g3_texts g0_size f2 f4 f5 (upd (upd (upd (upd (upd (upd f1 (0 : Int32).toNatClampNeg p2) (1 : Int32).toNatClampNeg p4) (2 : Int32).toNatClampNeg r2) (3 : Int32).toNatClampNeg r4) (4 : Int32).toNatClampNeg r6) (5 : Int32).toNatClampNeg r8))) [0, 1, 2, 4, 3, 5] (by decide) rfl
    generalize H1 = H at hP hS ⊢
    obtain ⟨hi, hw⟩ := hw
    refine va_iast hx hb hK hP hD hS 1 0 rfl rfl hi dX2_isBroken_92 (fun H locs hP hD hS => ?_)
    have hP : va_P (dC, dI) vwCl (ceX2_isBroken cyI cyB cyJ cyZ a0 a1 a2 a3 a4 a5 b3_counts b3_walls g0_lines g3_ways g3_wallCount g3_texts g0_size f2 f4 f5 (upd (upd (upd (upd (upd (upd (upd f1 (0 : Int32).toNatClampNeg p2) (1 : Int32).toNatClampNeg p4) (2 : Int32).toNatClampNeg r2) (3 : Int32).toNatClampNeg r4) (4 : Int32).toNatClampNeg r6) (5 : Int32).toNatClampNeg r8) (6 : Int32).toNatClampNeg r10)) H := hP
    have hD : va_D A (ceX2_isBroken cyI cyB cyJ cyZ a0 a1 a2 a3 a4 a5 b3_counts b3_walls g0_lines g3_ways g3_wallCount g3_texts g0_size f2 f4 f5 (upd (upd (upd (upd (upd (upd (upd f1 (0 : Int32).toNatClampNeg p2) (1 : Int32).toNatClampNeg p4) (2 : Int32).toNatClampNeg r2) (3 : Int32).toNatClampNeg r4) (4 : Int32).toNatClampNeg r6) (5 : Int32).toNatClampNeg r8) (6 : Int32).toNatClampNeg r10)) := hD
    refine lv_aload_n hx hb dX2_isBroken_93 rfl (lv_at hl 0 rfl) ?_
    have hPc := hP.sub (ws' := (ceX2_someLineHolds cyI cyB cyJ cyZ a0 a2 a1 g0_lines g0_size f2 (upd (upd (upd (upd (upd (upd (upd f1 (0 : Int32).toNatClampNeg p2) (1 : Int32).toNatClampNeg p4) (2 : Int32).toNatClampNeg r2) (3 : Int32).toNatClampNeg r4) (4 : Int32).toNatClampNeg r6) (5 : Int32).toNatClampNeg r8) (6 : Int32).toNatClampNeg r10))) [0, 2, 1] rfl
    have hDc := hD.sub (ws' := (ceX2_someLineHolds cyI cyB cyJ cyZ a0 a2 a1 g0_lines g0_size f2 (upd (upd (upd (upd (upd (upd (upd f1 (0 : Int32).toNatClampNeg p2) (1 : Int32).toNatClampNeg p4) (2 : Int32).toNatClampNeg r2) (3 : Int32).toNatClampNeg r4) (4 : Int32).toNatClampNeg r6) (5 : Int32).toNatClampNeg r8) (6 : Int32).toNatClampNeg r10))) [0, 2, 1] (by decide) rfl
    have hFc := va_free (wc := (ceX2_someLineHolds cyI cyB cyJ cyZ a0 a2 a1 g0_lines g0_size f2 (upd (upd (upd (upd (upd (upd (upd f1 (0 : Int32).toNatClampNeg p2) (1 : Int32).toNatClampNeg p4) (2 : Int32).toNatClampNeg r2) (3 : Int32).toNatClampNeg r4) (4 : Int32).toNatClampNeg r6) (5 : Int32).toNatClampNeg r8) (6 : Int32).toNatClampNeg r10))) hD hS hA [0, 2, 1] rfl
    refine va_calli (va_runV (As := []) (rest := []) ⟨hx, hb, hml, hown, hts⟩ (ctX2_someLineHolds l dC dI cyI cyB cyJ cyZ _ a0 a2 a1 g0_lines g0_size f2 (upd (upd (upd (upd (upd (upd (upd f1 (0 : Int32).toNatClampNeg p2) (1 : Int32).toNatClampNeg p4) (2 : Int32).toNatClampNeg r2) (3 : Int32).toNatClampNeg r4) (4 : Int32).toNatClampNeg r6) (5 : Int32).toNatClampNeg r8) (6 : Int32).toNatClampNeg r10) _ hw) (cwV 0 hts gX2_isBroken_X2_someLineHolds rfl rfl rfl (by decide +kernel) ⟨Nat.le_of_ble_eq_true rfl, Nat.le_of_ble_eq_true rfl⟩) ⟨wPre_blind, va_recv hK hPc (ci := 2) (q0 := 0) rfl rfl, fun U hU hW => wPre_of hPc hK hDc hN hU hW⟩ rfl rfl hl.1 rfl (lv_room (Nat.le_of_ble_eq_true rfl)) dX2_isBroken_94 ⟨(Nat.zero_le _), (Nat.zero_le _)⟩) hS (fun q _ h => hFc q h) hFc (fun r12 u11 t H1 locs ht hvm hw hB hz1 hk1 hS => ?_)
    obtain ⟨hP1, hK1, hD1⟩ := hB
    rw [ht] at hP1
    obtain ⟨hP, hD⟩ := va_join (wr := pickW (ceX2_isBroken cyI cyB cyJ cyZ a0 a1 a2 a3 a4 a5 b3_counts b3_walls g0_lines g3_ways g3_wallCount g3_texts g0_size f2 f4 f5 (upd (upd (upd (upd (upd (upd (upd f1 (0 : Int32).toNatClampNeg p2) (1 : Int32).toNatClampNeg p4) (2 : Int32).toNatClampNeg r2) (3 : Int32).toNatClampNeg r4) (4 : Int32).toNatClampNeg r6) (5 : Int32).toNatClampNeg r8) (6 : Int32).toNatClampNeg r10)) [3, 4, 5]) (w1 := (ceX2_someLineHolds cyI cyB cyJ cyZ a0 a2 a1 g0_lines g0_size f2 (upd (upd (upd (upd (upd (upd (upd f1 (0 : Int32).toNatClampNeg p2) (1 : Int32).toNatClampNeg p4) (2 : Int32).toNatClampNeg r2) (3 : Int32).toNatClampNeg r4) (4 : Int32).toNatClampNeg r6) (5 : Int32).toNatClampNeg r8) (6 : Int32).toNatClampNeg r10))) hP hD [0, 2, 1] [3, 4, 5] rfl rfl (by decide) (by decide) hk1 hFc hP1 hD1
    have hP := hP.sub (ws' := (ceX2_isBroken cyI cyB cyJ cyZ a0 a1 a2 a3 a4 a5 b3_counts b3_walls g0_lines g3_ways g3_wallCount g3_texts g0_size f2 f4 f5 (upd (upd (upd (upd (upd (upd (upd f1 (0 : Int32).toNatClampNeg p2) (1 : Int32).toNatClampNeg p4) (2 : Int32).toNatClampNeg r2) (3 : Int32).toNatClampNeg r4) (4 : Int32).toNatClampNeg r6) (5 : Int32).toNatClampNeg r8) (6 : Int32).toNatClampNeg r10))) [3, 5, 4, 0, 1, 2] rfl
    have hD := hD.sub (ws' := (ceX2_isBroken cyI cyB cyJ cyZ a0 a1 a2 a3 a4 a5 b3_counts b3_walls g0_lines g3_ways g3_wallCount g3_texts g0_size f2 f4 f5 (upd (upd (upd (upd (upd (upd (upd f1 (0 : Int32).toNatClampNeg p2) (1 : Int32).toNatClampNeg p4) (2 : Int32).toNatClampNeg r2) (3 : Int32).toNatClampNeg r4) (4 : Int32).toNatClampNeg r6) (5 : Int32).toNatClampNeg r8) (6 : Int32).toNatClampNeg r10))) [3, 5, 4, 0, 1, 2] (by decide) rfl
    generalize H1 = H at hP hS ⊢
    rw [hQ]
    obtain ⟨hz, hw⟩ := hw
    exact W.zret (v := r12) (ty := .boolean) hx hb hr (zb_n hz) (fun t ht hW => ⟨⟨r12, ((upd (upd (upd (upd (upd (upd (upd f1 (0 : Int32).toNatClampNeg p2) (1 : Int32).toNatClampNeg p4) (2 : Int32).toNatClampNeg r2) (3 : Int32).toNatClampNeg r4) (4 : Int32).toNatClampNeg r6) (5 : Int32).toNatClampNeg r8) (6 : Int32).toNatClampNeg r10)), rfl, hw, by rw [ht]; exact hP, va_K.moved hW.alike hK, hD⟩, hS.F ht⟩) hS.2.2 dX2_isBroken_97
  · have hw := hw.2 hc
    refine lv_iconst (v := 0) hx hb dX2_isBroken_7 (by decide) ?_
    rw [hQ]
    exact W.zret (v := 0) (ty := .boolean) hx hb hr rfl (fun t ht hW => ⟨⟨0, (f1), rfl, hw, by rw [ht]; exact hP, va_K.moved hW.alike hK, hD⟩, hS.F ht⟩) hS.2.2 dX2_isBroken_8
