/-! LeadPark$Scene.nextDraw ()I -/
theorem inX6_nextDraw_X6 : ∀ w ∈ wsX60, w ∈ wsX6_nextDraw := fun _ h => List.mem_cons_of_mem _ (List.mem_append_right _ h)
abbrev rmX6_nextDraw : Room := { frames := 0, cells := 0, slots := 0, locals := 0 }
def wpX6_nextDraw (post : Int32 → Int32 → Prop) (g0_drawSeed : Int32) : Prop :=
  ∀ v1 : Int32, v1 = (1103515245 * g0_drawSeed) + 12345 →
  post ((v1 >>> (16 &&& 31)) &&& 32767) (v1)
set_option maxRecDepth 100000 in
set_option maxHeartbeats 4000000 in
theorem ctX6_nextDraw (l : Launch) (dC : Nat → ClassId) (dI : Nat → Nat → Nat) (cyI cyB cyJ cyZ : ClassId) (sz : Nat) (a0 b0_ground b0_law b0_marks b0_stroll : Nat) (g0_drawSeed : Int32) (post : Int32 → Int32 → Prop) (hw : wpX6_nextDraw post g0_drawSeed ) : Met l yX6_nextDraw wsX6_nextDraw rmX6_nextDraw (va_Pc [.ref a0] (wPre dC dI cyI cyB cyJ cyZ sz [(a0, .inr (6, [.ref b0_ground, .ref b0_law, .ref b0_marks, .ref b0_stroll, .int g0_drawSeed]))])) (va_Qi post (fun u : Int32 => wAt dC dI cyI cyB cyJ cyZ (va_A [(a0, .inr (6, [.ref b0_ground, .ref b0_law, .ref b0_marks, .ref b0_stroll, .int g0_drawSeed]))] sz) [(a0, .inr (6, [.ref b0_ground, .ref b0_law, .ref b0_marks, .ref b0_stroll, .int u]))]) (va_A [(a0, .inr (6, [.ref b0_ground, .ref b0_law, .ref b0_marks, .ref b0_stroll, .int g0_drawSeed]))] sz)) 0 0 (va_A [(a0, .inr (6, [.ref b0_ground, .ref b0_law, .ref b0_marks, .ref b0_stroll, .int g0_drawSeed]))] sz) := by
  refine Met.ofW (cc := cX6_nextDraw) (maxL := 1) (ret := (some .int)) (by decide) rfl ?_
  intro p e s m args below meth c s₁ B hml hv
  obtain ⟨rfl, hsz, hP, hK, hD0, hN⟩ := hv
  have hx := B.exec
  have hb := B.bytes
  have hr := B.returns
  have hts := atoms_spec (ws := wsX6_nextDraw) B.pre
  have hown : s.vm.findClass RX6 = some m.cls := findClass_of_methodNamed B.named
  have hlocks := B.notSynchronized
  subst hsz
  have hD := hD0.self (sz := s.heap.size)
  generalize hAe : va_A [(a0, .inr (6, [.ref b0_ground, .ref b0_law, .ref b0_marks, .ref b0_stroll, .int g0_drawSeed]))] s.heap.size = A at hD ⊢
  have hA : ∀ q : Nat, s.heap.size ≤ q → A q := fun q h => by rw [← hAe]; exact Or.inr h
  have hS : va_S A s.heap s.heap [] := va_S.rf
  have C0 : cxM p s m meth c _ wsX6_nextDraw RX6 cX6_nextDraw 1 (some .int) := ⟨hx, hb, hr, hml, hown, hts, hlocks⟩
  have hl := lv_entry ([.ref a0]) (n := 1) (Nat.le_of_ble_eq_true rfl)
  rw [lg_entry_eq]
  generalize (lg_sl ([.ref a0]) ++ List.replicate (1 - (lg_sl ([.ref a0])).length) Slot.unset).toArray = ls at hl ⊢
  have hl : lv_has ls 1 [(0, .ref a0)] := hl
  show W p l e rmX6_nextDraw s m _ below meth c _ _ _ _ _ _
  refine wq (fun Q hQ => ?_)
  refine lv_aload_n hx hb dX6_nextDraw_0 rfl (lv_at hl 0 rfl) ?_
  refine lv_ldc (v := 1103515245) hx hb hown (hts (.constant RX6 117 (1103515245)) (List.mem_of_getElem? (i := 1) rfl)) dX6_nextDraw_1 ?_
  refine lv_aload_n hx hb dX6_nextDraw_3 rfl (lv_at hl 0 rfl) ?_
  refine va_get (D := (dC, dI)) (ci := 6) (v := .int g0_drawSeed) (C := RX6) (T := TX6) (N := 5) hx hb hts inX6_nextDraw_X6 hown hK hP 0 rfl rfl 4 (by decide) (hts (.fieldLink RX6 39 "LeadPark$Scene" "drawSeed" "I") (List.mem_of_getElem? (i := 2) rfl)) (fun _ h9 => h9) rfl dX6_nextDraw_4 ?_
  refine lv_imul hx hb dX6_nextDraw_7 ?_
  refine lv_sipush (v := 12345) hx hb dX6_nextDraw_8 (by decide) ?_
  refine lv_iadd hx hb dX6_nextDraw_11 ?_
  refine lv_topi (fun v1 ev1 => ?_)
  have hw := hw v1 ev1
  refine va_put (D := (dC, dI)) (ci := 6) (v := .int v1) (ty := .int) (C := RX6) (T := TX6) (N := 5) hx hb hts inX6_nextDraw_X6 tyX6 tyX6_ok nmX6 hown hK hP hD hS 0 rfl rfl 4 (by decide) (hts (.fieldLink RX6 39 "LeadPark$Scene" "drawSeed" "I") (List.mem_of_getElem? (i := 2) rfl)) (fun _ h9 => h9) rfl (by decide +kernel) rfl rfl (Nat.le_of_ble_eq_true rfl) dX6_nextDraw_12 (fun H locs hP hD hS => ?_)
  have hP : va_P (dC, dI) vwCl [(a0, .inr (6, [.ref b0_ground, .ref b0_law, .ref b0_marks, .ref b0_stroll, .int v1]))] H := hP
  have hD : va_D A [(a0, .inr (6, [.ref b0_ground, .ref b0_law, .ref b0_marks, .ref b0_stroll, .int v1]))] := hD
  refine lv_aload_n hx hb dX6_nextDraw_15 rfl (lv_at hl 0 rfl) ?_
  refine va_get (D := (dC, dI)) (ci := 6) (v := .int v1) (C := RX6) (T := TX6) (N := 5) hx hb hts inX6_nextDraw_X6 hown hK hP 0 rfl rfl 4 (by decide) (hts (.fieldLink RX6 39 "LeadPark$Scene" "drawSeed" "I") (List.mem_of_getElem? (i := 2) rfl)) (fun _ h9 => h9) rfl dX6_nextDraw_16 ?_
  refine lv_bipush (v := 16) hx hb dX6_nextDraw_19 (by decide) ?_
  refine lv_ishr hx hb dX6_nextDraw_21 ?_
  refine lv_sipush (v := 32767) hx hb dX6_nextDraw_22 (by decide) ?_
  refine lv_iand hx hb dX6_nextDraw_25 ?_
  rw [hQ]
  exact W.iret (v := (v1 >>> (16 &&& 31)) &&& 32767) hx hb hr (fun t ht hW => ⟨⟨(v1 >>> (16 &&& 31)) &&& 32767, (v1), rfl, hw, by rw [ht]; exact hP, va_K.moved hW.alike hK, hD⟩, hS.F ht⟩) hS.2.2 dX6_nextDraw_26
/-! LeadPark$Scene.drawStep ()I -/
abbrev rmX6_drawStep : Room := { frames := 6, cells := 0, slots := 0, locals := 174 }
def wpX6_drawStep_78 (k50 : Int32 → (Nat → Int32) → Int32 → Int32 → Int32 → Prop) (post : Int32 → (Int32 × (Nat → Int32)) → Prop) (g1_underWay : Int32) (g1_way : Int32) (g1_other : Int32) (g1_lead : Int32) (g1_man : Int32) (g1_dog : Int32) (g2_ways : Int32) (g2_wallCount : Int32) (f3 : Nat → Int32) (f4 : Nat → Int32) (f5 : Nat → Int32) (f6 : Nat → Int32) (g7_size : Int32) (f9 : Nat → Int32) (g0_drawSeed : Int32) (f8 : Nat → Int32) (x1 : Int32) (x3 : Int32) (x4 : Int32) : Prop :=
  ∀ v1 : Int32, v1 = x4 + 1 →
  k50 g0_drawSeed f8 x1 x3 v1
def wpX6_drawStep_50 (post : Int32 → (Int32 × (Nat → Int32)) → Prop) (g1_underWay : Int32) (g1_way : Int32) (g1_other : Int32) (g1_lead : Int32) (g1_man : Int32) (g1_dog : Int32) (g2_ways : Int32) (g2_wallCount : Int32) (f3 : Nat → Int32) (f4 : Nat → Int32) (f5 : Nat → Int32) (f6 : Nat → Int32) (g7_size : Int32) (f9 : Nat → Int32) : Nat → Int32 → (Nat → Int32) → Int32 → Int32 → Int32 → Prop
  | 0, _, _, _, _, _ => False
  | n_50 + 1, g0_drawSeed, f8, x1, x3, x4 =>
    (3 < x4 →
     post (-1) (g0_drawSeed, f8)) ∧
    (¬ 3 < x4 →
     (¬ ((x1 >>> (x4 &&& 31)) &&& 1) = 0 →
      (¬ x3 = 0 →
       ∀ v1 : Int32, v1 = x3 + (-1) →
       wpX6_drawStep_78 (fun y0 y1 y2 y3 y4 => wpX6_drawStep_50 post g1_underWay g1_way g1_other g1_lead g1_man g1_dog g2_ways g2_wallCount f3 f4 f5 f6 g7_size f9 n_50 y0 y1 y2 y3 y4) post g1_underWay g1_way g1_other g1_lead g1_man g1_dog g2_ways g2_wallCount f3 f4 f5 f6 g7_size f9 g0_drawSeed f8 x1 v1 x4) ∧
      (x3 = 0 →
       post x4 (g0_drawSeed, f8))) ∧
     (((x1 >>> (x4 &&& 31)) &&& 1) = 0 →
      wpX6_drawStep_78 (fun y0 y1 y2 y3 y4 => wpX6_drawStep_50 post g1_underWay g1_way g1_other g1_lead g1_man g1_dog g2_ways g2_wallCount f3 f4 f5 f6 g7_size f9 n_50 y0 y1 y2 y3 y4) post g1_underWay g1_way g1_other g1_lead g1_man g1_dog g2_ways g2_wallCount f3 f4 f5 f6 g7_size f9 g0_drawSeed f8 x1 x3 x4))
def wpX6_drawStep_28 (k6 : Int32 → (Nat → Int32) → Int32 → Int32 → Int32 → Prop) (post : Int32 → (Int32 × (Nat → Int32)) → Prop) (g1_underWay : Int32) (g1_way : Int32) (g1_other : Int32) (g1_lead : Int32) (g1_man : Int32) (g1_dog : Int32) (g2_ways : Int32) (g2_wallCount : Int32) (f3 : Nat → Int32) (f4 : Nat → Int32) (f5 : Nat → Int32) (f6 : Nat → Int32) (g7_size : Int32) (f9 : Nat → Int32) (g0_drawSeed : Int32) (f8 : Nat → Int32) (x1 : Int32) (x2 : Int32) (x3 : Int32) : Prop :=
  ∀ v1 : Int32, v1 = x3 + 1 →
  k6 g0_drawSeed f8 x1 x2 v1
def wpX6_drawStep_6 (post : Int32 → (Int32 × (Nat → Int32)) → Prop) (g1_underWay : Int32) (g1_way : Int32) (g1_other : Int32) (g1_lead : Int32) (g1_man : Int32) (g1_dog : Int32) (g2_ways : Int32) (g2_wallCount : Int32) (f3 : Nat → Int32) (f4 : Nat → Int32) (f5 : Nat → Int32) (f6 : Nat → Int32) (g7_size : Int32) (f9 : Nat → Int32) : Nat → Int32 → (Nat → Int32) → Int32 → Int32 → Int32 → Prop
  | 0, _, _, _, _, _ => False
  | n_6 + 1, g0_drawSeed, f8, x1, x2, x3 =>
    (3 < x3 →
     (¬ x2 = 0 →
      wpX6_nextDraw (fun (r2 : Int32) (u1 : Int32) =>
       ¬ x2 = 0 ∧
       ∀ v3 : Int32, v3 = r2 - r2 / x2 * x2 →
       ∃ n_50 : Nat, wpX6_drawStep_50 post g1_underWay g1_way g1_other g1_lead g1_man g1_dog g2_ways g2_wallCount f3 f4 f5 f6 g7_size f9 n_50 u1 f8 x1 v3 1) g0_drawSeed) ∧
     (x2 = 0 →
      post (-1) (g0_drawSeed, f8))) ∧
    (¬ 3 < x3 →
     wpX6_canGo (fun (r5 : Int32) (u4 : (Nat → Int32)) =>
      (r5 = 0 →
       wpX6_drawStep_28 (fun y0 y1 y2 y3 y4 => wpX6_drawStep_6 post g1_underWay g1_way g1_other g1_lead g1_man g1_dog g2_ways g2_wallCount f3 f4 f5 f6 g7_size f9 n_6 y0 y1 y2 y3 y4) post g1_underWay g1_way g1_other g1_lead g1_man g1_dog g2_ways g2_wallCount f3 f4 f5 f6 g7_size f9 g0_drawSeed u4 x1 x2 x3) ∧
      (¬ r5 = 0 →
       ∀ v6 : Int32, v6 = x1 ||| (1 <<< (x3 &&& 31)) →
       ∀ v7 : Int32, v7 = x2 + 1 →
       wpX6_drawStep_28 (fun y0 y1 y2 y3 y4 => wpX6_drawStep_6 post g1_underWay g1_way g1_other g1_lead g1_man g1_dog g2_ways g2_wallCount f3 f4 f5 f6 g7_size f9 n_6 y0 y1 y2 y3 y4) post g1_underWay g1_way g1_other g1_lead g1_man g1_dog g2_ways g2_wallCount f3 f4 f5 f6 g7_size f9 g0_drawSeed u4 v6 v7 x3)) g1_underWay g1_way g1_other g1_lead g1_man g1_dog g2_ways g2_wallCount f3 f4 f5 f6 g7_size f9 f8 x3)
def wpX6_drawStep (post : Int32 → (Int32 × (Nat → Int32)) → Prop) (g1_underWay : Int32) (g1_way : Int32) (g1_other : Int32) (g1_lead : Int32) (g1_man : Int32) (g1_dog : Int32) (g2_ways : Int32) (g2_wallCount : Int32) (f3 : Nat → Int32) (f4 : Nat → Int32) (f5 : Nat → Int32) (f6 : Nat → Int32) (g7_size : Int32) (f9 : Nat → Int32) (g0_drawSeed : Int32) (f8 : Nat → Int32) : Prop :=
  ∃ n_6 : Nat, wpX6_drawStep_6 post g1_underWay g1_way g1_other g1_lead g1_man g1_dog g2_ways g2_wallCount f3 f4 f5 f6 g7_size f9 n_6 g0_drawSeed f8 0 0 1
set_option maxRecDepth 100000 in
set_option maxHeartbeats 4000000 in
theorem bX6_drawStep_78 {p : Program} {l : Launch} {e : Env} {s : State} {m : MethodId} {args : Array Value} {below : List Frame} {meth : Method} {c : Code} {dC : Nat → ClassId} {dI : Nat → Nat → Nat} {cyI cyB cyJ cyZ : ClassId} {A : Nat → Prop} {a0 a1 a2 a3 a4 a5 a6 a7 a8 a9 b0_marks b1_steps b1_greatestAhead : Nat} {g1_gone : Int32} {g1_greatest : Int32} {g1_remembered : Int32} {g2_texts : Int32} {g7_lines : Int32} (C0 : cxM p s m meth c args wsX6_drawStep RX6 cX6_drawStep 5 (some .int)) (hK : va_K (dC, dI) vwCl (tyA cyI cyB cyJ cyZ) s) (hN : nwA s) (hA : ∀ q : Nat, s.heap.size ≤ q → A q) {post : Int32 → (Int32 × (Nat → Int32)) → Prop} {g1_underWay : Int32} {g1_way : Int32} {g1_other : Int32} {g1_lead : Int32} {g1_man : Int32} {g1_dog : Int32} {g2_ways : Int32} {g2_wallCount : Int32} {f3 : Nat → Int32} {f4 : Nat → Int32} {f5 : Nat → Int32} {f6 : Nat → Int32} {g7_size : Int32} {f9 : Nat → Int32} {k50 : Int32 → (Nat → Int32) → Int32 → Int32 → Int32 → Prop} {Q : State → Prop} (hQ : Q = MQ below (va_Qi post (fun u : Int32 × (Nat → Int32) => wAt dC dI cyI cyB cyJ cyZ A [(a0, .inr (6, [.ref a2, .ref a7, .ref b0_marks, .ref a1, .int u.1])), (a1, .inr (7, [.int g1_underWay, .int g1_way, .int g1_other, .int g1_lead, .int g1_man, .int g1_dog, .int g1_gone, .int g1_greatest, .int g1_remembered, .ref b1_steps, .ref b1_greatestAhead])), (a2, .inr (1, [.ref a4, .ref a5, .ref a3, .ref a6, .int g2_ways, .int g2_wallCount, .int g2_texts])), (a3, .inl (cyI, 12, .inl f3)), (a4, .inl (cyI, 360, .inl f4)), (a5, .inl (cyI, 360, .inl f5)), (a6, .inl (cyI, 32, .inl f6)), (a7, .inr (2, [.ref a9, .ref a8, .int g7_size, .int g7_lines])), (a8, .inl (cyI, 7, .inl u.2)), (a9, .inl (cyI, 400, .inl f9))]) A) args s 0 0 A) (hk50 : ∀ (g0_drawSeed : Int32) (f8 : Nat → Int32) (x1 : Int32) (x3 : Int32) (x4 : Int32), k50 g0_drawSeed f8 x1 x3 x4 → AtW p l e rmX6_drawStep s m args below meth c dC dI A Q 5 0 0 [(a0, .inr (6, [.ref a2, .ref a7, .ref b0_marks, .ref a1, .int g0_drawSeed])), (a1, .inr (7, [.int g1_underWay, .int g1_way, .int g1_other, .int g1_lead, .int g1_man, .int g1_dog, .int g1_gone, .int g1_greatest, .int g1_remembered, .ref b1_steps, .ref b1_greatestAhead])), (a2, .inr (1, [.ref a4, .ref a5, .ref a3, .ref a6, .int g2_ways, .int g2_wallCount, .int g2_texts])), (a3, .inl (cyI, 12, .inl f3)), (a4, .inl (cyI, 360, .inl f4)), (a5, .inl (cyI, 360, .inl f5)), (a6, .inl (cyI, 32, .inl f6)), (a7, .inr (2, [.ref a9, .ref a8, .int g7_size, .int g7_lines])), (a8, .inl (cyI, 7, .inl f8)), (a9, .inl (cyI, 400, .inl f9))] [(1, .int x1), (3, .int x3), (4, .int x4)] 50 []) : ∀ (g0_drawSeed : Int32) (f8 : Nat → Int32) (x1 : Int32) (x3 : Int32) (x4 : Int32), wpX6_drawStep_78 k50 post g1_underWay g1_way g1_other g1_lead g1_man g1_dog g2_ways g2_wallCount f3 f4 f5 f6 g7_size f9 g0_drawSeed f8 x1 x3 x4 → AtW p l e rmX6_drawStep s m args below meth c dC dI A Q 5 0 0 [(a0, .inr (6, [.ref a2, .ref a7, .ref b0_marks, .ref a1, .int g0_drawSeed])), (a1, .inr (7, [.int g1_underWay, .int g1_way, .int g1_other, .int g1_lead, .int g1_man, .int g1_dog, .int g1_gone, .int g1_greatest, .int g1_remembered, .ref b1_steps, .ref b1_greatestAhead])), (a2, .inr (1, [.ref a4, .ref a5, .ref a3, .ref a6, .int g2_ways, .int g2_wallCount, .int g2_texts])), (a3, .inl (cyI, 12, .inl f3)), (a4, .inl (cyI, 360, .inl f4)), (a5, .inl (cyI, 360, .inl f5)), (a6, .inl (cyI, 32, .inl f6)), (a7, .inr (2, [.ref a9, .ref a8, .int g7_size, .int g7_lines])), (a8, .inl (cyI, 7, .inl f8)), (a9, .inl (cyI, 400, .inl f9))] [(1, .int x1), (3, .int x3), (4, .int x4)] 78 [] := by
  intro g0_drawSeed f8 x1 x3 x4 hw H locs hP hD hS ls hl
  have C1 := C0
  obtain ⟨hx, hb, hr, hml, hown, hts, hlocks⟩ := C1
  obtain ⟨v1, ev1⟩ : ∃ y : Int32, y = x4 + 1 := ⟨_, rfl⟩
  have hw := hw v1 ev1
  refine lv_iinc (v := v1) (lv' := [(4, .int v1), (1, .int x1), (3, .int x3)]) hx hb dX6_drawStep_78 hl (k := 2) rfl (by rw [ev1]; rfl) (by decide) rfl (fun ls hl => ?_)
  refine lv_goto (tgt := 50) hx hb dX6_drawStep_81 (by decide) ?_
  exact hk50 g0_drawSeed f8 x1 x3 v1 hw H locs hP hD hS ls (lv_sub hl [1, 2, 0] rfl)
set_option maxRecDepth 100000 in
set_option maxHeartbeats 4000000 in
theorem bX6_drawStep_50 {p : Program} {l : Launch} {e : Env} {s : State} {m : MethodId} {args : Array Value} {below : List Frame} {meth : Method} {c : Code} {dC : Nat → ClassId} {dI : Nat → Nat → Nat} {cyI cyB cyJ cyZ : ClassId} {A : Nat → Prop} {a0 a1 a2 a3 a4 a5 a6 a7 a8 a9 b0_marks b1_steps b1_greatestAhead : Nat} {g1_gone : Int32} {g1_greatest : Int32} {g1_remembered : Int32} {g2_texts : Int32} {g7_lines : Int32} (C0 : cxM p s m meth c args wsX6_drawStep RX6 cX6_drawStep 5 (some .int)) (hK : va_K (dC, dI) vwCl (tyA cyI cyB cyJ cyZ) s) (hN : nwA s) (hA : ∀ q : Nat, s.heap.size ≤ q → A q) {post : Int32 → (Int32 × (Nat → Int32)) → Prop} {g1_underWay : Int32} {g1_way : Int32} {g1_other : Int32} {g1_lead : Int32} {g1_man : Int32} {g1_dog : Int32} {g2_ways : Int32} {g2_wallCount : Int32} {f3 : Nat → Int32} {f4 : Nat → Int32} {f5 : Nat → Int32} {f6 : Nat → Int32} {g7_size : Int32} {f9 : Nat → Int32} {Q : State → Prop} (hQ : Q = MQ below (va_Qi post (fun u : Int32 × (Nat → Int32) => wAt dC dI cyI cyB cyJ cyZ A [(a0, .inr (6, [.ref a2, .ref a7, .ref b0_marks, .ref a1, .int u.1])), (a1, .inr (7, [.int g1_underWay, .int g1_way, .int g1_other, .int g1_lead, .int g1_man, .int g1_dog, .int g1_gone, .int g1_greatest, .int g1_remembered, .ref b1_steps, .ref b1_greatestAhead])), (a2, .inr (1, [.ref a4, .ref a5, .ref a3, .ref a6, .int g2_ways, .int g2_wallCount, .int g2_texts])), (a3, .inl (cyI, 12, .inl f3)), (a4, .inl (cyI, 360, .inl f4)), (a5, .inl (cyI, 360, .inl f5)), (a6, .inl (cyI, 32, .inl f6)), (a7, .inr (2, [.ref a9, .ref a8, .int g7_size, .int g7_lines])), (a8, .inl (cyI, 7, .inl u.2)), (a9, .inl (cyI, 400, .inl f9))]) A) args s 0 0 A) : ∀ (n : Nat) (g0_drawSeed : Int32) (f8 : Nat → Int32) (x1 : Int32) (x3 : Int32) (x4 : Int32), wpX6_drawStep_50 post g1_underWay g1_way g1_other g1_lead g1_man g1_dog g2_ways g2_wallCount f3 f4 f5 f6 g7_size f9 n g0_drawSeed f8 x1 x3 x4 → AtW p l e rmX6_drawStep s m args below meth c dC dI A Q 5 0 0 [(a0, .inr (6, [.ref a2, .ref a7, .ref b0_marks, .ref a1, .int g0_drawSeed])), (a1, .inr (7, [.int g1_underWay, .int g1_way, .int g1_other, .int g1_lead, .int g1_man, .int g1_dog, .int g1_gone, .int g1_greatest, .int g1_remembered, .ref b1_steps, .ref b1_greatestAhead])), (a2, .inr (1, [.ref a4, .ref a5, .ref a3, .ref a6, .int g2_ways, .int g2_wallCount, .int g2_texts])), (a3, .inl (cyI, 12, .inl f3)), (a4, .inl (cyI, 360, .inl f4)), (a5, .inl (cyI, 360, .inl f5)), (a6, .inl (cyI, 32, .inl f6)), (a7, .inr (2, [.ref a9, .ref a8, .int g7_size, .int g7_lines])), (a8, .inl (cyI, 7, .inl f8)), (a9, .inl (cyI, 400, .inl f9))] [(1, .int x1), (3, .int x3), (4, .int x4)] 50 [] := by
  intro n
  induction n with
  | zero => intro g0_drawSeed f8 x1 x3 x4 hw; exact False.elim hw
  | succ n ih =>
    intro g0_drawSeed f8 x1 x3 x4 hw H locs hP hD hS ls hl
    have C1 := C0
    obtain ⟨hx, hb, hr, hml, hown, hts, hlocks⟩ := C1
    refine lv_iload hx hb dX6_drawStep_50 (lv_at hl 2 rfl) ?_
    refine lv_iconst (v := 3) hx hb dX6_drawStep_52 (by decide) ?_
    refine lv_icmp_gt (tgt := 84) hx hb dX6_drawStep_53 (by decide) (fun hc => ?_) (fun hc => ?_)
    · have hw := hw.1 hc
      refine lv_iconst (v := (-1)) hx hb dX6_drawStep_84 (by decide) ?_
      rw [hQ]
      exact W.iret (v := (-1)) hx hb hr (fun t ht hW => ⟨⟨(-1), (g0_drawSeed, f8), rfl, hw, by rw [ht]; exact hP, va_K.moved hW.alike hK, hD⟩, hS.F ht⟩) hS.2.2 dX6_drawStep_85
    · have hw := hw.2 hc
      refine lv_iload_n hx hb dX6_drawStep_56 rfl (lv_at hl 0 rfl) ?_
      refine lv_iload hx hb dX6_drawStep_57 (lv_at hl 2 rfl) ?_
      refine lv_ishr hx hb dX6_drawStep_59 ?_
      refine lv_iconst (v := 1) hx hb dX6_drawStep_60 (by decide) ?_
      refine lv_iand hx hb dX6_drawStep_61 ?_
      refine lv_if_ne (tgt := 68) hx hb dX6_drawStep_62 (by decide) (fun hc => ?_) (fun hc => ?_)
      · have hw := hw.1 hc
        refine lv_iload_n hx hb dX6_drawStep_68 rfl (lv_at hl 1 rfl) ?_
        refine lv_if_ne (tgt := 75) hx hb dX6_drawStep_69 (by decide) (fun hc => ?_) (fun hc => ?_)
        · have hw := hw.1 hc
          obtain ⟨v1, ev1⟩ : ∃ y : Int32, y = x3 + (-1) := ⟨_, rfl⟩
          have hw := hw v1 ev1
          refine lv_iinc (v := v1) (lv' := [(3, .int v1), (1, .int x1), (4, .int x4)]) hx hb dX6_drawStep_75 hl (k := 1) rfl (by rw [ev1]; rfl) (by decide) rfl (fun ls hl => ?_)
          exact bX6_drawStep_78 C0 hK hN hA hQ ih g0_drawSeed f8 x1 v1 x4 hw _ _ hP hD hS ls (lv_sub hl [1, 0, 2] rfl)
        · have hw := hw.2 hc
          refine lv_iload hx hb dX6_drawStep_72 (lv_at hl 2 rfl) ?_
          rw [hQ]
          exact W.iret (v := x4) hx hb hr (fun t ht hW => ⟨⟨x4, (g0_drawSeed, f8), rfl, hw, by rw [ht]; exact hP, va_K.moved hW.alike hK, hD⟩, hS.F ht⟩) hS.2.2 dX6_drawStep_74
      · have hw := hw.2 hc
        refine lv_goto (tgt := 78) hx hb dX6_drawStep_65 (by decide) ?_
        exact bX6_drawStep_78 C0 hK hN hA hQ ih g0_drawSeed f8 x1 x3 x4 hw _ _ hP hD hS ls (lv_sub hl [0, 1, 2] rfl)
set_option maxRecDepth 100000 in
set_option maxHeartbeats 4000000 in
theorem bX6_drawStep_28 {p : Program} {l : Launch} {e : Env} {s : State} {m : MethodId} {args : Array Value} {below : List Frame} {meth : Method} {c : Code} {dC : Nat → ClassId} {dI : Nat → Nat → Nat} {cyI cyB cyJ cyZ : ClassId} {A : Nat → Prop} {a0 a1 a2 a3 a4 a5 a6 a7 a8 a9 b0_marks b1_steps b1_greatestAhead : Nat} {g1_gone : Int32} {g1_greatest : Int32} {g1_remembered : Int32} {g2_texts : Int32} {g7_lines : Int32} (C0 : cxM p s m meth c args wsX6_drawStep RX6 cX6_drawStep 5 (some .int)) (hK : va_K (dC, dI) vwCl (tyA cyI cyB cyJ cyZ) s) (hN : nwA s) (hA : ∀ q : Nat, s.heap.size ≤ q → A q) {post : Int32 → (Int32 × (Nat → Int32)) → Prop} {g1_underWay : Int32} {g1_way : Int32} {g1_other : Int32} {g1_lead : Int32} {g1_man : Int32} {g1_dog : Int32} {g2_ways : Int32} {g2_wallCount : Int32} {f3 : Nat → Int32} {f4 : Nat → Int32} {f5 : Nat → Int32} {f6 : Nat → Int32} {g7_size : Int32} {f9 : Nat → Int32} {k6 : Int32 → (Nat → Int32) → Int32 → Int32 → Int32 → Prop} {Q : State → Prop} (hQ : Q = MQ below (va_Qi post (fun u : Int32 × (Nat → Int32) => wAt dC dI cyI cyB cyJ cyZ A [(a0, .inr (6, [.ref a2, .ref a7, .ref b0_marks, .ref a1, .int u.1])), (a1, .inr (7, [.int g1_underWay, .int g1_way, .int g1_other, .int g1_lead, .int g1_man, .int g1_dog, .int g1_gone, .int g1_greatest, .int g1_remembered, .ref b1_steps, .ref b1_greatestAhead])), (a2, .inr (1, [.ref a4, .ref a5, .ref a3, .ref a6, .int g2_ways, .int g2_wallCount, .int g2_texts])), (a3, .inl (cyI, 12, .inl f3)), (a4, .inl (cyI, 360, .inl f4)), (a5, .inl (cyI, 360, .inl f5)), (a6, .inl (cyI, 32, .inl f6)), (a7, .inr (2, [.ref a9, .ref a8, .int g7_size, .int g7_lines])), (a8, .inl (cyI, 7, .inl u.2)), (a9, .inl (cyI, 400, .inl f9))]) A) args s 0 0 A) (hk6 : ∀ (g0_drawSeed : Int32) (f8 : Nat → Int32) (x1 : Int32) (x2 : Int32) (x3 : Int32), k6 g0_drawSeed f8 x1 x2 x3 → AtW p l e rmX6_drawStep s m args below meth c dC dI A Q 5 0 0 [(a0, .inr (6, [.ref a2, .ref a7, .ref b0_marks, .ref a1, .int g0_drawSeed])), (a1, .inr (7, [.int g1_underWay, .int g1_way, .int g1_other, .int g1_lead, .int g1_man, .int g1_dog, .int g1_gone, .int g1_greatest, .int g1_remembered, .ref b1_steps, .ref b1_greatestAhead])), (a2, .inr (1, [.ref a4, .ref a5, .ref a3, .ref a6, .int g2_ways, .int g2_wallCount, .int g2_texts])), (a3, .inl (cyI, 12, .inl f3)), (a4, .inl (cyI, 360, .inl f4)), (a5, .inl (cyI, 360, .inl f5)), (a6, .inl (cyI, 32, .inl f6)), (a7, .inr (2, [.ref a9, .ref a8, .int g7_size, .int g7_lines])), (a8, .inl (cyI, 7, .inl f8)), (a9, .inl (cyI, 400, .inl f9))] [(0, .ref a0), (1, .int x1), (2, .int x2), (3, .int x3)] 6 []) : ∀ (g0_drawSeed : Int32) (f8 : Nat → Int32) (x1 : Int32) (x2 : Int32) (x3 : Int32), wpX6_drawStep_28 k6 post g1_underWay g1_way g1_other g1_lead g1_man g1_dog g2_ways g2_wallCount f3 f4 f5 f6 g7_size f9 g0_drawSeed f8 x1 x2 x3 → AtW p l e rmX6_drawStep s m args below meth c dC dI A Q 5 0 0 [(a0, .inr (6, [.ref a2, .ref a7, .ref b0_marks, .ref a1, .int g0_drawSeed])), (a1, .inr (7, [.int g1_underWay, .int g1_way, .int g1_other, .int g1_lead, .int g1_man, .int g1_dog, .int g1_gone, .int g1_greatest, .int g1_remembered, .ref b1_steps, .ref b1_greatestAhead])), (a2, .inr (1, [.ref a4, .ref a5, .ref a3, .ref a6, .int g2_ways, .int g2_wallCount, .int g2_texts])), (a3, .inl (cyI, 12, .inl f3)), (a4, .inl (cyI, 360, .inl f4)), (a5, .inl (cyI, 360, .inl f5)), (a6, .inl (cyI, 32, .inl f6)), (a7, .inr (2, [.ref a9, .ref a8, .int g7_size, .int g7_lines])), (a8, .inl (cyI, 7, .inl f8)), (a9, .inl (cyI, 400, .inl f9))] [(0, .ref a0), (1, .int x1), (2, .int x2), (3, .int x3)] 28 [] := by
  intro g0_drawSeed f8 x1 x2 x3 hw H locs hP hD hS ls hl
  have C1 := C0
  obtain ⟨hx, hb, hr, hml, hown, hts, hlocks⟩ := C1
  obtain ⟨v1, ev1⟩ : ∃ y : Int32, y = x3 + 1 := ⟨_, rfl⟩
  have hw := hw v1 ev1
  refine lv_iinc (v := v1) (lv' := [(3, .int v1), (0, .ref a0), (1, .int x1), (2, .int x2)]) hx hb dX6_drawStep_28 hl (k := 3) rfl (by rw [ev1]; rfl) (by decide) rfl (fun ls hl => ?_)
  refine lv_goto (tgt := 6) hx hb dX6_drawStep_31 (by decide) ?_
  exact hk6 g0_drawSeed f8 x1 x2 v1 hw H locs hP hD hS ls (lv_sub hl [1, 2, 3, 0] rfl)
set_option maxRecDepth 100000 in
set_option maxHeartbeats 4000000 in
theorem bX6_drawStep_6 {p : Program} {l : Launch} {e : Env} {s : State} {m : MethodId} {args : Array Value} {below : List Frame} {meth : Method} {c : Code} {dC : Nat → ClassId} {dI : Nat → Nat → Nat} {cyI cyB cyJ cyZ : ClassId} {A : Nat → Prop} {a0 a1 a2 a3 a4 a5 a6 a7 a8 a9 b0_marks b1_steps b1_greatestAhead : Nat} {g1_gone : Int32} {g1_greatest : Int32} {g1_remembered : Int32} {g2_texts : Int32} {g7_lines : Int32} (C0 : cxM p s m meth c args wsX6_drawStep RX6 cX6_drawStep 5 (some .int)) (hK : va_K (dC, dI) vwCl (tyA cyI cyB cyJ cyZ) s) (hN : nwA s) (hA : ∀ q : Nat, s.heap.size ≤ q → A q) {post : Int32 → (Int32 × (Nat → Int32)) → Prop} {g1_underWay : Int32} {g1_way : Int32} {g1_other : Int32} {g1_lead : Int32} {g1_man : Int32} {g1_dog : Int32} {g2_ways : Int32} {g2_wallCount : Int32} {f3 : Nat → Int32} {f4 : Nat → Int32} {f5 : Nat → Int32} {f6 : Nat → Int32} {g7_size : Int32} {f9 : Nat → Int32} {Q : State → Prop} (hQ : Q = MQ below (va_Qi post (fun u : Int32 × (Nat → Int32) => wAt dC dI cyI cyB cyJ cyZ A [(a0, .inr (6, [.ref a2, .ref a7, .ref b0_marks, .ref a1, .int u.1])), (a1, .inr (7, [.int g1_underWay, .int g1_way, .int g1_other, .int g1_lead, .int g1_man, .int g1_dog, .int g1_gone, .int g1_greatest, .int g1_remembered, .ref b1_steps, .ref b1_greatestAhead])), (a2, .inr (1, [.ref a4, .ref a5, .ref a3, .ref a6, .int g2_ways, .int g2_wallCount, .int g2_texts])), (a3, .inl (cyI, 12, .inl f3)), (a4, .inl (cyI, 360, .inl f4)), (a5, .inl (cyI, 360, .inl f5)), (a6, .inl (cyI, 32, .inl f6)), (a7, .inr (2, [.ref a9, .ref a8, .int g7_size, .int g7_lines])), (a8, .inl (cyI, 7, .inl u.2)), (a9, .inl (cyI, 400, .inl f9))]) A) args s 0 0 A) : ∀ (n : Nat) (g0_drawSeed : Int32) (f8 : Nat → Int32) (x1 : Int32) (x2 : Int32) (x3 : Int32), wpX6_drawStep_6 post g1_underWay g1_way g1_other g1_lead g1_man g1_dog g2_ways g2_wallCount f3 f4 f5 f6 g7_size f9 n g0_drawSeed f8 x1 x2 x3 → AtW p l e rmX6_drawStep s m args below meth c dC dI A Q 5 0 0 [(a0, .inr (6, [.ref a2, .ref a7, .ref b0_marks, .ref a1, .int g0_drawSeed])), (a1, .inr (7, [.int g1_underWay, .int g1_way, .int g1_other, .int g1_lead, .int g1_man, .int g1_dog, .int g1_gone, .int g1_greatest, .int g1_remembered, .ref b1_steps, .ref b1_greatestAhead])), (a2, .inr (1, [.ref a4, .ref a5, .ref a3, .ref a6, .int g2_ways, .int g2_wallCount, .int g2_texts])), (a3, .inl (cyI, 12, .inl f3)), (a4, .inl (cyI, 360, .inl f4)), (a5, .inl (cyI, 360, .inl f5)), (a6, .inl (cyI, 32, .inl f6)), (a7, .inr (2, [.ref a9, .ref a8, .int g7_size, .int g7_lines])), (a8, .inl (cyI, 7, .inl f8)), (a9, .inl (cyI, 400, .inl f9))] [(0, .ref a0), (1, .int x1), (2, .int x2), (3, .int x3)] 6 [] := by
  intro n
  induction n with
  | zero => intro g0_drawSeed f8 x1 x2 x3 hw; exact False.elim hw
  | succ n ih =>
    intro g0_drawSeed f8 x1 x2 x3 hw H locs hP hD hS ls hl
    have C1 := C0
    obtain ⟨hx, hb, hr, hml, hown, hts, hlocks⟩ := C1
    refine lv_iload_n hx hb dX6_drawStep_6 rfl (lv_at hl 3 rfl) ?_
    refine lv_iconst (v := 3) hx hb dX6_drawStep_7 (by decide) ?_
    refine lv_icmp_gt (tgt := 34) hx hb dX6_drawStep_8 (by decide) (fun hc => ?_) (fun hc => ?_)
    · have hw := hw.1 hc
      refine lv_iload_n hx hb dX6_drawStep_34 rfl (lv_at hl 2 rfl) ?_
      refine lv_if_ne (tgt := 40) hx hb dX6_drawStep_35 (by decide) (fun hc => ?_) (fun hc => ?_)
      · have hw := hw.1 hc
        refine lv_aload_n hx hb dX6_drawStep_40 rfl (lv_at hl 0 rfl) ?_
        have hPc := hP.sub (ws' := [(a0, .inr (6, [.ref a2, .ref a7, .ref b0_marks, .ref a1, .int g0_drawSeed]))]) [0] rfl
        have hDc := hD.sub (ws' := [(a0, .inr (6, [.ref a2, .ref a7, .ref b0_marks, .ref a1, .int g0_drawSeed]))]) [0] (by decide) rfl
        have hFc := va_free (wc := [(a0, .inr (6, [.ref a2, .ref a7, .ref b0_marks, .ref a1, .int g0_drawSeed]))]) hD hS hA [0] rfl
        refine va_calli (va_runV (As := []) (rest := []) ⟨hx, hb, hml, hown, hts⟩ (ctX6_nextDraw l dC dI cyI cyB cyJ cyZ _ a0 a2 a7 b0_marks a1 g0_drawSeed _ hw) (cwV 0 hts gX6_drawStep_X6_nextDraw rfl rfl rfl (by decide +kernel) ⟨Nat.le_of_ble_eq_true rfl, Nat.le_of_ble_eq_true rfl⟩) ⟨wPre_blind, va_recv hK hPc (ci := 6) (q0 := 0) rfl rfl, fun U hU hW => wPre_of hPc hK hDc hN hU hW⟩ rfl rfl hl.1 rfl (lv_room (Nat.le_of_ble_eq_true rfl)) dX6_drawStep_41 ⟨(Nat.zero_le _), (Nat.zero_le _)⟩) hS (fun q _ h => hFc q h) hFc (fun r2 u1 t H1 locs ht hvm hw hB hz1 hk1 hS => ?_)
        obtain ⟨hP1, hK1, hD1⟩ := hB
        rw [ht] at hP1
        obtain ⟨hP, hD⟩ := va_join (wr := [(a1, .inr (7, [.int g1_underWay, .int g1_way, .int g1_other, .int g1_lead, .int g1_man, .int g1_dog, .int g1_gone, .int g1_greatest, .int g1_remembered, .ref b1_steps, .ref b1_greatestAhead])), (a2, .inr (1, [.ref a4, .ref a5, .ref a3, .ref a6, .int g2_ways, .int g2_wallCount, .int g2_texts])), (a3, .inl (cyI, 12, .inl f3)), (a4, .inl (cyI, 360, .inl f4)), (a5, .inl (cyI, 360, .inl f5)), (a6, .inl (cyI, 32, .inl f6)), (a7, .inr (2, [.ref a9, .ref a8, .int g7_size, .int g7_lines])), (a8, .inl (cyI, 7, .inl f8)), (a9, .inl (cyI, 400, .inl f9))]) (w1 := [(a0, .inr (6, [.ref a2, .ref a7, .ref b0_marks, .ref a1, .int u1]))]) hP hD [0] [1, 2, 3, 4, 5, 6, 7, 8, 9] rfl rfl (by decide) (by decide) hk1 hFc hP1 hD1
        have hP := hP.sub (ws' := [(a0, .inr (6, [.ref a2, .ref a7, .ref b0_marks, .ref a1, .int u1])), (a1, .inr (7, [.int g1_underWay, .int g1_way, .int g1_other, .int g1_lead, .int g1_man, .int g1_dog, .int g1_gone, .int g1_greatest, .int g1_remembered, .ref b1_steps, .ref b1_greatestAhead])), (a2, .inr (1, [.ref a4, .ref a5, .ref a3, .ref a6, .int g2_ways, .int g2_wallCount, .int g2_texts])), (a3, .inl (cyI, 12, .inl f3)), (a4, .inl (cyI, 360, .inl f4)), (a5, .inl (cyI, 360, .inl f5)), (a6, .inl (cyI, 32, .inl f6)), (a7, .inr (2, [.ref a9, .ref a8, .int g7_size, .int g7_lines])), (a8, .inl (cyI, 7, .inl f8)), (a9, .inl (cyI, 400, .inl f9))]) [9, 0, 1, 2, 3, 4, 5, 6, 7, 8] rfl
        have hD := hD.sub (ws' := [(a0, .inr (6, [.ref a2, .ref a7, .ref b0_marks, .ref a1, .int u1])), (a1, .inr (7, [.int g1_underWay, .int g1_way, .int g1_other, .int g1_lead, .int g1_man, .int g1_dog, .int g1_gone, .int g1_greatest, .int g1_remembered, .ref b1_steps, .ref b1_greatestAhead])), (a2, .inr (1, [.ref a4, .ref a5, .ref a3, .ref a6, .int g2_ways, .int g2_wallCount, .int g2_texts])), (a3, .inl (cyI, 12, .inl f3)), (a4, .inl (cyI, 360, .inl f4)), (a5, .inl (cyI, 360, .inl f5)), (a6, .inl (cyI, 32, .inl f6)), (a7, .inr (2, [.ref a9, .ref a8, .int g7_size, .int g7_lines])), (a8, .inl (cyI, 7, .inl f8)), (a9, .inl (cyI, 400, .inl f9))]) [9, 0, 1, 2, 3, 4, 5, 6, 7, 8] (by decide) rfl
        generalize H1 = H at hP hS ⊢
        refine lv_iload_n hx hb dX6_drawStep_44 rfl (lv_at hl 2 rfl) ?_
        obtain ⟨h0, hw⟩ := hw
        refine lv_irem hx hb dX6_drawStep_45 h0 ?_
        refine lv_topi (fun v3 ev3 => ?_)
        have hw := hw v3 ev3
        refine lv_istore_n (lv' := [(3, .int v3), (0, .ref a0), (1, .int x1), (2, .int x2)]) hx hb dX6_drawStep_46 rfl hl (by decide) rfl (fun ls hl => ?_)
        refine lv_iconst (v := 1) hx hb dX6_drawStep_47 (by decide) ?_
        refine lv_istore (lv' := [(4, .int 1), (3, .int v3), (0, .ref a0), (1, .int x1), (2, .int x2)]) hx hb dX6_drawStep_48 hl (by decide) rfl (fun ls hl => ?_)
        obtain ⟨nn, hw⟩ := hw
        exact bX6_drawStep_50 C0 hK hN hA hQ nn u1 f8 x1 v3 1 hw _ _ hP hD hS ls (lv_sub hl [3, 1, 0] rfl)
      · have hw := hw.2 hc
        refine lv_iconst (v := (-1)) hx hb dX6_drawStep_38 (by decide) ?_
        rw [hQ]
        exact W.iret (v := (-1)) hx hb hr (fun t ht hW => ⟨⟨(-1), (g0_drawSeed, f8), rfl, hw, by rw [ht]; exact hP, va_K.moved hW.alike hK, hD⟩, hS.F ht⟩) hS.2.2 dX6_drawStep_39
    · have hw := hw.2 hc
      refine lv_aload_n hx hb dX6_drawStep_11 rfl (lv_at hl 0 rfl) ?_
      refine lv_iload_n hx hb dX6_drawStep_12 rfl (lv_at hl 3 rfl) ?_
      have hPc := hP.sub (ws' := [(a0, .inr (6, [.ref a2, .ref a7, .ref b0_marks, .ref a1, .int g0_drawSeed])), (a1, .inr (7, [.int g1_underWay, .int g1_way, .int g1_other, .int g1_lead, .int g1_man, .int g1_dog, .int g1_gone, .int g1_greatest, .int g1_remembered, .ref b1_steps, .ref b1_greatestAhead])), (a2, .inr (1, [.ref a4, .ref a5, .ref a3, .ref a6, .int g2_ways, .int g2_wallCount, .int g2_texts])), (a3, .inl (cyI, 12, .inl f3)), (a4, .inl (cyI, 360, .inl f4)), (a5, .inl (cyI, 360, .inl f5)), (a6, .inl (cyI, 32, .inl f6)), (a7, .inr (2, [.ref a9, .ref a8, .int g7_size, .int g7_lines])), (a8, .inl (cyI, 7, .inl f8)), (a9, .inl (cyI, 400, .inl f9))]) [0, 1, 2, 3, 4, 5, 6, 7, 8, 9] rfl
      have hDc := hD.sub (ws' := [(a0, .inr (6, [.ref a2, .ref a7, .ref b0_marks, .ref a1, .int g0_drawSeed])), (a1, .inr (7, [.int g1_underWay, .int g1_way, .int g1_other, .int g1_lead, .int g1_man, .int g1_dog, .int g1_gone, .int g1_greatest, .int g1_remembered, .ref b1_steps, .ref b1_greatestAhead])), (a2, .inr (1, [.ref a4, .ref a5, .ref a3, .ref a6, .int g2_ways, .int g2_wallCount, .int g2_texts])), (a3, .inl (cyI, 12, .inl f3)), (a4, .inl (cyI, 360, .inl f4)), (a5, .inl (cyI, 360, .inl f5)), (a6, .inl (cyI, 32, .inl f6)), (a7, .inr (2, [.ref a9, .ref a8, .int g7_size, .int g7_lines])), (a8, .inl (cyI, 7, .inl f8)), (a9, .inl (cyI, 400, .inl f9))]) [0, 1, 2, 3, 4, 5, 6, 7, 8, 9] (by decide) rfl
      have hFc := va_free (wc := [(a0, .inr (6, [.ref a2, .ref a7, .ref b0_marks, .ref a1, .int g0_drawSeed])), (a1, .inr (7, [.int g1_underWay, .int g1_way, .int g1_other, .int g1_lead, .int g1_man, .int g1_dog, .int g1_gone, .int g1_greatest, .int g1_remembered, .ref b1_steps, .ref b1_greatestAhead])), (a2, .inr (1, [.ref a4, .ref a5, .ref a3, .ref a6, .int g2_ways, .int g2_wallCount, .int g2_texts])), (a3, .inl (cyI, 12, .inl f3)), (a4, .inl (cyI, 360, .inl f4)), (a5, .inl (cyI, 360, .inl f5)), (a6, .inl (cyI, 32, .inl f6)), (a7, .inr (2, [.ref a9, .ref a8, .int g7_size, .int g7_lines])), (a8, .inl (cyI, 7, .inl f8)), (a9, .inl (cyI, 400, .inl f9))]) hD hS hA [0, 1, 2, 3, 4, 5, 6, 7, 8, 9] rfl
      refine va_calli (va_runV (As := [.int x3]) (rest := []) ⟨hx, hb, hml, hown, hts⟩ (ctX6_canGo l dC dI cyI cyB cyJ cyZ _ a0 a1 a2 a3 a4 a5 a6 a7 a8 a9 b0_marks b1_steps b1_greatestAhead g0_drawSeed g1_gone g1_greatest g1_remembered g2_texts g7_lines g1_underWay g1_way g1_other g1_lead g1_man g1_dog g2_ways g2_wallCount f3 f4 f5 f6 g7_size f9 f8 x3 _ hw) (cwV 1 hts gX6_drawStep_X6_canGo rfl rfl rfl (by decide +kernel) ⟨Nat.le_of_ble_eq_true rfl, Nat.le_of_ble_eq_true rfl⟩) ⟨wPre_blind, va_recv hK hPc (ci := 6) (q0 := 0) rfl rfl, fun U hU hW => wPre_of hPc hK hDc hN hU hW⟩ rfl rfl hl.1 rfl (lv_room (Nat.le_of_ble_eq_true rfl)) dX6_drawStep_13 ⟨(Nat.zero_le _), (Nat.zero_le _)⟩) hS (fun q _ h => hFc q h) hFc (fun r5 u4 t H1 locs ht hvm hw hB hz1 hk1 hS => ?_)
      obtain ⟨hP1, hK1, hD1⟩ := hB
      rw [ht] at hP1
      obtain ⟨hP, hD⟩ := va_join (wr := []) (w1 := [(a0, .inr (6, [.ref a2, .ref a7, .ref b0_marks, .ref a1, .int g0_drawSeed])), (a1, .inr (7, [.int g1_underWay, .int g1_way, .int g1_other, .int g1_lead, .int g1_man, .int g1_dog, .int g1_gone, .int g1_greatest, .int g1_remembered, .ref b1_steps, .ref b1_greatestAhead])), (a2, .inr (1, [.ref a4, .ref a5, .ref a3, .ref a6, .int g2_ways, .int g2_wallCount, .int g2_texts])), (a3, .inl (cyI, 12, .inl f3)), (a4, .inl (cyI, 360, .inl f4)), (a5, .inl (cyI, 360, .inl f5)), (a6, .inl (cyI, 32, .inl f6)), (a7, .inr (2, [.ref a9, .ref a8, .int g7_size, .int g7_lines])), (a8, .inl (cyI, 7, .inl u4)), (a9, .inl (cyI, 400, .inl f9))]) hP hD [0, 1, 2, 3, 4, 5, 6, 7, 8, 9] [] rfl rfl (by decide) (by decide) hk1 hFc hP1 hD1
      have hP := hP.sub (ws' := [(a0, .inr (6, [.ref a2, .ref a7, .ref b0_marks, .ref a1, .int g0_drawSeed])), (a1, .inr (7, [.int g1_underWay, .int g1_way, .int g1_other, .int g1_lead, .int g1_man, .int g1_dog, .int g1_gone, .int g1_greatest, .int g1_remembered, .ref b1_steps, .ref b1_greatestAhead])), (a2, .inr (1, [.ref a4, .ref a5, .ref a3, .ref a6, .int g2_ways, .int g2_wallCount, .int g2_texts])), (a3, .inl (cyI, 12, .inl f3)), (a4, .inl (cyI, 360, .inl f4)), (a5, .inl (cyI, 360, .inl f5)), (a6, .inl (cyI, 32, .inl f6)), (a7, .inr (2, [.ref a9, .ref a8, .int g7_size, .int g7_lines])), (a8, .inl (cyI, 7, .inl u4)), (a9, .inl (cyI, 400, .inl f9))]) [0, 1, 2, 3, 4, 5, 6, 7, 8, 9] rfl
      have hD := hD.sub (ws' := [(a0, .inr (6, [.ref a2, .ref a7, .ref b0_marks, .ref a1, .int g0_drawSeed])), (a1, .inr (7, [.int g1_underWay, .int g1_way, .int g1_other, .int g1_lead, .int g1_man, .int g1_dog, .int g1_gone, .int g1_greatest, .int g1_remembered, .ref b1_steps, .ref b1_greatestAhead])), (a2, .inr (1, [.ref a4, .ref a5, .ref a3, .ref a6, .int g2_ways, .int g2_wallCount, .int g2_texts])), (a3, .inl (cyI, 12, .inl f3)), (a4, .inl (cyI, 360, .inl f4)), (a5, .inl (cyI, 360, .inl f5)), (a6, .inl (cyI, 32, .inl f6)), (a7, .inr (2, [.ref a9, .ref a8, .int g7_size, .int g7_lines])), (a8, .inl (cyI, 7, .inl u4)), (a9, .inl (cyI, 400, .inl f9))]) [0, 1, 2, 3, 4, 5, 6, 7, 8, 9] (by decide) rfl
      generalize H1 = H at hP hS ⊢
      refine lv_if_eq (tgt := 28) hx hb dX6_drawStep_16 (by decide) (fun hc => ?_) (fun hc => ?_)
      · have hw := hw.1 hc
        exact bX6_drawStep_28 C0 hK hN hA hQ ih g0_drawSeed u4 x1 x2 x3 hw _ _ hP hD hS ls (lv_sub hl [0, 1, 2, 3] rfl)
      · have hw := hw.2 hc
        refine lv_iload_n hx hb dX6_drawStep_19 rfl (lv_at hl 1 rfl) ?_
        refine lv_iconst (v := 1) hx hb dX6_drawStep_20 (by decide) ?_
        refine lv_iload_n hx hb dX6_drawStep_21 rfl (lv_at hl 3 rfl) ?_
        refine lv_ishl hx hb dX6_drawStep_22 ?_
        refine lv_ior hx hb dX6_drawStep_23 ?_
        refine lv_topi (fun v6 ev6 => ?_)
        have hw := hw v6 ev6
        refine lv_istore_n (lv' := [(1, .int v6), (0, .ref a0), (2, .int x2), (3, .int x3)]) hx hb dX6_drawStep_24 rfl hl (by decide) rfl (fun ls hl => ?_)
        obtain ⟨v7, ev7⟩ : ∃ y : Int32, y = x2 + 1 := ⟨_, rfl⟩
        have hw := hw v7 ev7
        refine lv_iinc (v := v7) (lv' := [(2, .int v7), (1, .int v6), (0, .ref a0), (3, .int x3)]) hx hb dX6_drawStep_25 hl (k := 2) rfl (by rw [ev7]; rfl) (by decide) rfl (fun ls hl => ?_)
        exact bX6_drawStep_28 C0 hK hN hA hQ ih g0_drawSeed u4 v6 v7 x3 hw _ _ hP hD hS ls (lv_sub hl [2, 1, 0, 3] rfl)
set_option maxRecDepth 100000 in
set_option maxHeartbeats 4000000 in
theorem ctX6_drawStep (l : Launch) (dC : Nat → ClassId) (dI : Nat → Nat → Nat) (cyI cyB cyJ cyZ : ClassId) (sz : Nat) (a0 a1 a2 a3 a4 a5 a6 a7 a8 a9 b0_marks b1_steps b1_greatestAhead : Nat) (g1_gone : Int32) (g1_greatest : Int32) (g1_remembered : Int32) (g2_texts : Int32) (g7_lines : Int32) (g1_underWay : Int32) (g1_way : Int32) (g1_other : Int32) (g1_lead : Int32) (g1_man : Int32) (g1_dog : Int32) (g2_ways : Int32) (g2_wallCount : Int32) (f3 : Nat → Int32) (f4 : Nat → Int32) (f5 : Nat → Int32) (f6 : Nat → Int32) (g7_size : Int32) (f9 : Nat → Int32) (g0_drawSeed : Int32) (f8 : Nat → Int32) (post : Int32 → (Int32 × (Nat → Int32)) → Prop) (hw : wpX6_drawStep post g1_underWay g1_way g1_other g1_lead g1_man g1_dog g2_ways g2_wallCount f3 f4 f5 f6 g7_size f9 g0_drawSeed f8 ) : Met l yX6_drawStep wsX6_drawStep rmX6_drawStep (va_Pc [.ref a0] (wPre dC dI cyI cyB cyJ cyZ sz [(a0, .inr (6, [.ref a2, .ref a7, .ref b0_marks, .ref a1, .int g0_drawSeed])), (a1, .inr (7, [.int g1_underWay, .int g1_way, .int g1_other, .int g1_lead, .int g1_man, .int g1_dog, .int g1_gone, .int g1_greatest, .int g1_remembered, .ref b1_steps, .ref b1_greatestAhead])), (a2, .inr (1, [.ref a4, .ref a5, .ref a3, .ref a6, .int g2_ways, .int g2_wallCount, .int g2_texts])), (a3, .inl (cyI, 12, .inl f3)), (a4, .inl (cyI, 360, .inl f4)), (a5, .inl (cyI, 360, .inl f5)), (a6, .inl (cyI, 32, .inl f6)), (a7, .inr (2, [.ref a9, .ref a8, .int g7_size, .int g7_lines])), (a8, .inl (cyI, 7, .inl f8)), (a9, .inl (cyI, 400, .inl f9))])) (va_Qi post (fun u : Int32 × (Nat → Int32) => wAt dC dI cyI cyB cyJ cyZ (va_A [(a0, .inr (6, [.ref a2, .ref a7, .ref b0_marks, .ref a1, .int g0_drawSeed])), (a1, .inr (7, [.int g1_underWay, .int g1_way, .int g1_other, .int g1_lead, .int g1_man, .int g1_dog, .int g1_gone, .int g1_greatest, .int g1_remembered, .ref b1_steps, .ref b1_greatestAhead])), (a2, .inr (1, [.ref a4, .ref a5, .ref a3, .ref a6, .int g2_ways, .int g2_wallCount, .int g2_texts])), (a3, .inl (cyI, 12, .inl f3)), (a4, .inl (cyI, 360, .inl f4)), (a5, .inl (cyI, 360, .inl f5)), (a6, .inl (cyI, 32, .inl f6)), (a7, .inr (2, [.ref a9, .ref a8, .int g7_size, .int g7_lines])), (a8, .inl (cyI, 7, .inl f8)), (a9, .inl (cyI, 400, .inl f9))] sz) [(a0, .inr (6, [.ref a2, .ref a7, .ref b0_marks, .ref a1, .int u.1])), (a1, .inr (7, [.int g1_underWay, .int g1_way, .int g1_other, .int g1_lead, .int g1_man, .int g1_dog, .int g1_gone, .int g1_greatest, .int g1_remembered, .ref b1_steps, .ref b1_greatestAhead])), (a2, .inr (1, [.ref a4, .ref a5, .ref a3, .ref a6, .int g2_ways, .int g2_wallCount, .int g2_texts])), (a3, .inl (cyI, 12, .inl f3)), (a4, .inl (cyI, 360, .inl f4)), (a5, .inl (cyI, 360, .inl f5)), (a6, .inl (cyI, 32, .inl f6)), (a7, .inr (2, [.ref a9, .ref a8, .int g7_size, .int g7_lines])), (a8, .inl (cyI, 7, .inl u.2)), (a9, .inl (cyI, 400, .inl f9))]) (va_A [(a0, .inr (6, [.ref a2, .ref a7, .ref b0_marks, .ref a1, .int g0_drawSeed])), (a1, .inr (7, [.int g1_underWay, .int g1_way, .int g1_other, .int g1_lead, .int g1_man, .int g1_dog, .int g1_gone, .int g1_greatest, .int g1_remembered, .ref b1_steps, .ref b1_greatestAhead])), (a2, .inr (1, [.ref a4, .ref a5, .ref a3, .ref a6, .int g2_ways, .int g2_wallCount, .int g2_texts])), (a3, .inl (cyI, 12, .inl f3)), (a4, .inl (cyI, 360, .inl f4)), (a5, .inl (cyI, 360, .inl f5)), (a6, .inl (cyI, 32, .inl f6)), (a7, .inr (2, [.ref a9, .ref a8, .int g7_size, .int g7_lines])), (a8, .inl (cyI, 7, .inl f8)), (a9, .inl (cyI, 400, .inl f9))] sz)) 0 0 (va_A [(a0, .inr (6, [.ref a2, .ref a7, .ref b0_marks, .ref a1, .int g0_drawSeed])), (a1, .inr (7, [.int g1_underWay, .int g1_way, .int g1_other, .int g1_lead, .int g1_man, .int g1_dog, .int g1_gone, .int g1_greatest, .int g1_remembered, .ref b1_steps, .ref b1_greatestAhead])), (a2, .inr (1, [.ref a4, .ref a5, .ref a3, .ref a6, .int g2_ways, .int g2_wallCount, .int g2_texts])), (a3, .inl (cyI, 12, .inl f3)), (a4, .inl (cyI, 360, .inl f4)), (a5, .inl (cyI, 360, .inl f5)), (a6, .inl (cyI, 32, .inl f6)), (a7, .inr (2, [.ref a9, .ref a8, .int g7_size, .int g7_lines])), (a8, .inl (cyI, 7, .inl f8)), (a9, .inl (cyI, 400, .inl f9))] sz) := by
  refine Met.ofW (cc := cX6_drawStep) (maxL := 5) (ret := (some .int)) (by decide) rfl ?_
  intro p e s m args below meth c s₁ B hml hv
  obtain ⟨rfl, hsz, hP, hK, hD0, hN⟩ := hv
  have hx := B.exec
  have hb := B.bytes
  have hr := B.returns
  have hts := atoms_spec (ws := wsX6_drawStep) B.pre
  have hown : s.vm.findClass RX6 = some m.cls := findClass_of_methodNamed B.named
  have hlocks := B.notSynchronized
  subst hsz
  have hD := hD0.self (sz := s.heap.size)
  generalize hAe : va_A [(a0, .inr (6, [.ref a2, .ref a7, .ref b0_marks, .ref a1, .int g0_drawSeed])), (a1, .inr (7, [.int g1_underWay, .int g1_way, .int g1_other, .int g1_lead, .int g1_man, .int g1_dog, .int g1_gone, .int g1_greatest, .int g1_remembered, .ref b1_steps, .ref b1_greatestAhead])), (a2, .inr (1, [.ref a4, .ref a5, .ref a3, .ref a6, .int g2_ways, .int g2_wallCount, .int g2_texts])), (a3, .inl (cyI, 12, .inl f3)), (a4, .inl (cyI, 360, .inl f4)), (a5, .inl (cyI, 360, .inl f5)), (a6, .inl (cyI, 32, .inl f6)), (a7, .inr (2, [.ref a9, .ref a8, .int g7_size, .int g7_lines])), (a8, .inl (cyI, 7, .inl f8)), (a9, .inl (cyI, 400, .inl f9))] s.heap.size = A at hD ⊢
  have hA : ∀ q : Nat, s.heap.size ≤ q → A q := fun q h => by rw [← hAe]; exact Or.inr h
  have hS : va_S A s.heap s.heap [] := va_S.rf
  have C0 : cxM p s m meth c _ wsX6_drawStep RX6 cX6_drawStep 5 (some .int) := ⟨hx, hb, hr, hml, hown, hts, hlocks⟩
  have hl := lv_entry ([.ref a0]) (n := 5) (Nat.le_of_ble_eq_true rfl)
  rw [lg_entry_eq]
  generalize (lg_sl ([.ref a0]) ++ List.replicate (5 - (lg_sl ([.ref a0])).length) Slot.unset).toArray = ls at hl ⊢
  have hl : lv_has ls 5 [(0, .ref a0)] := hl
  show W p l e rmX6_drawStep s m _ below meth c _ _ _ _ _ _
  refine wq (fun Q hQ => ?_)
  refine lv_iconst (v := 0) hx hb dX6_drawStep_0 (by decide) ?_
  refine lv_istore_n (lv' := [(1, .int 0), (0, .ref a0)]) hx hb dX6_drawStep_1 rfl hl (by decide) rfl (fun ls hl => ?_)
  refine lv_iconst (v := 0) hx hb dX6_drawStep_2 (by decide) ?_
  refine lv_istore_n (lv' := [(2, .int 0), (1, .int 0), (0, .ref a0)]) hx hb dX6_drawStep_3 rfl hl (by decide) rfl (fun ls hl => ?_)
  refine lv_iconst (v := 1) hx hb dX6_drawStep_4 (by decide) ?_
  refine lv_istore_n (lv' := [(3, .int 1), (2, .int 0), (1, .int 0), (0, .ref a0)]) hx hb dX6_drawStep_5 rfl hl (by decide) rfl (fun ls hl => ?_)
  obtain ⟨nn, hw⟩ := hw
  exact bX6_drawStep_6 C0 hK hN hA hQ nn g0_drawSeed f8 0 0 1 hw _ _ hP hD hS ls (lv_sub hl [3, 2, 1, 0] rfl)
