/-! LeadParkModel.parts (III)J -/
abbrev ceX11_parts (cyI cyB cyJ cyZ : ClassId) (a0 a1 a2 a3 a4 a5 a6 b0_image b0_before b0_taken b0_tape b0_five b0_value b0_far b0_lead b0_walk b0_ends b0_round b0_farOne b0_leads b0_drags b0_from b0_near : Nat) (g0_hasImage : Int32) (g0_remembered : Int32) (g0_taped : Int32) (g0_point : Int32) (g0_end : Int32) (g0_begin : Int32) (g0_deep : Int32) (g0_faultAt : Int32) (g0_steps : Int32) (g0_men : Int32) (g0_dogs : Int32) (f1 : Nat → Int32) (g0_thrown : Int32) (f2 : Nat → Int32) (f3 : Nat → Int32) (f4 : Nat → Int32) (f5 : Nat → Int32) (f6 : Nat → Int32) : va_W := [(a0, .inr (11, [.int g0_thrown, .ref a1, .ref b0_image, .ref b0_before, .int g0_hasImage, .ref b0_taken, .int g0_remembered, .ref b0_tape, .int g0_taped, .int g0_point, .int g0_end, .int g0_begin, .int g0_deep, .int g0_faultAt, .ref b0_five, .int g0_steps, .ref b0_value, .ref b0_far, .int g0_men, .int g0_dogs, .ref b0_lead, .ref b0_walk, .ref b0_ends, .ref a2, .ref a3, .ref a4, .ref a5, .ref a6, .ref b0_round, .ref b0_farOne, .ref b0_leads, .ref b0_drags, .ref b0_from, .ref b0_near])), (a1, .inl (cyI, 2508, .inl f1)), (a2, .inl (cyI, 233, .inl f2)), (a3, .inl (cyI, 233, .inl f3)), (a4, .inl (cyI, 233, .inl f4)), (a5, .inl (cyI, 233, .inl f5)), (a6, .inl (cyI, 233, .inl f6))]

theorem inX11_parts_X11 : ∀ w ∈ wsX110, w ∈ wsX11_parts := fun _ h => List.mem_cons_of_mem _ (List.mem_append_right _ h)
abbrev rmX11_parts : Room := { frames := 2, cells := 0, slots := 0, locals := 69 }
def wpX11_parts_180 (k109 : Int32 → (Nat → Int32) → (Nat → Int32) → (Nat → Int32) → (Nat → Int32) → (Nat → Int32) → Int32 → Int32 → Int32 → Int32 → Int32 → Prop) (k94 : Int32 → (Nat → Int32) → (Nat → Int32) → (Nat → Int32) → (Nat → Int32) → (Nat → Int32) → Int32 → Int32 → Int32 → Prop) (post : Int64 → (Int32 × (Nat → Int32) × (Nat → Int32) × (Nat → Int32) × (Nat → Int32) × (Nat → Int32)) → Prop) (f1 : Nat → Int32) (g0_thrown : Int32) (f2 : Nat → Int32) (f3 : Nat → Int32) (f4 : Nat → Int32) (f5 : Nat → Int32) (f6 : Nat → Int32) (x4 : Int32) (x5 : Int32) (x6 : Int32) (x8 : Int32) (x9 : Int32) (s0 : Int32) : Prop :=
  vp_in x6 233 ∧
  vp_in x6 233 ∧
  vp_in x8 233 ∧
  vp_in x8 233 ∧
  wpX11_farOf (fun (r2 : Int32) (u1 : Unit) =>
   vp_in x8 233 ∧
   ∀ v3 : Int32, v3 = x8 + 1 →
   k109 g0_thrown f2 f3 f4 f5 (upd f6 x8.toNatClampNeg (iMax r2 s0)) x4 x5 x6 x9 v3) (f2 x6.toNatClampNeg) (f3 x6.toNatClampNeg) (f4 x8.toNatClampNeg) (f5 x8.toNatClampNeg)
def wpX11_parts_174 (k109 : Int32 → (Nat → Int32) → (Nat → Int32) → (Nat → Int32) → (Nat → Int32) → (Nat → Int32) → Int32 → Int32 → Int32 → Int32 → Int32 → Prop) (k94 : Int32 → (Nat → Int32) → (Nat → Int32) → (Nat → Int32) → (Nat → Int32) → (Nat → Int32) → Int32 → Int32 → Int32 → Prop) (post : Int64 → (Int32 × (Nat → Int32) × (Nat → Int32) × (Nat → Int32) × (Nat → Int32) × (Nat → Int32)) → Prop) (f1 : Nat → Int32) (g0_thrown : Int32) (f2 : Nat → Int32) (f3 : Nat → Int32) (f4 : Nat → Int32) (f5 : Nat → Int32) (f6 : Nat → Int32) (x4 : Int32) (x5 : Int32) (x6 : Int32) (x8 : Int32) (x9 : Int32) (s0 : Int32) (s1 : Int32) (s2 : Int32) : Prop :=
  wpX11_parts_180 k109 k94 post f1 g0_thrown f2 f3 f4 f5 f6 x4 x5 x6 x8 x9 (iMin s0 (iMin s1 s2))
def wpX11_parts_150 (k109 : Int32 → (Nat → Int32) → (Nat → Int32) → (Nat → Int32) → (Nat → Int32) → (Nat → Int32) → Int32 → Int32 → Int32 → Int32 → Int32 → Prop) (k94 : Int32 → (Nat → Int32) → (Nat → Int32) → (Nat → Int32) → (Nat → Int32) → (Nat → Int32) → Int32 → Int32 → Int32 → Prop) (post : Int64 → (Int32 × (Nat → Int32) × (Nat → Int32) × (Nat → Int32) × (Nat → Int32) × (Nat → Int32)) → Prop) (f1 : Nat → Int32) (g0_thrown : Int32) (f2 : Nat → Int32) (f3 : Nat → Int32) (f4 : Nat → Int32) (f5 : Nat → Int32) (f6 : Nat → Int32) (x4 : Int32) (x5 : Int32) (x6 : Int32) (x7 : Int32) (x8 : Int32) (x9 : Int32) : Prop :=
  (¬ x8 = 0 →
   vp_in (x8 - 1) 233 ∧
   wpX11_parts_174 k109 k94 post f1 g0_thrown f2 f3 f4 f5 f6 x4 x5 x6 x8 x9 x7 x9 (f6 (x8 - 1).toNatClampNeg)) ∧
  (x8 = 0 →
   wpX11_parts_174 k109 k94 post f1 g0_thrown f2 f3 f4 f5 f6 x4 x5 x6 x8 x9 x7 x9 2000000000)
def wpX11_parts_134 (k109 : Int32 → (Nat → Int32) → (Nat → Int32) → (Nat → Int32) → (Nat → Int32) → (Nat → Int32) → Int32 → Int32 → Int32 → Int32 → Int32 → Prop) (k94 : Int32 → (Nat → Int32) → (Nat → Int32) → (Nat → Int32) → (Nat → Int32) → (Nat → Int32) → Int32 → Int32 → Int32 → Prop) (post : Int64 → (Int32 × (Nat → Int32) × (Nat → Int32) × (Nat → Int32) × (Nat → Int32) × (Nat → Int32)) → Prop) (f1 : Nat → Int32) (g0_thrown : Int32) (f2 : Nat → Int32) (f3 : Nat → Int32) (f4 : Nat → Int32) (f5 : Nat → Int32) (f6 : Nat → Int32) (x4 : Int32) (x5 : Int32) (x6 : Int32) (x7 : Int32) (x8 : Int32) (s0 : Int32) : Prop :=
  (¬ x6 = 0 →
   wpX11_parts_150 k109 k94 post f1 g0_thrown f2 f3 f4 f5 f6 x4 x5 x6 x7 x8 s0) ∧
  (x6 = 0 →
   (¬ x8 = 0 →
    wpX11_parts_150 k109 k94 post f1 g0_thrown f2 f3 f4 f5 f6 x4 x5 x6 x7 x8 s0) ∧
   (x8 = 0 →
    wpX11_parts_180 k109 k94 post f1 g0_thrown f2 f3 f4 f5 f6 x4 x5 x6 x8 s0 0))
def wpX11_parts_109 (k94 : Int32 → (Nat → Int32) → (Nat → Int32) → (Nat → Int32) → (Nat → Int32) → (Nat → Int32) → Int32 → Int32 → Int32 → Prop) (post : Int64 → (Int32 × (Nat → Int32) × (Nat → Int32) × (Nat → Int32) × (Nat → Int32) × (Nat → Int32)) → Prop) (f1 : Nat → Int32) : Nat → Int32 → (Nat → Int32) → (Nat → Int32) → (Nat → Int32) → (Nat → Int32) → (Nat → Int32) → Int32 → Int32 → Int32 → Int32 → Int32 → Prop
  | 0, _, _, _, _, _, _, _, _, _, _, _ => False
  | n_109 + 1, g0_thrown, f2, f3, f4, f5, f6, x4, x5, x6, x7, x8 =>
    (x5 ≤ x8 →
     ∀ v1 : Int32, v1 = x6 + 1 →
     k94 g0_thrown f2 f3 f4 f5 f6 x4 x5 v1) ∧
    (¬ x5 ≤ x8 →
     (¬ x6 = 0 →
      vp_in x8 233 ∧
      wpX11_parts_134 (fun y0 y1 y2 y3 y4 y5 y6 y7 y8 y9 y10 => wpX11_parts_109 k94 post f1 n_109 y0 y1 y2 y3 y4 y5 y6 y7 y8 y9 y10) k94 post f1 g0_thrown f2 f3 f4 f5 f6 x4 x5 x6 x7 x8 (f6 x8.toNatClampNeg)) ∧
     (x6 = 0 →
      wpX11_parts_134 (fun y0 y1 y2 y3 y4 y5 y6 y7 y8 y9 y10 => wpX11_parts_109 k94 post f1 n_109 y0 y1 y2 y3 y4 y5 y6 y7 y8 y9 y10) k94 post f1 g0_thrown f2 f3 f4 f5 f6 x4 x5 x6 x7 x8 2000000000))
def wpX11_parts_94 (post : Int64 → (Int32 × (Nat → Int32) × (Nat → Int32) × (Nat → Int32) × (Nat → Int32) × (Nat → Int32)) → Prop) (f1 : Nat → Int32) : Nat → Int32 → (Nat → Int32) → (Nat → Int32) → (Nat → Int32) → (Nat → Int32) → (Nat → Int32) → Int32 → Int32 → Int32 → Prop
  | 0, _, _, _, _, _, _, _, _, _ => False
  | n_94 + 1, g0_thrown, f2, f3, f4, f5, f6, x4, x5, x6 =>
    (x4 ≤ x6 →
     vp_in (x5 - 1) 233 ∧
     post ((f6 (x5 - 1).toNatClampNeg).toInt64) (g0_thrown, f2, f3, f4, f5, f6)) ∧
    (¬ x4 ≤ x6 →
     ∃ n_109 : Nat, wpX11_parts_109 (fun y0 y1 y2 y3 y4 y5 y6 y7 y8 => wpX11_parts_94 post f1 n_94 y0 y1 y2 y3 y4 y5 y6 y7 y8) post f1 n_109 g0_thrown f2 f3 f4 f5 f6 x4 x5 x6 2000000000 0)
def wpX11_parts_50 (post : Int64 → (Int32 × (Nat → Int32) × (Nat → Int32) × (Nat → Int32) × (Nat → Int32) × (Nat → Int32)) → Prop) (f1 : Nat → Int32) (g0_thrown : Int32) (f2 : Nat → Int32) (f3 : Nat → Int32) (f4 : Nat → Int32) (f5 : Nat → Int32) (f6 : Nat → Int32) (x1 : Int32) (x2 : Int32) (x3 : Int32) (s1 : Int32) : Prop :=
  wpX11_throwsIf (fun (r2 : Int32) (u1 : Int32) =>
   (r2 = 0 →
    wpX11_points 233 233 (fun (r4 : Int32) (u3 : (Nat → Int32) × (Nat → Int32)) =>
     wpX11_points 233 233 (fun (r6 : Int32) (u5 : (Nat → Int32) × (Nat → Int32)) =>
      ∃ n_94 : Nat, wpX11_parts_94 post f1 n_94 u1 u3.1 u3.2 u5.1 u5.2 f6 r4 r6 0) f1 f4 f5 x2 x3) f1 f2 f3 x1 x3) ∧
   (¬ r2 = 0 →
    post 0 (u1, f2, f3, f4, f5, f6))) g0_thrown s1 2
def wpX11_parts_27 (post : Int64 → (Int32 × (Nat → Int32) × (Nat → Int32) × (Nat → Int32) × (Nat → Int32) × (Nat → Int32)) → Prop) (f1 : Nat → Int32) (g0_thrown : Int32) (f2 : Nat → Int32) (f3 : Nat → Int32) (f4 : Nat → Int32) (f5 : Nat → Int32) (f6 : Nat → Int32) (x1 : Int32) (x2 : Int32) (x3 : Int32) (s1 : Int32) : Prop :=
  wpX11_throwsIf (fun (r2 : Int32) (u1 : Int32) =>
   (¬ r2 = 0 →
    post 0 (u1, f2, f3, f4, f5, f6)) ∧
   (r2 = 0 →
    wpX11_in (fun (r4 : Int32) (u3 : Unit) =>
     (¬ r4 = 0 →
      wpX11_parts_50 post f1 u1 f2 f3 f4 f5 f6 x1 x2 x3 0) ∧
     (r4 = 0 →
      wpX11_parts_50 post f1 u1 f2 f3 f4 f5 f6 x1 x2 x3 1)) x3 1 8)) g0_thrown s1 1
def wpX11_parts_22 (post : Int64 → (Int32 × (Nat → Int32) × (Nat → Int32) × (Nat → Int32) × (Nat → Int32) × (Nat → Int32)) → Prop) (f1 : Nat → Int32) (g0_thrown : Int32) (f2 : Nat → Int32) (f3 : Nat → Int32) (f4 : Nat → Int32) (f5 : Nat → Int32) (f6 : Nat → Int32) (x1 : Int32) (x2 : Int32) (x3 : Int32) : Prop :=
  wpX11_parts_27 post f1 g0_thrown f2 f3 f4 f5 f6 x1 x2 x3 1
def wpX11_parts (post : Int64 → (Int32 × (Nat → Int32) × (Nat → Int32) × (Nat → Int32) × (Nat → Int32) × (Nat → Int32)) → Prop) (f1 : Nat → Int32) (g0_thrown : Int32) (f2 : Nat → Int32) (f3 : Nat → Int32) (f4 : Nat → Int32) (f5 : Nat → Int32) (f6 : Nat → Int32) (p0 : Int32) (p1 : Int32) (p2 : Int32) : Prop :=
  wpX11_noWay (fun (r2 : Int32) (u1 : Unit) =>
   (¬ r2 = 0 →
    wpX11_parts_22 post f1 0 f2 f3 f4 f5 f6 p0 p1 p2) ∧
   (r2 = 0 →
    wpX11_noWay (fun (r4 : Int32) (u3 : Unit) =>
     (r4 = 0 →
      wpX11_parts_27 post f1 0 f2 f3 f4 f5 f6 p0 p1 p2 0) ∧
     (¬ r4 = 0 →
      wpX11_parts_22 post f1 0 f2 f3 f4 f5 f6 p0 p1 p2)) f1 p1)) f1 p0
set_option maxRecDepth 100000 in
set_option maxHeartbeats 4000000 in
theorem bX11_parts_180 {p : Program} {l : Launch} {e : Env} {s : State} {m : MethodId} {args : Array Value} {below : List Frame} {meth : Method} {c : Code} {dC : Nat → ClassId} {dI : Nat → Nat → Nat} {cyI cyB cyJ cyZ : ClassId} {A : Nat → Prop} {a0 a1 a2 a3 a4 a5 a6 b0_image b0_before b0_taken b0_tape b0_five b0_value b0_far b0_lead b0_walk b0_ends b0_round b0_farOne b0_leads b0_drags b0_from b0_near : Nat} {g0_hasImage : Int32} {g0_remembered : Int32} {g0_taped : Int32} {g0_point : Int32} {g0_end : Int32} {g0_begin : Int32} {g0_deep : Int32} {g0_faultAt : Int32} {g0_steps : Int32} {g0_men : Int32} {g0_dogs : Int32} (C0 : cxM p s m meth c args wsX11_parts RX11 cX11_parts 11 (some .long)) (hK : va_K (dC, dI) vwCl (tyA cyI cyB cyJ cyZ) s) (hN : nwA s) (hA : ∀ q : Nat, s.heap.size ≤ q → A q) {post : Int64 → (Int32 × (Nat → Int32) × (Nat → Int32) × (Nat → Int32) × (Nat → Int32) × (Nat → Int32)) → Prop} {f1 : Nat → Int32} {k109 : Int32 → (Nat → Int32) → (Nat → Int32) → (Nat → Int32) → (Nat → Int32) → (Nat → Int32) → Int32 → Int32 → Int32 → Int32 → Int32 → Prop} {k94 : Int32 → (Nat → Int32) → (Nat → Int32) → (Nat → Int32) → (Nat → Int32) → (Nat → Int32) → Int32 → Int32 → Int32 → Prop} {Q : State → Prop} (hQ : Q = MQ below (va_Ql post (fun u : Int32 × (Nat → Int32) × (Nat → Int32) × (Nat → Int32) × (Nat → Int32) × (Nat → Int32) => wAt dC dI cyI cyB cyJ cyZ A (ceX11_parts cyI cyB cyJ cyZ a0 a1 a2 a3 a4 a5 a6 b0_image b0_before b0_taken b0_tape b0_five b0_value b0_far b0_lead b0_walk b0_ends b0_round b0_farOne b0_leads b0_drags b0_from b0_near g0_hasImage g0_remembered g0_taped g0_point g0_end g0_begin g0_deep g0_faultAt g0_steps g0_men g0_dogs f1 u.1 u.2.1 u.2.2.1 u.2.2.2.1 u.2.2.2.2.1 u.2.2.2.2.2)) A) args s 0 0 A) (hk109 : ∀ (g0_thrown : Int32) (f2 : Nat → Int32) (f3 : Nat → Int32) (f4 : Nat → Int32) (f5 : Nat → Int32) (f6 : Nat → Int32) (x4 : Int32) (x5 : Int32) (x6 : Int32) (x7 : Int32) (x8 : Int32), k109 g0_thrown f2 f3 f4 f5 f6 x4 x5 x6 x7 x8 → AtW p l e rmX11_parts s m args below meth c dC dI A Q 11 0 0 (ceX11_parts cyI cyB cyJ cyZ a0 a1 a2 a3 a4 a5 a6 b0_image b0_before b0_taken b0_tape b0_five b0_value b0_far b0_lead b0_walk b0_ends b0_round b0_farOne b0_leads b0_drags b0_from b0_near g0_hasImage g0_remembered g0_taped g0_point g0_end g0_begin g0_deep g0_faultAt g0_steps g0_men g0_dogs f1 g0_thrown f2 f3 f4 f5 f6) [(0, .ref a0), (4, .int x4), (5, .int x5), (6, .int x6), (7, .int x7), (8, .int x8)] 109 []) (hk94 : ∀ (g0_thrown : Int32) (f2 : Nat → Int32) (f3 : Nat → Int32) (f4 : Nat → Int32) (f5 : Nat → Int32) (f6 : Nat → Int32) (x4 : Int32) (x5 : Int32) (x6 : Int32), k94 g0_thrown f2 f3 f4 f5 f6 x4 x5 x6 → AtW p l e rmX11_parts s m args below meth c dC dI A Q 11 0 0 (ceX11_parts cyI cyB cyJ cyZ a0 a1 a2 a3 a4 a5 a6 b0_image b0_before b0_taken b0_tape b0_five b0_value b0_far b0_lead b0_walk b0_ends b0_round b0_farOne b0_leads b0_drags b0_from b0_near g0_hasImage g0_remembered g0_taped g0_point g0_end g0_begin g0_deep g0_faultAt g0_steps g0_men g0_dogs f1 g0_thrown f2 f3 f4 f5 f6) [(0, .ref a0), (4, .int x4), (5, .int x5), (6, .int x6)] 94 []) : ∀ (g0_thrown : Int32) (f2 : Nat → Int32) (f3 : Nat → Int32) (f4 : Nat → Int32) (f5 : Nat → Int32) (f6 : Nat → Int32) (x4 : Int32) (x5 : Int32) (x6 : Int32) (x8 : Int32) (x9 : Int32) (s0 : Int32), wpX11_parts_180 k109 k94 post f1 g0_thrown f2 f3 f4 f5 f6 x4 x5 x6 x8 x9 s0 → AtW p l e rmX11_parts s m args below meth c dC dI A Q 11 0 0 (ceX11_parts cyI cyB cyJ cyZ a0 a1 a2 a3 a4 a5 a6 b0_image b0_before b0_taken b0_tape b0_five b0_value b0_far b0_lead b0_walk b0_ends b0_round b0_farOne b0_leads b0_drags b0_from b0_near g0_hasImage g0_remembered g0_taped g0_point g0_end g0_begin g0_deep g0_faultAt g0_steps g0_men g0_dogs f1 g0_thrown f2 f3 f4 f5 f6) [(0, .ref a0), (4, .int x4), (5, .int x5), (6, .int x6), (8, .int x8), (9, .int x9)] 180 [.int s0] := by
  intro g0_thrown f2 f3 f4 f5 f6 x4 x5 x6 x8 x9 s0 hw H locs hP hD hS ls hl
  have C1 := C0
  obtain ⟨hx, hb, hr, hml, hown, hts, hlocks⟩ := C1
  refine lv_istore (lv' := [(10, .int s0), (0, .ref a0), (4, .int x4), (5, .int x5), (6, .int x6), (8, .int x8), (9, .int x9)]) hx hb dX11_parts_180 hl (by decide) rfl (fun ls hl => ?_)
  refine lv_aload_n hx hb dX11_parts_182 rfl (lv_at hl 1 rfl) ?_
  refine va_get (D := (dC, dI)) (ci := 11) (v := .ref a6) (C := RX11) (T := TX11) (N := 34) hx hb hts inX11_parts_X11 hown hK hP 0 rfl rfl 27 (by decide) (hts (.fieldLink RX11 64 "LeadParkModel" "row" "[I") (List.mem_of_getElem? (i := 7) rfl)) (fun _ h9 => h9) rfl dX11_parts_183 ?_
  refine lv_iload hx hb dX11_parts_186 (lv_at hl 5 rfl) ?_
  refine lv_aload_n hx hb dX11_parts_188 rfl (lv_at hl 1 rfl) ?_
  refine va_get (D := (dC, dI)) (ci := 11) (v := .ref a2) (C := RX11) (T := TX11) (N := 34) hx hb hts inX11_parts_X11 hown hK hP 0 rfl rfl 23 (by decide) (hts (.fieldLink RX11 52 "LeadParkModel" "manX" "[I") (List.mem_of_getElem? (i := 2) rfl)) (fun _ h9 => h9) rfl dX11_parts_189 ?_
  refine lv_iload hx hb dX11_parts_192 (lv_at hl 4 rfl) ?_
  obtain ⟨hi, hw⟩ := hw
  refine va_iald hx hb hK hP 2 0 rfl rfl hi dX11_parts_194 ?_
  refine lv_aload_n hx hb dX11_parts_195 rfl (lv_at hl 1 rfl) ?_
  refine va_get (D := (dC, dI)) (ci := 11) (v := .ref a3) (C := RX11) (T := TX11) (N := 34) hx hb hts inX11_parts_X11 hown hK hP 0 rfl rfl 24 (by decide) (hts (.fieldLink RX11 55 "LeadParkModel" "manY" "[I") (List.mem_of_getElem? (i := 3) rfl)) (fun _ h9 => h9) rfl dX11_parts_196 ?_
  refine lv_iload hx hb dX11_parts_199 (lv_at hl 4 rfl) ?_
  obtain ⟨hi, hw⟩ := hw
  refine va_iald hx hb hK hP 3 0 rfl rfl hi dX11_parts_201 ?_
  refine lv_aload_n hx hb dX11_parts_202 rfl (lv_at hl 1 rfl) ?_
  refine va_get (D := (dC, dI)) (ci := 11) (v := .ref a4) (C := RX11) (T := TX11) (N := 34) hx hb hts inX11_parts_X11 hown hK hP 0 rfl rfl 25 (by decide) (hts (.fieldLink RX11 58 "LeadParkModel" "dogX" "[I") (List.mem_of_getElem? (i := 4) rfl)) (fun _ h9 => h9) rfl dX11_parts_203 ?_
  refine lv_iload hx hb dX11_parts_206 (lv_at hl 5 rfl) ?_
  obtain ⟨hi, hw⟩ := hw
  refine va_iald hx hb hK hP 4 0 rfl rfl hi dX11_parts_208 ?_
  refine lv_aload_n hx hb dX11_parts_209 rfl (lv_at hl 1 rfl) ?_
  refine va_get (D := (dC, dI)) (ci := 11) (v := .ref a5) (C := RX11) (T := TX11) (N := 34) hx hb hts inX11_parts_X11 hown hK hP 0 rfl rfl 26 (by decide) (hts (.fieldLink RX11 61 "LeadParkModel" "dogY" "[I") (List.mem_of_getElem? (i := 5) rfl)) (fun _ h9 => h9) rfl dX11_parts_210 ?_
  refine lv_iload hx hb dX11_parts_213 (lv_at hl 5 rfl) ?_
  obtain ⟨hi, hw⟩ := hw
  refine va_iald hx hb hK hP 5 0 rfl rfl hi dX11_parts_215 ?_
  have hPc := hP.sub (ws' := ([] : va_W)) [] rfl
  have hDc := hD.sub (ws' := ([] : va_W)) [] (by decide) rfl
  have hFc := va_free (wc := ([] : va_W)) hD hS hA [] rfl
  refine va_calli (va_runS (As := [.int (f2 x6.toNatClampNeg), .int (f3 x6.toNatClampNeg), .int (f4 x8.toNatClampNeg), .int (f5 x8.toNatClampNeg)]) (rest := [.int x8, .ref a6]) ⟨hx, hb, hml, hown, hts⟩ (ctX11_farOf l dC dI cyI cyB cyJ cyZ _ (f2 x6.toNatClampNeg) (f3 x6.toNatClampNeg) (f4 x8.toNatClampNeg) (f5 x8.toNatClampNeg) _ hw) (va_cwS 4 hts gX11_parts_X11_farOf rfl rfl rfl (by decide +kernel) ⟨Nat.le_of_ble_eq_true rfl, Nat.le_of_ble_eq_true rfl⟩) ⟨wPre_blind, fun U hU hW => wPre_of hPc hK hDc hN hU hW⟩ rfl rfl hl.1 rfl (lv_room (Nat.le_of_ble_eq_true rfl)) dX11_parts_216 ⟨(Nat.zero_le _), (Nat.zero_le _)⟩) hS (fun q _ h => hFc q h) hFc (fun r2 u1 t H1 locs ht hvm hw hB hz1 hk1 hS => ?_)
  obtain ⟨hP1, hK1, hD1⟩ := hB
  rw [ht] at hP1
  obtain ⟨hP, hD⟩ := va_join (wr := pickW (ceX11_parts cyI cyB cyJ cyZ a0 a1 a2 a3 a4 a5 a6 b0_image b0_before b0_taken b0_tape b0_five b0_value b0_far b0_lead b0_walk b0_ends b0_round b0_farOne b0_leads b0_drags b0_from b0_near g0_hasImage g0_remembered g0_taped g0_point g0_end g0_begin g0_deep g0_faultAt g0_steps g0_men g0_dogs f1 g0_thrown f2 f3 f4 f5 f6) [0, 1, 2, 3, 4, 5, 6]) (w1 := ([] : va_W)) hP hD [] [0, 1, 2, 3, 4, 5, 6] rfl rfl (by decide) (by decide) hk1 hFc hP1 hD1
  have hP := hP.sub (ws' := (ceX11_parts cyI cyB cyJ cyZ a0 a1 a2 a3 a4 a5 a6 b0_image b0_before b0_taken b0_tape b0_five b0_value b0_far b0_lead b0_walk b0_ends b0_round b0_farOne b0_leads b0_drags b0_from b0_near g0_hasImage g0_remembered g0_taped g0_point g0_end g0_begin g0_deep g0_faultAt g0_steps g0_men g0_dogs f1 g0_thrown f2 f3 f4 f5 f6)) [0, 1, 2, 3, 4, 5, 6] rfl
  have hD := hD.sub (ws' := (ceX11_parts cyI cyB cyJ cyZ a0 a1 a2 a3 a4 a5 a6 b0_image b0_before b0_taken b0_tape b0_five b0_value b0_far b0_lead b0_walk b0_ends b0_round b0_farOne b0_leads b0_drags b0_from b0_near g0_hasImage g0_remembered g0_taped g0_point g0_end g0_begin g0_deep g0_faultAt g0_steps g0_men g0_dogs f1 g0_thrown f2 f3 f4 f5 f6)) [0, 1, 2, 3, 4, 5, 6] (by decide) rfl
  generalize H1 = H at hP hS ⊢
  refine lv_iload hx hb dX11_parts_219 (lv_at hl 0 rfl) ?_
  refine va_mmax hx hb (hml.trans hl.1.symm) hown (hts (.methodLink RX11 273 Lib.Math.max.name) (List.mem_of_getElem? (i := 12) rfl)) (hts (.static Lib.Math.max.name) (List.mem_of_getElem? (i := 13) rfl)) (hts (.initialized "java/lang/Math") (List.mem_of_getElem? (i := 10) rfl)) (hts (.code Lib.Math.max.name Lib.Math.max.code 2 (some .int)) (List.mem_of_getElem? (i := 14) rfl)) (Nat.le_of_ble_eq_true rfl) (Nat.le_of_ble_eq_true rfl) (by decide) (by decide) dX11_parts_221 ?_
  obtain ⟨hi, hw⟩ := hw
  refine va_iast hx hb hK hP hD hS 6 0 rfl rfl hi dX11_parts_224 (fun H locs hP hD hS => ?_)
  have hP : va_P (dC, dI) vwCl (ceX11_parts cyI cyB cyJ cyZ a0 a1 a2 a3 a4 a5 a6 b0_image b0_before b0_taken b0_tape b0_five b0_value b0_far b0_lead b0_walk b0_ends b0_round b0_farOne b0_leads b0_drags b0_from b0_near g0_hasImage g0_remembered g0_taped g0_point g0_end g0_begin g0_deep g0_faultAt g0_steps g0_men g0_dogs f1 g0_thrown f2 f3 f4 f5 (upd f6 x8.toNatClampNeg (iMax r2 s0))) H := hP
  have hD : va_D A (ceX11_parts cyI cyB cyJ cyZ a0 a1 a2 a3 a4 a5 a6 b0_image b0_before b0_taken b0_tape b0_five b0_value b0_far b0_lead b0_walk b0_ends b0_round b0_farOne b0_leads b0_drags b0_from b0_near g0_hasImage g0_remembered g0_taped g0_point g0_end g0_begin g0_deep g0_faultAt g0_steps g0_men g0_dogs f1 g0_thrown f2 f3 f4 f5 (upd f6 x8.toNatClampNeg (iMax r2 s0))) := hD
  refine lv_iload hx hb dX11_parts_225 (lv_at hl 6 rfl) ?_
  refine lv_istore (lv' := [(7, .int x9), (10, .int s0), (0, .ref a0), (4, .int x4), (5, .int x5), (6, .int x6), (8, .int x8), (9, .int x9)]) hx hb dX11_parts_227 hl (by decide) rfl (fun ls hl => ?_)
  obtain ⟨v3, ev3⟩ : ∃ y : Int32, y = x8 + 1 := ⟨_, rfl⟩
  have hw := hw v3 ev3
  refine lv_iinc (v := v3) (lv' := [(8, .int v3), (7, .int x9), (10, .int s0), (0, .ref a0), (4, .int x4), (5, .int x5), (6, .int x6), (9, .int x9)]) hx hb dX11_parts_229 hl (k := 6) rfl (by rw [ev3]; rfl) (by decide) rfl (fun ls hl => ?_)
  refine lv_goto (tgt := 109) hx hb dX11_parts_232 (by decide) ?_
  exact hk109 g0_thrown f2 f3 f4 f5 (upd f6 x8.toNatClampNeg (iMax r2 s0)) x4 x5 x6 x9 v3 hw H locs hP hD hS ls (lv_sub hl [3, 4, 5, 6, 1, 0] rfl)
set_option maxRecDepth 100000 in
set_option maxHeartbeats 4000000 in
theorem bX11_parts_174 {p : Program} {l : Launch} {e : Env} {s : State} {m : MethodId} {args : Array Value} {below : List Frame} {meth : Method} {c : Code} {dC : Nat → ClassId} {dI : Nat → Nat → Nat} {cyI cyB cyJ cyZ : ClassId} {A : Nat → Prop} {a0 a1 a2 a3 a4 a5 a6 b0_image b0_before b0_taken b0_tape b0_five b0_value b0_far b0_lead b0_walk b0_ends b0_round b0_farOne b0_leads b0_drags b0_from b0_near : Nat} {g0_hasImage : Int32} {g0_remembered : Int32} {g0_taped : Int32} {g0_point : Int32} {g0_end : Int32} {g0_begin : Int32} {g0_deep : Int32} {g0_faultAt : Int32} {g0_steps : Int32} {g0_men : Int32} {g0_dogs : Int32} (C0 : cxM p s m meth c args wsX11_parts RX11 cX11_parts 11 (some .long)) (hK : va_K (dC, dI) vwCl (tyA cyI cyB cyJ cyZ) s) (hN : nwA s) (hA : ∀ q : Nat, s.heap.size ≤ q → A q) {post : Int64 → (Int32 × (Nat → Int32) × (Nat → Int32) × (Nat → Int32) × (Nat → Int32) × (Nat → Int32)) → Prop} {f1 : Nat → Int32} {k109 : Int32 → (Nat → Int32) → (Nat → Int32) → (Nat → Int32) → (Nat → Int32) → (Nat → Int32) → Int32 → Int32 → Int32 → Int32 → Int32 → Prop} {k94 : Int32 → (Nat → Int32) → (Nat → Int32) → (Nat → Int32) → (Nat → Int32) → (Nat → Int32) → Int32 → Int32 → Int32 → Prop} {Q : State → Prop} (hQ : Q = MQ below (va_Ql post (fun u : Int32 × (Nat → Int32) × (Nat → Int32) × (Nat → Int32) × (Nat → Int32) × (Nat → Int32) => wAt dC dI cyI cyB cyJ cyZ A (ceX11_parts cyI cyB cyJ cyZ a0 a1 a2 a3 a4 a5 a6 b0_image b0_before b0_taken b0_tape b0_five b0_value b0_far b0_lead b0_walk b0_ends b0_round b0_farOne b0_leads b0_drags b0_from b0_near g0_hasImage g0_remembered g0_taped g0_point g0_end g0_begin g0_deep g0_faultAt g0_steps g0_men g0_dogs f1 u.1 u.2.1 u.2.2.1 u.2.2.2.1 u.2.2.2.2.1 u.2.2.2.2.2)) A) args s 0 0 A) (hk109 : ∀ (g0_thrown : Int32) (f2 : Nat → Int32) (f3 : Nat → Int32) (f4 : Nat → Int32) (f5 : Nat → Int32) (f6 : Nat → Int32) (x4 : Int32) (x5 : Int32) (x6 : Int32) (x7 : Int32) (x8 : Int32), k109 g0_thrown f2 f3 f4 f5 f6 x4 x5 x6 x7 x8 → AtW p l e rmX11_parts s m args below meth c dC dI A Q 11 0 0 (ceX11_parts cyI cyB cyJ cyZ a0 a1 a2 a3 a4 a5 a6 b0_image b0_before b0_taken b0_tape b0_five b0_value b0_far b0_lead b0_walk b0_ends b0_round b0_farOne b0_leads b0_drags b0_from b0_near g0_hasImage g0_remembered g0_taped g0_point g0_end g0_begin g0_deep g0_faultAt g0_steps g0_men g0_dogs f1 g0_thrown f2 f3 f4 f5 f6) [(0, .ref a0), (4, .int x4), (5, .int x5), (6, .int x6), (7, .int x7), (8, .int x8)] 109 []) (hk94 : ∀ (g0_thrown : Int32) (f2 : Nat → Int32) (f3 : Nat → Int32) (f4 : Nat → Int32) (f5 : Nat → Int32) (f6 : Nat → Int32) (x4 : Int32) (x5 : Int32) (x6 : Int32), k94 g0_thrown f2 f3 f4 f5 f6 x4 x5 x6 → AtW p l e rmX11_parts s m args below meth c dC dI A Q 11 0 0 (ceX11_parts cyI cyB cyJ cyZ a0 a1 a2 a3 a4 a5 a6 b0_image b0_before b0_taken b0_tape b0_five b0_value b0_far b0_lead b0_walk b0_ends b0_round b0_farOne b0_leads b0_drags b0_from b0_near g0_hasImage g0_remembered g0_taped g0_point g0_end g0_begin g0_deep g0_faultAt g0_steps g0_men g0_dogs f1 g0_thrown f2 f3 f4 f5 f6) [(0, .ref a0), (4, .int x4), (5, .int x5), (6, .int x6)] 94 []) : ∀ (g0_thrown : Int32) (f2 : Nat → Int32) (f3 : Nat → Int32) (f4 : Nat → Int32) (f5 : Nat → Int32) (f6 : Nat → Int32) (x4 : Int32) (x5 : Int32) (x6 : Int32) (x8 : Int32) (x9 : Int32) (s0 : Int32) (s1 : Int32) (s2 : Int32), wpX11_parts_174 k109 k94 post f1 g0_thrown f2 f3 f4 f5 f6 x4 x5 x6 x8 x9 s0 s1 s2 → AtW p l e rmX11_parts s m args below meth c dC dI A Q 11 0 0 (ceX11_parts cyI cyB cyJ cyZ a0 a1 a2 a3 a4 a5 a6 b0_image b0_before b0_taken b0_tape b0_five b0_value b0_far b0_lead b0_walk b0_ends b0_round b0_farOne b0_leads b0_drags b0_from b0_near g0_hasImage g0_remembered g0_taped g0_point g0_end g0_begin g0_deep g0_faultAt g0_steps g0_men g0_dogs f1 g0_thrown f2 f3 f4 f5 f6) [(0, .ref a0), (4, .int x4), (5, .int x5), (6, .int x6), (8, .int x8), (9, .int x9)] 174 [.int s2, .int s1, .int s0] := by
  intro g0_thrown f2 f3 f4 f5 f6 x4 x5 x6 x8 x9 s0 s1 s2 hw H locs hP hD hS ls hl
  have C1 := C0
  obtain ⟨hx, hb, hr, hml, hown, hts, hlocks⟩ := C1
  refine va_mmin hx hb (hml.trans hl.1.symm) hown (hts (.methodLink RX11 268 Lib.Math.min.name) (List.mem_of_getElem? (i := 8) rfl)) (hts (.static Lib.Math.min.name) (List.mem_of_getElem? (i := 9) rfl)) (hts (.initialized "java/lang/Math") (List.mem_of_getElem? (i := 10) rfl)) (hts (.code Lib.Math.min.name Lib.Math.min.code 2 (some .int)) (List.mem_of_getElem? (i := 11) rfl)) (Nat.le_of_ble_eq_true rfl) (Nat.le_of_ble_eq_true rfl) (by decide) (by decide) dX11_parts_174 ?_
  refine va_mmin hx hb (hml.trans hl.1.symm) hown (hts (.methodLink RX11 268 Lib.Math.min.name) (List.mem_of_getElem? (i := 8) rfl)) (hts (.static Lib.Math.min.name) (List.mem_of_getElem? (i := 9) rfl)) (hts (.initialized "java/lang/Math") (List.mem_of_getElem? (i := 10) rfl)) (hts (.code Lib.Math.min.name Lib.Math.min.code 2 (some .int)) (List.mem_of_getElem? (i := 11) rfl)) (Nat.le_of_ble_eq_true rfl) (Nat.le_of_ble_eq_true rfl) (by decide) (by decide) dX11_parts_177 ?_
  exact bX11_parts_180 C0 hK hN hA hQ hk109 hk94 g0_thrown f2 f3 f4 f5 f6 x4 x5 x6 x8 x9 (iMin s0 (iMin s1 s2)) hw _ _ hP hD hS ls (lv_sub hl [0, 1, 2, 3, 4, 5] rfl)
set_option maxRecDepth 100000 in
set_option maxHeartbeats 4000000 in
theorem bX11_parts_150 {p : Program} {l : Launch} {e : Env} {s : State} {m : MethodId} {args : Array Value} {below : List Frame} {meth : Method} {c : Code} {dC : Nat → ClassId} {dI : Nat → Nat → Nat} {cyI cyB cyJ cyZ : ClassId} {A : Nat → Prop} {a0 a1 a2 a3 a4 a5 a6 b0_image b0_before b0_taken b0_tape b0_five b0_value b0_far b0_lead b0_walk b0_ends b0_round b0_farOne b0_leads b0_drags b0_from b0_near : Nat} {g0_hasImage : Int32} {g0_remembered : Int32} {g0_taped : Int32} {g0_point : Int32} {g0_end : Int32} {g0_begin : Int32} {g0_deep : Int32} {g0_faultAt : Int32} {g0_steps : Int32} {g0_men : Int32} {g0_dogs : Int32} (C0 : cxM p s m meth c args wsX11_parts RX11 cX11_parts 11 (some .long)) (hK : va_K (dC, dI) vwCl (tyA cyI cyB cyJ cyZ) s) (hN : nwA s) (hA : ∀ q : Nat, s.heap.size ≤ q → A q) {post : Int64 → (Int32 × (Nat → Int32) × (Nat → Int32) × (Nat → Int32) × (Nat → Int32) × (Nat → Int32)) → Prop} {f1 : Nat → Int32} {k109 : Int32 → (Nat → Int32) → (Nat → Int32) → (Nat → Int32) → (Nat → Int32) → (Nat → Int32) → Int32 → Int32 → Int32 → Int32 → Int32 → Prop} {k94 : Int32 → (Nat → Int32) → (Nat → Int32) → (Nat → Int32) → (Nat → Int32) → (Nat → Int32) → Int32 → Int32 → Int32 → Prop} {Q : State → Prop} (hQ : Q = MQ below (va_Ql post (fun u : Int32 × (Nat → Int32) × (Nat → Int32) × (Nat → Int32) × (Nat → Int32) × (Nat → Int32) => wAt dC dI cyI cyB cyJ cyZ A (ceX11_parts cyI cyB cyJ cyZ a0 a1 a2 a3 a4 a5 a6 b0_image b0_before b0_taken b0_tape b0_five b0_value b0_far b0_lead b0_walk b0_ends b0_round b0_farOne b0_leads b0_drags b0_from b0_near g0_hasImage g0_remembered g0_taped g0_point g0_end g0_begin g0_deep g0_faultAt g0_steps g0_men g0_dogs f1 u.1 u.2.1 u.2.2.1 u.2.2.2.1 u.2.2.2.2.1 u.2.2.2.2.2)) A) args s 0 0 A) (hk109 : ∀ (g0_thrown : Int32) (f2 : Nat → Int32) (f3 : Nat → Int32) (f4 : Nat → Int32) (f5 : Nat → Int32) (f6 : Nat → Int32) (x4 : Int32) (x5 : Int32) (x6 : Int32) (x7 : Int32) (x8 : Int32), k109 g0_thrown f2 f3 f4 f5 f6 x4 x5 x6 x7 x8 → AtW p l e rmX11_parts s m args below meth c dC dI A Q 11 0 0 (ceX11_parts cyI cyB cyJ cyZ a0 a1 a2 a3 a4 a5 a6 b0_image b0_before b0_taken b0_tape b0_five b0_value b0_far b0_lead b0_walk b0_ends b0_round b0_farOne b0_leads b0_drags b0_from b0_near g0_hasImage g0_remembered g0_taped g0_point g0_end g0_begin g0_deep g0_faultAt g0_steps g0_men g0_dogs f1 g0_thrown f2 f3 f4 f5 f6) [(0, .ref a0), (4, .int x4), (5, .int x5), (6, .int x6), (7, .int x7), (8, .int x8)] 109 []) (hk94 : ∀ (g0_thrown : Int32) (f2 : Nat → Int32) (f3 : Nat → Int32) (f4 : Nat → Int32) (f5 : Nat → Int32) (f6 : Nat → Int32) (x4 : Int32) (x5 : Int32) (x6 : Int32), k94 g0_thrown f2 f3 f4 f5 f6 x4 x5 x6 → AtW p l e rmX11_parts s m args below meth c dC dI A Q 11 0 0 (ceX11_parts cyI cyB cyJ cyZ a0 a1 a2 a3 a4 a5 a6 b0_image b0_before b0_taken b0_tape b0_five b0_value b0_far b0_lead b0_walk b0_ends b0_round b0_farOne b0_leads b0_drags b0_from b0_near g0_hasImage g0_remembered g0_taped g0_point g0_end g0_begin g0_deep g0_faultAt g0_steps g0_men g0_dogs f1 g0_thrown f2 f3 f4 f5 f6) [(0, .ref a0), (4, .int x4), (5, .int x5), (6, .int x6)] 94 []) : ∀ (g0_thrown : Int32) (f2 : Nat → Int32) (f3 : Nat → Int32) (f4 : Nat → Int32) (f5 : Nat → Int32) (f6 : Nat → Int32) (x4 : Int32) (x5 : Int32) (x6 : Int32) (x7 : Int32) (x8 : Int32) (x9 : Int32), wpX11_parts_150 k109 k94 post f1 g0_thrown f2 f3 f4 f5 f6 x4 x5 x6 x7 x8 x9 → AtW p l e rmX11_parts s m args below meth c dC dI A Q 11 0 0 (ceX11_parts cyI cyB cyJ cyZ a0 a1 a2 a3 a4 a5 a6 b0_image b0_before b0_taken b0_tape b0_five b0_value b0_far b0_lead b0_walk b0_ends b0_round b0_farOne b0_leads b0_drags b0_from b0_near g0_hasImage g0_remembered g0_taped g0_point g0_end g0_begin g0_deep g0_faultAt g0_steps g0_men g0_dogs f1 g0_thrown f2 f3 f4 f5 f6) [(0, .ref a0), (4, .int x4), (5, .int x5), (6, .int x6), (7, .int x7), (8, .int x8), (9, .int x9)] 150 [] := by
  intro g0_thrown f2 f3 f4 f5 f6 x4 x5 x6 x7 x8 x9 hw H locs hP hD hS ls hl
  have C1 := C0
  obtain ⟨hx, hb, hr, hml, hown, hts, hlocks⟩ := C1
  refine lv_iload hx hb dX11_parts_150 (lv_at hl 4 rfl) ?_
  refine lv_iload hx hb dX11_parts_152 (lv_at hl 6 rfl) ?_
  refine lv_iload hx hb dX11_parts_154 (lv_at hl 5 rfl) ?_
  refine lv_if_ne (tgt := 165) hx hb dX11_parts_156 (by decide) (fun hc => ?_) (fun hc => ?_)
  · have hw := hw.1 hc
    refine lv_aload_n hx hb dX11_parts_165 rfl (lv_at hl 0 rfl) ?_
    refine va_get (D := (dC, dI)) (ci := 11) (v := .ref a6) (C := RX11) (T := TX11) (N := 34) hx hb hts inX11_parts_X11 hown hK hP 0 rfl rfl 27 (by decide) (hts (.fieldLink RX11 64 "LeadParkModel" "row" "[I") (List.mem_of_getElem? (i := 7) rfl)) (fun _ h9 => h9) rfl dX11_parts_166 ?_
    refine lv_iload hx hb dX11_parts_169 (lv_at hl 5 rfl) ?_
    refine lv_iconst (v := 1) hx hb dX11_parts_171 (by decide) ?_
    refine lv_isub hx hb dX11_parts_172 ?_
    obtain ⟨hi, hw⟩ := hw
    refine va_iald hx hb hK hP 6 0 rfl rfl hi dX11_parts_173 ?_
    exact bX11_parts_174 C0 hK hN hA hQ hk109 hk94 g0_thrown f2 f3 f4 f5 f6 x4 x5 x6 x8 x9 x7 x9 (f6 (x8 - 1).toNatClampNeg) hw _ _ hP hD hS ls (lv_sub hl [0, 1, 2, 3, 5, 6] rfl)
  · have hw := hw.2 hc
    refine lv_ldcw (v := 2000000000) hx hb hown (hts (.constant RX11 306 (2000000000)) (List.mem_of_getElem? (i := 6) rfl)) dX11_parts_159 ?_
    refine lv_goto (tgt := 174) hx hb dX11_parts_162 (by decide) ?_
    exact bX11_parts_174 C0 hK hN hA hQ hk109 hk94 g0_thrown f2 f3 f4 f5 f6 x4 x5 x6 x8 x9 x7 x9 2000000000 hw _ _ hP hD hS ls (lv_sub hl [0, 1, 2, 3, 5, 6] rfl)
set_option maxRecDepth 100000 in
set_option maxHeartbeats 4000000 in
theorem bX11_parts_134 {p : Program} {l : Launch} {e : Env} {s : State} {m : MethodId} {args : Array Value} {below : List Frame} {meth : Method} {c : Code} {dC : Nat → ClassId} {dI : Nat → Nat → Nat} {cyI cyB cyJ cyZ : ClassId} {A : Nat → Prop} {a0 a1 a2 a3 a4 a5 a6 b0_image b0_before b0_taken b0_tape b0_five b0_value b0_far b0_lead b0_walk b0_ends b0_round b0_farOne b0_leads b0_drags b0_from b0_near : Nat} {g0_hasImage : Int32} {g0_remembered : Int32} {g0_taped : Int32} {g0_point : Int32} {g0_end : Int32} {g0_begin : Int32} {g0_deep : Int32} {g0_faultAt : Int32} {g0_steps : Int32} {g0_men : Int32} {g0_dogs : Int32} (C0 : cxM p s m meth c args wsX11_parts RX11 cX11_parts 11 (some .long)) (hK : va_K (dC, dI) vwCl (tyA cyI cyB cyJ cyZ) s) (hN : nwA s) (hA : ∀ q : Nat, s.heap.size ≤ q → A q) {post : Int64 → (Int32 × (Nat → Int32) × (Nat → Int32) × (Nat → Int32) × (Nat → Int32) × (Nat → Int32)) → Prop} {f1 : Nat → Int32} {k109 : Int32 → (Nat → Int32) → (Nat → Int32) → (Nat → Int32) → (Nat → Int32) → (Nat → Int32) → Int32 → Int32 → Int32 → Int32 → Int32 → Prop} {k94 : Int32 → (Nat → Int32) → (Nat → Int32) → (Nat → Int32) → (Nat → Int32) → (Nat → Int32) → Int32 → Int32 → Int32 → Prop} {Q : State → Prop} (hQ : Q = MQ below (va_Ql post (fun u : Int32 × (Nat → Int32) × (Nat → Int32) × (Nat → Int32) × (Nat → Int32) × (Nat → Int32) => wAt dC dI cyI cyB cyJ cyZ A (ceX11_parts cyI cyB cyJ cyZ a0 a1 a2 a3 a4 a5 a6 b0_image b0_before b0_taken b0_tape b0_five b0_value b0_far b0_lead b0_walk b0_ends b0_round b0_farOne b0_leads b0_drags b0_from b0_near g0_hasImage g0_remembered g0_taped g0_point g0_end g0_begin g0_deep g0_faultAt g0_steps g0_men g0_dogs f1 u.1 u.2.1 u.2.2.1 u.2.2.2.1 u.2.2.2.2.1 u.2.2.2.2.2)) A) args s 0 0 A) (hk109 : ∀ (g0_thrown : Int32) (f2 : Nat → Int32) (f3 : Nat → Int32) (f4 : Nat → Int32) (f5 : Nat → Int32) (f6 : Nat → Int32) (x4 : Int32) (x5 : Int32) (x6 : Int32) (x7 : Int32) (x8 : Int32), k109 g0_thrown f2 f3 f4 f5 f6 x4 x5 x6 x7 x8 → AtW p l e rmX11_parts s m args below meth c dC dI A Q 11 0 0 (ceX11_parts cyI cyB cyJ cyZ a0 a1 a2 a3 a4 a5 a6 b0_image b0_before b0_taken b0_tape b0_five b0_value b0_far b0_lead b0_walk b0_ends b0_round b0_farOne b0_leads b0_drags b0_from b0_near g0_hasImage g0_remembered g0_taped g0_point g0_end g0_begin g0_deep g0_faultAt g0_steps g0_men g0_dogs f1 g0_thrown f2 f3 f4 f5 f6) [(0, .ref a0), (4, .int x4), (5, .int x5), (6, .int x6), (7, .int x7), (8, .int x8)] 109 []) (hk94 : ∀ (g0_thrown : Int32) (f2 : Nat → Int32) (f3 : Nat → Int32) (f4 : Nat → Int32) (f5 : Nat → Int32) (f6 : Nat → Int32) (x4 : Int32) (x5 : Int32) (x6 : Int32), k94 g0_thrown f2 f3 f4 f5 f6 x4 x5 x6 → AtW p l e rmX11_parts s m args below meth c dC dI A Q 11 0 0 (ceX11_parts cyI cyB cyJ cyZ a0 a1 a2 a3 a4 a5 a6 b0_image b0_before b0_taken b0_tape b0_five b0_value b0_far b0_lead b0_walk b0_ends b0_round b0_farOne b0_leads b0_drags b0_from b0_near g0_hasImage g0_remembered g0_taped g0_point g0_end g0_begin g0_deep g0_faultAt g0_steps g0_men g0_dogs f1 g0_thrown f2 f3 f4 f5 f6) [(0, .ref a0), (4, .int x4), (5, .int x5), (6, .int x6)] 94 []) : ∀ (g0_thrown : Int32) (f2 : Nat → Int32) (f3 : Nat → Int32) (f4 : Nat → Int32) (f5 : Nat → Int32) (f6 : Nat → Int32) (x4 : Int32) (x5 : Int32) (x6 : Int32) (x7 : Int32) (x8 : Int32) (s0 : Int32), wpX11_parts_134 k109 k94 post f1 g0_thrown f2 f3 f4 f5 f6 x4 x5 x6 x7 x8 s0 → AtW p l e rmX11_parts s m args below meth c dC dI A Q 11 0 0 (ceX11_parts cyI cyB cyJ cyZ a0 a1 a2 a3 a4 a5 a6 b0_image b0_before b0_taken b0_tape b0_five b0_value b0_far b0_lead b0_walk b0_ends b0_round b0_farOne b0_leads b0_drags b0_from b0_near g0_hasImage g0_remembered g0_taped g0_point g0_end g0_begin g0_deep g0_faultAt g0_steps g0_men g0_dogs f1 g0_thrown f2 f3 f4 f5 f6) [(0, .ref a0), (4, .int x4), (5, .int x5), (6, .int x6), (7, .int x7), (8, .int x8)] 134 [.int s0] := by
  intro g0_thrown f2 f3 f4 f5 f6 x4 x5 x6 x7 x8 s0 hw H locs hP hD hS ls hl
  have C1 := C0
  obtain ⟨hx, hb, hr, hml, hown, hts, hlocks⟩ := C1
  refine lv_istore (lv' := [(9, .int s0), (0, .ref a0), (4, .int x4), (5, .int x5), (6, .int x6), (7, .int x7), (8, .int x8)]) hx hb dX11_parts_134 hl (by decide) rfl (fun ls hl => ?_)
  refine lv_iload hx hb dX11_parts_136 (lv_at hl 4 rfl) ?_
  refine lv_if_ne (tgt := 150) hx hb dX11_parts_138 (by decide) (fun hc => ?_) (fun hc => ?_)
  · have hw := hw.1 hc
    exact bX11_parts_150 C0 hK hN hA hQ hk109 hk94 g0_thrown f2 f3 f4 f5 f6 x4 x5 x6 x7 x8 s0 hw _ _ hP hD hS ls (lv_sub hl [1, 2, 3, 4, 5, 6, 0] rfl)
  · have hw := hw.2 hc
    refine lv_iload hx hb dX11_parts_141 (lv_at hl 6 rfl) ?_
    refine lv_if_ne (tgt := 150) hx hb dX11_parts_143 (by decide) (fun hc => ?_) (fun hc => ?_)
    · have hw := hw.1 hc
      exact bX11_parts_150 C0 hK hN hA hQ hk109 hk94 g0_thrown f2 f3 f4 f5 f6 x4 x5 x6 x7 x8 s0 hw _ _ hP hD hS ls (lv_sub hl [1, 2, 3, 4, 5, 6, 0] rfl)
    · have hw := hw.2 hc
      refine lv_iconst (v := 0) hx hb dX11_parts_146 (by decide) ?_
      refine lv_goto (tgt := 180) hx hb dX11_parts_147 (by decide) ?_
      exact bX11_parts_180 C0 hK hN hA hQ hk109 hk94 g0_thrown f2 f3 f4 f5 f6 x4 x5 x6 x8 s0 0 hw _ _ hP hD hS ls (lv_sub hl [1, 2, 3, 4, 6, 0] rfl)
set_option maxRecDepth 100000 in
set_option maxHeartbeats 4000000 in
theorem bX11_parts_109 {p : Program} {l : Launch} {e : Env} {s : State} {m : MethodId} {args : Array Value} {below : List Frame} {meth : Method} {c : Code} {dC : Nat → ClassId} {dI : Nat → Nat → Nat} {cyI cyB cyJ cyZ : ClassId} {A : Nat → Prop} {a0 a1 a2 a3 a4 a5 a6 b0_image b0_before b0_taken b0_tape b0_five b0_value b0_far b0_lead b0_walk b0_ends b0_round b0_farOne b0_leads b0_drags b0_from b0_near : Nat} {g0_hasImage : Int32} {g0_remembered : Int32} {g0_taped : Int32} {g0_point : Int32} {g0_end : Int32} {g0_begin : Int32} {g0_deep : Int32} {g0_faultAt : Int32} {g0_steps : Int32} {g0_men : Int32} {g0_dogs : Int32} (C0 : cxM p s m meth c args wsX11_parts RX11 cX11_parts 11 (some .long)) (hK : va_K (dC, dI) vwCl (tyA cyI cyB cyJ cyZ) s) (hN : nwA s) (hA : ∀ q : Nat, s.heap.size ≤ q → A q) {post : Int64 → (Int32 × (Nat → Int32) × (Nat → Int32) × (Nat → Int32) × (Nat → Int32) × (Nat → Int32)) → Prop} {f1 : Nat → Int32} {k94 : Int32 → (Nat → Int32) → (Nat → Int32) → (Nat → Int32) → (Nat → Int32) → (Nat → Int32) → Int32 → Int32 → Int32 → Prop} {Q : State → Prop} (hQ : Q = MQ below (va_Ql post (fun u : Int32 × (Nat → Int32) × (Nat → Int32) × (Nat → Int32) × (Nat → Int32) × (Nat → Int32) => wAt dC dI cyI cyB cyJ cyZ A (ceX11_parts cyI cyB cyJ cyZ a0 a1 a2 a3 a4 a5 a6 b0_image b0_before b0_taken b0_tape b0_five b0_value b0_far b0_lead b0_walk b0_ends b0_round b0_farOne b0_leads b0_drags b0_from b0_near g0_hasImage g0_remembered g0_taped g0_point g0_end g0_begin g0_deep g0_faultAt g0_steps g0_men g0_dogs f1 u.1 u.2.1 u.2.2.1 u.2.2.2.1 u.2.2.2.2.1 u.2.2.2.2.2)) A) args s 0 0 A) (hk94 : ∀ (g0_thrown : Int32) (f2 : Nat → Int32) (f3 : Nat → Int32) (f4 : Nat → Int32) (f5 : Nat → Int32) (f6 : Nat → Int32) (x4 : Int32) (x5 : Int32) (x6 : Int32), k94 g0_thrown f2 f3 f4 f5 f6 x4 x5 x6 → AtW p l e rmX11_parts s m args below meth c dC dI A Q 11 0 0 (ceX11_parts cyI cyB cyJ cyZ a0 a1 a2 a3 a4 a5 a6 b0_image b0_before b0_taken b0_tape b0_five b0_value b0_far b0_lead b0_walk b0_ends b0_round b0_farOne b0_leads b0_drags b0_from b0_near g0_hasImage g0_remembered g0_taped g0_point g0_end g0_begin g0_deep g0_faultAt g0_steps g0_men g0_dogs f1 g0_thrown f2 f3 f4 f5 f6) [(0, .ref a0), (4, .int x4), (5, .int x5), (6, .int x6)] 94 []) : ∀ (n : Nat) (g0_thrown : Int32) (f2 : Nat → Int32) (f3 : Nat → Int32) (f4 : Nat → Int32) (f5 : Nat → Int32) (f6 : Nat → Int32) (x4 : Int32) (x5 : Int32) (x6 : Int32) (x7 : Int32) (x8 : Int32), wpX11_parts_109 k94 post f1 n g0_thrown f2 f3 f4 f5 f6 x4 x5 x6 x7 x8 → AtW p l e rmX11_parts s m args below meth c dC dI A Q 11 0 0 (ceX11_parts cyI cyB cyJ cyZ a0 a1 a2 a3 a4 a5 a6 b0_image b0_before b0_taken b0_tape b0_five b0_value b0_far b0_lead b0_walk b0_ends b0_round b0_farOne b0_leads b0_drags b0_from b0_near g0_hasImage g0_remembered g0_taped g0_point g0_end g0_begin g0_deep g0_faultAt g0_steps g0_men g0_dogs f1 g0_thrown f2 f3 f4 f5 f6) [(0, .ref a0), (4, .int x4), (5, .int x5), (6, .int x6), (7, .int x7), (8, .int x8)] 109 [] := by
  intro n
  induction n with
  | zero => intro g0_thrown f2 f3 f4 f5 f6 x4 x5 x6 x7 x8 hw; exact False.elim hw
  | succ n ih =>
    intro g0_thrown f2 f3 f4 f5 f6 x4 x5 x6 x7 x8 hw H locs hP hD hS ls hl
    have C1 := C0
    obtain ⟨hx, hb, hr, hml, hown, hts, hlocks⟩ := C1
    refine lv_iload hx hb dX11_parts_109 (lv_at hl 5 rfl) ?_
    refine lv_iload hx hb dX11_parts_111 (lv_at hl 2 rfl) ?_
    refine lv_icmp_ge (tgt := 235) hx hb dX11_parts_113 (by decide) (fun hc => ?_) (fun hc => ?_)
    · have hw := hw.1 hc
      obtain ⟨v1, ev1⟩ : ∃ y : Int32, y = x6 + 1 := ⟨_, rfl⟩
      have hw := hw v1 ev1
      refine lv_iinc (v := v1) (lv' := [(6, .int v1), (0, .ref a0), (4, .int x4), (5, .int x5), (7, .int x7), (8, .int x8)]) hx hb dX11_parts_235 hl (k := 3) rfl (by rw [ev1]; rfl) (by decide) rfl (fun ls hl => ?_)
      refine lv_goto (tgt := 94) hx hb dX11_parts_238 (by decide) ?_
      exact hk94 g0_thrown f2 f3 f4 f5 f6 x4 x5 v1 hw H locs hP hD hS ls (lv_sub hl [1, 2, 3, 0] rfl)
    · have hw := hw.2 hc
      refine lv_iload hx hb dX11_parts_116 (lv_at hl 3 rfl) ?_
      refine lv_if_ne (tgt := 127) hx hb dX11_parts_118 (by decide) (fun hc => ?_) (fun hc => ?_)
      · have hw := hw.1 hc
        refine lv_aload_n hx hb dX11_parts_127 rfl (lv_at hl 0 rfl) ?_
        refine va_get (D := (dC, dI)) (ci := 11) (v := .ref a6) (C := RX11) (T := TX11) (N := 34) hx hb hts inX11_parts_X11 hown hK hP 0 rfl rfl 27 (by decide) (hts (.fieldLink RX11 64 "LeadParkModel" "row" "[I") (List.mem_of_getElem? (i := 7) rfl)) (fun _ h9 => h9) rfl dX11_parts_128 ?_
        refine lv_iload hx hb dX11_parts_131 (lv_at hl 5 rfl) ?_
        obtain ⟨hi, hw⟩ := hw
        refine va_iald hx hb hK hP 6 0 rfl rfl hi dX11_parts_133 ?_
        exact bX11_parts_134 C0 hK hN hA hQ ih hk94 g0_thrown f2 f3 f4 f5 f6 x4 x5 x6 x7 x8 (f6 x8.toNatClampNeg) hw _ _ hP hD hS ls (lv_sub hl [0, 1, 2, 3, 4, 5] rfl)
      · have hw := hw.2 hc
        refine lv_ldcw (v := 2000000000) hx hb hown (hts (.constant RX11 306 (2000000000)) (List.mem_of_getElem? (i := 6) rfl)) dX11_parts_121 ?_
        refine lv_goto (tgt := 134) hx hb dX11_parts_124 (by decide) ?_
        exact bX11_parts_134 C0 hK hN hA hQ ih hk94 g0_thrown f2 f3 f4 f5 f6 x4 x5 x6 x7 x8 2000000000 hw _ _ hP hD hS ls (lv_sub hl [0, 1, 2, 3, 4, 5] rfl)
set_option maxRecDepth 100000 in
set_option maxHeartbeats 4000000 in
theorem bX11_parts_94 {p : Program} {l : Launch} {e : Env} {s : State} {m : MethodId} {args : Array Value} {below : List Frame} {meth : Method} {c : Code} {dC : Nat → ClassId} {dI : Nat → Nat → Nat} {cyI cyB cyJ cyZ : ClassId} {A : Nat → Prop} {a0 a1 a2 a3 a4 a5 a6 b0_image b0_before b0_taken b0_tape b0_five b0_value b0_far b0_lead b0_walk b0_ends b0_round b0_farOne b0_leads b0_drags b0_from b0_near : Nat} {g0_hasImage : Int32} {g0_remembered : Int32} {g0_taped : Int32} {g0_point : Int32} {g0_end : Int32} {g0_begin : Int32} {g0_deep : Int32} {g0_faultAt : Int32} {g0_steps : Int32} {g0_men : Int32} {g0_dogs : Int32} (C0 : cxM p s m meth c args wsX11_parts RX11 cX11_parts 11 (some .long)) (hK : va_K (dC, dI) vwCl (tyA cyI cyB cyJ cyZ) s) (hN : nwA s) (hA : ∀ q : Nat, s.heap.size ≤ q → A q) {post : Int64 → (Int32 × (Nat → Int32) × (Nat → Int32) × (Nat → Int32) × (Nat → Int32) × (Nat → Int32)) → Prop} {f1 : Nat → Int32} {Q : State → Prop} (hQ : Q = MQ below (va_Ql post (fun u : Int32 × (Nat → Int32) × (Nat → Int32) × (Nat → Int32) × (Nat → Int32) × (Nat → Int32) => wAt dC dI cyI cyB cyJ cyZ A (ceX11_parts cyI cyB cyJ cyZ a0 a1 a2 a3 a4 a5 a6 b0_image b0_before b0_taken b0_tape b0_five b0_value b0_far b0_lead b0_walk b0_ends b0_round b0_farOne b0_leads b0_drags b0_from b0_near g0_hasImage g0_remembered g0_taped g0_point g0_end g0_begin g0_deep g0_faultAt g0_steps g0_men g0_dogs f1 u.1 u.2.1 u.2.2.1 u.2.2.2.1 u.2.2.2.2.1 u.2.2.2.2.2)) A) args s 0 0 A) : ∀ (n : Nat) (g0_thrown : Int32) (f2 : Nat → Int32) (f3 : Nat → Int32) (f4 : Nat → Int32) (f5 : Nat → Int32) (f6 : Nat → Int32) (x4 : Int32) (x5 : Int32) (x6 : Int32), wpX11_parts_94 post f1 n g0_thrown f2 f3 f4 f5 f6 x4 x5 x6 → AtW p l e rmX11_parts s m args below meth c dC dI A Q 11 0 0 (ceX11_parts cyI cyB cyJ cyZ a0 a1 a2 a3 a4 a5 a6 b0_image b0_before b0_taken b0_tape b0_five b0_value b0_far b0_lead b0_walk b0_ends b0_round b0_farOne b0_leads b0_drags b0_from b0_near g0_hasImage g0_remembered g0_taped g0_point g0_end g0_begin g0_deep g0_faultAt g0_steps g0_men g0_dogs f1 g0_thrown f2 f3 f4 f5 f6) [(0, .ref a0), (4, .int x4), (5, .int x5), (6, .int x6)] 94 [] := by
  intro n
  induction n with
  | zero => intro g0_thrown f2 f3 f4 f5 f6 x4 x5 x6 hw; exact False.elim hw
  | succ n ih =>
    intro g0_thrown f2 f3 f4 f5 f6 x4 x5 x6 hw H locs hP hD hS ls hl
    have C1 := C0
    obtain ⟨hx, hb, hr, hml, hown, hts, hlocks⟩ := C1
    refine lv_iload hx hb dX11_parts_94 (lv_at hl 3 rfl) ?_
    refine lv_iload hx hb dX11_parts_96 (lv_at hl 1 rfl) ?_
    refine lv_icmp_ge (tgt := 241) hx hb dX11_parts_98 (by decide) (fun hc => ?_) (fun hc => ?_)
    · have hw := hw.1 hc
      refine lv_aload_n hx hb dX11_parts_241 rfl (lv_at hl 0 rfl) ?_
      refine va_get (D := (dC, dI)) (ci := 11) (v := .ref a6) (C := RX11) (T := TX11) (N := 34) hx hb hts inX11_parts_X11 hown hK hP 0 rfl rfl 27 (by decide) (hts (.fieldLink RX11 64 "LeadParkModel" "row" "[I") (List.mem_of_getElem? (i := 7) rfl)) (fun _ h9 => h9) rfl dX11_parts_242 ?_
      refine lv_iload hx hb dX11_parts_245 (lv_at hl 2 rfl) ?_
      refine lv_iconst (v := 1) hx hb dX11_parts_247 (by decide) ?_
      refine lv_isub hx hb dX11_parts_248 ?_
      obtain ⟨hi, hw⟩ := hw
      refine va_iald hx hb hK hP 6 0 rfl rfl hi dX11_parts_249 ?_
      refine lv_i2l hx hb dX11_parts_250 rfl ?_
      rw [hQ]
      exact W.lret (v := (f6 (x5 - 1).toNatClampNeg).toInt64) hx hb hr (fun t ht hW => ⟨⟨(f6 (x5 - 1).toNatClampNeg).toInt64, (g0_thrown, f2, f3, f4, f5, f6), rfl, hw, by rw [ht]; exact hP, va_K.moved hW.alike hK, hD⟩, hS.F ht⟩) hS.2.2 dX11_parts_251
    · have hw := hw.2 hc
      refine lv_ldcw (v := 2000000000) hx hb hown (hts (.constant RX11 306 (2000000000)) (List.mem_of_getElem? (i := 6) rfl)) dX11_parts_101 ?_
      refine lv_istore (lv' := [(7, .int 2000000000), (0, .ref a0), (4, .int x4), (5, .int x5), (6, .int x6)]) hx hb dX11_parts_104 hl (by decide) rfl (fun ls hl => ?_)
      refine lv_iconst (v := 0) hx hb dX11_parts_106 (by decide) ?_
      refine lv_istore (lv' := [(8, .int 0), (7, .int 2000000000), (0, .ref a0), (4, .int x4), (5, .int x5), (6, .int x6)]) hx hb dX11_parts_107 hl (by decide) rfl (fun ls hl => ?_)
      obtain ⟨nn, hw⟩ := hw
      exact bX11_parts_109 C0 hK hN hA hQ ih nn g0_thrown f2 f3 f4 f5 f6 x4 x5 x6 2000000000 0 hw _ _ hP hD hS ls (lv_sub hl [2, 3, 4, 5, 1, 0] rfl)
set_option maxRecDepth 100000 in
set_option maxHeartbeats 4000000 in
theorem bX11_parts_50 {p : Program} {l : Launch} {e : Env} {s : State} {m : MethodId} {args : Array Value} {below : List Frame} {meth : Method} {c : Code} {dC : Nat → ClassId} {dI : Nat → Nat → Nat} {cyI cyB cyJ cyZ : ClassId} {A : Nat → Prop} {a0 a1 a2 a3 a4 a5 a6 b0_image b0_before b0_taken b0_tape b0_five b0_value b0_far b0_lead b0_walk b0_ends b0_round b0_farOne b0_leads b0_drags b0_from b0_near : Nat} {g0_hasImage : Int32} {g0_remembered : Int32} {g0_taped : Int32} {g0_point : Int32} {g0_end : Int32} {g0_begin : Int32} {g0_deep : Int32} {g0_faultAt : Int32} {g0_steps : Int32} {g0_men : Int32} {g0_dogs : Int32} (C0 : cxM p s m meth c args wsX11_parts RX11 cX11_parts 11 (some .long)) (hK : va_K (dC, dI) vwCl (tyA cyI cyB cyJ cyZ) s) (hN : nwA s) (hA : ∀ q : Nat, s.heap.size ≤ q → A q) {post : Int64 → (Int32 × (Nat → Int32) × (Nat → Int32) × (Nat → Int32) × (Nat → Int32) × (Nat → Int32)) → Prop} {f1 : Nat → Int32} {Q : State → Prop} (hQ : Q = MQ below (va_Ql post (fun u : Int32 × (Nat → Int32) × (Nat → Int32) × (Nat → Int32) × (Nat → Int32) × (Nat → Int32) => wAt dC dI cyI cyB cyJ cyZ A (ceX11_parts cyI cyB cyJ cyZ a0 a1 a2 a3 a4 a5 a6 b0_image b0_before b0_taken b0_tape b0_five b0_value b0_far b0_lead b0_walk b0_ends b0_round b0_farOne b0_leads b0_drags b0_from b0_near g0_hasImage g0_remembered g0_taped g0_point g0_end g0_begin g0_deep g0_faultAt g0_steps g0_men g0_dogs f1 u.1 u.2.1 u.2.2.1 u.2.2.2.1 u.2.2.2.2.1 u.2.2.2.2.2)) A) args s 0 0 A) : ∀ (g0_thrown : Int32) (f2 : Nat → Int32) (f3 : Nat → Int32) (f4 : Nat → Int32) (f5 : Nat → Int32) (f6 : Nat → Int32) (x1 : Int32) (x2 : Int32) (x3 : Int32) (s1 : Int32), wpX11_parts_50 post f1 g0_thrown f2 f3 f4 f5 f6 x1 x2 x3 s1 → AtW p l e rmX11_parts s m args below meth c dC dI A Q 11 0 0 (ceX11_parts cyI cyB cyJ cyZ a0 a1 a2 a3 a4 a5 a6 b0_image b0_before b0_taken b0_tape b0_five b0_value b0_far b0_lead b0_walk b0_ends b0_round b0_farOne b0_leads b0_drags b0_from b0_near g0_hasImage g0_remembered g0_taped g0_point g0_end g0_begin g0_deep g0_faultAt g0_steps g0_men g0_dogs f1 g0_thrown f2 f3 f4 f5 f6) [(0, .ref a0), (1, .int x1), (2, .int x2), (3, .int x3)] 50 [.int s1, .ref a0] := by
  intro g0_thrown f2 f3 f4 f5 f6 x1 x2 x3 s1 hw H locs hP hD hS ls hl
  have C1 := C0
  obtain ⟨hx, hb, hr, hml, hown, hts, hlocks⟩ := C1
  refine lv_iconst (v := 2) hx hb dX11_parts_50 (by decide) ?_
  have hPc := hP.sub (ws' := (ceX11_throwsIf cyI cyB cyJ cyZ a0 a1 b0_image b0_before b0_taken b0_tape b0_five b0_value b0_far b0_lead b0_walk b0_ends a2 a3 a4 a5 a6 b0_round b0_farOne b0_leads b0_drags b0_from b0_near g0_hasImage g0_remembered g0_taped g0_point g0_end g0_begin g0_deep g0_faultAt g0_steps g0_men g0_dogs g0_thrown)) [0] rfl
  have hDc := hD.sub (ws' := (ceX11_throwsIf cyI cyB cyJ cyZ a0 a1 b0_image b0_before b0_taken b0_tape b0_five b0_value b0_far b0_lead b0_walk b0_ends a2 a3 a4 a5 a6 b0_round b0_farOne b0_leads b0_drags b0_from b0_near g0_hasImage g0_remembered g0_taped g0_point g0_end g0_begin g0_deep g0_faultAt g0_steps g0_men g0_dogs g0_thrown)) [0] (by decide) rfl
  have hFc := va_free (wc := (ceX11_throwsIf cyI cyB cyJ cyZ a0 a1 b0_image b0_before b0_taken b0_tape b0_five b0_value b0_far b0_lead b0_walk b0_ends a2 a3 a4 a5 a6 b0_round b0_farOne b0_leads b0_drags b0_from b0_near g0_hasImage g0_remembered g0_taped g0_point g0_end g0_begin g0_deep g0_faultAt g0_steps g0_men g0_dogs g0_thrown)) hD hS hA [0] rfl
  refine va_calli (va_runV (As := [.int s1, .int 2]) (rest := []) ⟨hx, hb, hml, hown, hts⟩ (ctX11_throwsIf l dC dI cyI cyB cyJ cyZ _ a0 a1 b0_image b0_before b0_taken b0_tape b0_five b0_value b0_far b0_lead b0_walk b0_ends a2 a3 a4 a5 a6 b0_round b0_farOne b0_leads b0_drags b0_from b0_near g0_hasImage g0_remembered g0_taped g0_point g0_end g0_begin g0_deep g0_faultAt g0_steps g0_men g0_dogs g0_thrown s1 2 _ hw) (cwV 2 hts gX11_parts_X11_throwsIf rfl rfl rfl (by decide +kernel) ⟨Nat.le_of_ble_eq_true rfl, Nat.le_of_ble_eq_true rfl⟩) ⟨wPre_blind, va_recv hK hPc (ci := 11) (q0 := 0) rfl rfl, fun U hU hW => wPre_of hPc hK hDc hN hU hW⟩ rfl rfl hl.1 rfl (lv_room (Nat.le_of_ble_eq_true rfl)) dX11_parts_51 ⟨(Nat.zero_le _), (Nat.zero_le _)⟩) hS (fun q _ h => hFc q h) hFc (fun r2 u1 t H1 locs ht hvm hw hB hz1 hk1 hS => ?_)
  obtain ⟨hP1, hK1, hD1⟩ := hB
  rw [ht] at hP1
  obtain ⟨hP, hD⟩ := va_join (wr := pickW (ceX11_parts cyI cyB cyJ cyZ a0 a1 a2 a3 a4 a5 a6 b0_image b0_before b0_taken b0_tape b0_five b0_value b0_far b0_lead b0_walk b0_ends b0_round b0_farOne b0_leads b0_drags b0_from b0_near g0_hasImage g0_remembered g0_taped g0_point g0_end g0_begin g0_deep g0_faultAt g0_steps g0_men g0_dogs f1 g0_thrown f2 f3 f4 f5 f6) [1, 2, 3, 4, 5, 6]) (w1 := (ceX11_throwsIf cyI cyB cyJ cyZ a0 a1 b0_image b0_before b0_taken b0_tape b0_five b0_value b0_far b0_lead b0_walk b0_ends a2 a3 a4 a5 a6 b0_round b0_farOne b0_leads b0_drags b0_from b0_near g0_hasImage g0_remembered g0_taped g0_point g0_end g0_begin g0_deep g0_faultAt g0_steps g0_men g0_dogs u1)) hP hD [0] [1, 2, 3, 4, 5, 6] rfl rfl (by decide) (by decide) hk1 hFc hP1 hD1
  have hP := hP.sub (ws' := (ceX11_parts cyI cyB cyJ cyZ a0 a1 a2 a3 a4 a5 a6 b0_image b0_before b0_taken b0_tape b0_five b0_value b0_far b0_lead b0_walk b0_ends b0_round b0_farOne b0_leads b0_drags b0_from b0_near g0_hasImage g0_remembered g0_taped g0_point g0_end g0_begin g0_deep g0_faultAt g0_steps g0_men g0_dogs f1 u1 f2 f3 f4 f5 f6)) [6, 0, 1, 2, 3, 4, 5] rfl
  have hD := hD.sub (ws' := (ceX11_parts cyI cyB cyJ cyZ a0 a1 a2 a3 a4 a5 a6 b0_image b0_before b0_taken b0_tape b0_five b0_value b0_far b0_lead b0_walk b0_ends b0_round b0_farOne b0_leads b0_drags b0_from b0_near g0_hasImage g0_remembered g0_taped g0_point g0_end g0_begin g0_deep g0_faultAt g0_steps g0_men g0_dogs f1 u1 f2 f3 f4 f5 f6)) [6, 0, 1, 2, 3, 4, 5] (by decide) rfl
  generalize H1 = H at hP hS ⊢
  refine lv_if_eq (tgt := 59) hx hb dX11_parts_54 (by decide) (fun hc => ?_) (fun hc => ?_)
  · have hw := hw.1 hc
    refine lv_aload_n hx hb dX11_parts_59 rfl (lv_at hl 0 rfl) ?_
    refine lv_iload_n hx hb dX11_parts_60 rfl (lv_at hl 1 rfl) ?_
    refine lv_iload_n hx hb dX11_parts_61 rfl (lv_at hl 3 rfl) ?_
    refine lv_aload_n hx hb dX11_parts_62 rfl (lv_at hl 0 rfl) ?_
    refine va_get (D := (dC, dI)) (ci := 11) (v := .ref a2) (C := RX11) (T := TX11) (N := 34) hx hb hts inX11_parts_X11 hown hK hP 0 rfl rfl 23 (by decide) (hts (.fieldLink RX11 52 "LeadParkModel" "manX" "[I") (List.mem_of_getElem? (i := 2) rfl)) (fun _ h9 => h9) rfl dX11_parts_63 ?_
    refine lv_aload_n hx hb dX11_parts_66 rfl (lv_at hl 0 rfl) ?_
    refine va_get (D := (dC, dI)) (ci := 11) (v := .ref a3) (C := RX11) (T := TX11) (N := 34) hx hb hts inX11_parts_X11 hown hK hP 0 rfl rfl 24 (by decide) (hts (.fieldLink RX11 55 "LeadParkModel" "manY" "[I") (List.mem_of_getElem? (i := 3) rfl)) (fun _ h9 => h9) rfl dX11_parts_67 ?_
    have hPc := hP.sub (ws' := (ceX11_points cyI cyB cyJ cyZ a0 a1 a2 a3 b0_image b0_before b0_taken b0_tape b0_five b0_value b0_far b0_lead b0_walk b0_ends a2 a3 a4 a5 a6 b0_round b0_farOne b0_leads b0_drags b0_from b0_near 233 233 u1 g0_hasImage g0_remembered g0_taped g0_point g0_end g0_begin g0_deep g0_faultAt g0_steps g0_men g0_dogs f1 f2 f3)) [0, 1, 2, 3] rfl
    have hDc := hD.sub (ws' := (ceX11_points cyI cyB cyJ cyZ a0 a1 a2 a3 b0_image b0_before b0_taken b0_tape b0_five b0_value b0_far b0_lead b0_walk b0_ends a2 a3 a4 a5 a6 b0_round b0_farOne b0_leads b0_drags b0_from b0_near 233 233 u1 g0_hasImage g0_remembered g0_taped g0_point g0_end g0_begin g0_deep g0_faultAt g0_steps g0_men g0_dogs f1 f2 f3)) [0, 1, 2, 3] (by decide) rfl
    have hFc := va_free (wc := (ceX11_points cyI cyB cyJ cyZ a0 a1 a2 a3 b0_image b0_before b0_taken b0_tape b0_five b0_value b0_far b0_lead b0_walk b0_ends a2 a3 a4 a5 a6 b0_round b0_farOne b0_leads b0_drags b0_from b0_near 233 233 u1 g0_hasImage g0_remembered g0_taped g0_point g0_end g0_begin g0_deep g0_faultAt g0_steps g0_men g0_dogs f1 f2 f3)) hD hS hA [0, 1, 2, 3] rfl
    refine va_calli (va_runV (As := [.int x1, .int x3, .ref a2, .ref a3]) (rest := []) ⟨hx, hb, hml, hown, hts⟩ (ctX11_points l dC dI cyI cyB cyJ cyZ _ a0 a1 a2 a3 b0_image b0_before b0_taken b0_tape b0_five b0_value b0_far b0_lead b0_walk b0_ends a2 a3 a4 a5 a6 b0_round b0_farOne b0_leads b0_drags b0_from b0_near 233 233 u1 g0_hasImage g0_remembered g0_taped g0_point g0_end g0_begin g0_deep g0_faultAt g0_steps g0_men g0_dogs f1 f2 f3 x1 x3 _ hw) (cwV 4 hts gX11_parts_X11_points rfl rfl rfl (by decide +kernel) ⟨Nat.le_of_ble_eq_true rfl, Nat.le_of_ble_eq_true rfl⟩) ⟨wPre_blind, va_recv hK hPc (ci := 11) (q0 := 0) rfl rfl, fun U hU hW => wPre_of hPc hK hDc hN hU hW⟩ rfl rfl hl.1 rfl (lv_room (Nat.le_of_ble_eq_true rfl)) dX11_parts_70 ⟨(Nat.zero_le _), (Nat.zero_le _)⟩) hS (fun q _ h => hFc q h) hFc (fun r4 u3 t H1 locs ht hvm hw hB hz1 hk1 hS => ?_)
    obtain ⟨hP1, hK1, hD1⟩ := hB
    rw [ht] at hP1
    obtain ⟨hP, hD⟩ := va_join (wr := pickW (ceX11_parts cyI cyB cyJ cyZ a0 a1 a2 a3 a4 a5 a6 b0_image b0_before b0_taken b0_tape b0_five b0_value b0_far b0_lead b0_walk b0_ends b0_round b0_farOne b0_leads b0_drags b0_from b0_near g0_hasImage g0_remembered g0_taped g0_point g0_end g0_begin g0_deep g0_faultAt g0_steps g0_men g0_dogs f1 u1 f2 f3 f4 f5 f6) [4, 5, 6]) (w1 := (ceX11_points cyI cyB cyJ cyZ a0 a1 a2 a3 b0_image b0_before b0_taken b0_tape b0_five b0_value b0_far b0_lead b0_walk b0_ends a2 a3 a4 a5 a6 b0_round b0_farOne b0_leads b0_drags b0_from b0_near 233 233 u1 g0_hasImage g0_remembered g0_taped g0_point g0_end g0_begin g0_deep g0_faultAt g0_steps g0_men g0_dogs f1 u3.1 u3.2)) hP hD [0, 1, 2, 3] [4, 5, 6] rfl rfl (by decide) (by decide) hk1 hFc hP1 hD1
    have hP := hP.sub (ws' := (ceX11_parts cyI cyB cyJ cyZ a0 a1 a2 a3 a4 a5 a6 b0_image b0_before b0_taken b0_tape b0_five b0_value b0_far b0_lead b0_walk b0_ends b0_round b0_farOne b0_leads b0_drags b0_from b0_near g0_hasImage g0_remembered g0_taped g0_point g0_end g0_begin g0_deep g0_faultAt g0_steps g0_men g0_dogs f1 u1 u3.1 u3.2 f4 f5 f6)) [3, 4, 5, 6, 0, 1, 2] rfl
    have hD := hD.sub (ws' := (ceX11_parts cyI cyB cyJ cyZ a0 a1 a2 a3 a4 a5 a6 b0_image b0_before b0_taken b0_tape b0_five b0_value b0_far b0_lead b0_walk b0_ends b0_round b0_farOne b0_leads b0_drags b0_from b0_near g0_hasImage g0_remembered g0_taped g0_point g0_end g0_begin g0_deep g0_faultAt g0_steps g0_men g0_dogs f1 u1 u3.1 u3.2 f4 f5 f6)) [3, 4, 5, 6, 0, 1, 2] (by decide) rfl
    generalize H1 = H at hP hS ⊢
    refine lv_istore (lv' := [(4, .int r4), (0, .ref a0), (1, .int x1), (2, .int x2), (3, .int x3)]) hx hb dX11_parts_73 hl (by decide) rfl (fun ls hl => ?_)
    refine lv_aload_n hx hb dX11_parts_75 rfl (lv_at hl 1 rfl) ?_
    refine lv_iload_n hx hb dX11_parts_76 rfl (lv_at hl 3 rfl) ?_
    refine lv_iload_n hx hb dX11_parts_77 rfl (lv_at hl 4 rfl) ?_
    refine lv_aload_n hx hb dX11_parts_78 rfl (lv_at hl 1 rfl) ?_
    refine va_get (D := (dC, dI)) (ci := 11) (v := .ref a4) (C := RX11) (T := TX11) (N := 34) hx hb hts inX11_parts_X11 hown hK hP 0 rfl rfl 25 (by decide) (hts (.fieldLink RX11 58 "LeadParkModel" "dogX" "[I") (List.mem_of_getElem? (i := 4) rfl)) (fun _ h9 => h9) rfl dX11_parts_79 ?_
    refine lv_aload_n hx hb dX11_parts_82 rfl (lv_at hl 1 rfl) ?_
    refine va_get (D := (dC, dI)) (ci := 11) (v := .ref a5) (C := RX11) (T := TX11) (N := 34) hx hb hts inX11_parts_X11 hown hK hP 0 rfl rfl 26 (by decide) (hts (.fieldLink RX11 61 "LeadParkModel" "dogY" "[I") (List.mem_of_getElem? (i := 5) rfl)) (fun _ h9 => h9) rfl dX11_parts_83 ?_
    have hPc := hP.sub (ws' := (ceX11_points cyI cyB cyJ cyZ a0 a1 a4 a5 b0_image b0_before b0_taken b0_tape b0_five b0_value b0_far b0_lead b0_walk b0_ends a2 a3 a4 a5 a6 b0_round b0_farOne b0_leads b0_drags b0_from b0_near 233 233 u1 g0_hasImage g0_remembered g0_taped g0_point g0_end g0_begin g0_deep g0_faultAt g0_steps g0_men g0_dogs f1 f4 f5)) [0, 1, 4, 5] rfl
    have hDc := hD.sub (ws' := (ceX11_points cyI cyB cyJ cyZ a0 a1 a4 a5 b0_image b0_before b0_taken b0_tape b0_five b0_value b0_far b0_lead b0_walk b0_ends a2 a3 a4 a5 a6 b0_round b0_farOne b0_leads b0_drags b0_from b0_near 233 233 u1 g0_hasImage g0_remembered g0_taped g0_point g0_end g0_begin g0_deep g0_faultAt g0_steps g0_men g0_dogs f1 f4 f5)) [0, 1, 4, 5] (by decide) rfl
    have hFc := va_free (wc := (ceX11_points cyI cyB cyJ cyZ a0 a1 a4 a5 b0_image b0_before b0_taken b0_tape b0_five b0_value b0_far b0_lead b0_walk b0_ends a2 a3 a4 a5 a6 b0_round b0_farOne b0_leads b0_drags b0_from b0_near 233 233 u1 g0_hasImage g0_remembered g0_taped g0_point g0_end g0_begin g0_deep g0_faultAt g0_steps g0_men g0_dogs f1 f4 f5)) hD hS hA [0, 1, 4, 5] rfl
    refine va_calli (va_runV (As := [.int x2, .int x3, .ref a4, .ref a5]) (rest := []) ⟨hx, hb, hml, hown, hts⟩ (ctX11_points l dC dI cyI cyB cyJ cyZ _ a0 a1 a4 a5 b0_image b0_before b0_taken b0_tape b0_five b0_value b0_far b0_lead b0_walk b0_ends a2 a3 a4 a5 a6 b0_round b0_farOne b0_leads b0_drags b0_from b0_near 233 233 u1 g0_hasImage g0_remembered g0_taped g0_point g0_end g0_begin g0_deep g0_faultAt g0_steps g0_men g0_dogs f1 f4 f5 x2 x3 _ hw) (cwV 4 hts gX11_parts_X11_points rfl rfl rfl (by decide +kernel) ⟨Nat.le_of_ble_eq_true rfl, Nat.le_of_ble_eq_true rfl⟩) ⟨wPre_blind, va_recv hK hPc (ci := 11) (q0 := 0) rfl rfl, fun U hU hW => wPre_of hPc hK hDc hN hU hW⟩ rfl rfl hl.1 rfl (lv_room (Nat.le_of_ble_eq_true rfl)) dX11_parts_86 ⟨(Nat.zero_le _), (Nat.zero_le _)⟩) hS (fun q _ h => hFc q h) hFc (fun r6 u5 t H1 locs ht hvm hw hB hz1 hk1 hS => ?_)
    obtain ⟨hP1, hK1, hD1⟩ := hB
    rw [ht] at hP1
    obtain ⟨hP, hD⟩ := va_join (wr := pickW (ceX11_parts cyI cyB cyJ cyZ a0 a1 a2 a3 a4 a5 a6 b0_image b0_before b0_taken b0_tape b0_five b0_value b0_far b0_lead b0_walk b0_ends b0_round b0_farOne b0_leads b0_drags b0_from b0_near g0_hasImage g0_remembered g0_taped g0_point g0_end g0_begin g0_deep g0_faultAt g0_steps g0_men g0_dogs f1 u1 u3.1 u3.2 f4 f5 f6) [2, 3, 6]) (w1 := (ceX11_points cyI cyB cyJ cyZ a0 a1 a4 a5 b0_image b0_before b0_taken b0_tape b0_five b0_value b0_far b0_lead b0_walk b0_ends a2 a3 a4 a5 a6 b0_round b0_farOne b0_leads b0_drags b0_from b0_near 233 233 u1 g0_hasImage g0_remembered g0_taped g0_point g0_end g0_begin g0_deep g0_faultAt g0_steps g0_men g0_dogs f1 u5.1 u5.2)) hP hD [0, 1, 4, 5] [2, 3, 6] rfl rfl (by decide) (by decide) hk1 hFc hP1 hD1
    have hP := hP.sub (ws' := (ceX11_parts cyI cyB cyJ cyZ a0 a1 a2 a3 a4 a5 a6 b0_image b0_before b0_taken b0_tape b0_five b0_value b0_far b0_lead b0_walk b0_ends b0_round b0_farOne b0_leads b0_drags b0_from b0_near g0_hasImage g0_remembered g0_taped g0_point g0_end g0_begin g0_deep g0_faultAt g0_steps g0_men g0_dogs f1 u1 u3.1 u3.2 u5.1 u5.2 f6)) [3, 4, 0, 1, 5, 6, 2] rfl
    have hD := hD.sub (ws' := (ceX11_parts cyI cyB cyJ cyZ a0 a1 a2 a3 a4 a5 a6 b0_image b0_before b0_taken b0_tape b0_five b0_value b0_far b0_lead b0_walk b0_ends b0_round b0_farOne b0_leads b0_drags b0_from b0_near g0_hasImage g0_remembered g0_taped g0_point g0_end g0_begin g0_deep g0_faultAt g0_steps g0_men g0_dogs f1 u1 u3.1 u3.2 u5.1 u5.2 f6)) [3, 4, 0, 1, 5, 6, 2] (by decide) rfl
    generalize H1 = H at hP hS ⊢
    refine lv_istore (lv' := [(5, .int r6), (4, .int r4), (0, .ref a0), (1, .int x1), (2, .int x2), (3, .int x3)]) hx hb dX11_parts_89 hl (by decide) rfl (fun ls hl => ?_)
    refine lv_iconst (v := 0) hx hb dX11_parts_91 (by decide) ?_
    refine lv_istore (lv' := [(6, .int 0), (5, .int r6), (4, .int r4), (0, .ref a0), (1, .int x1), (2, .int x2), (3, .int x3)]) hx hb dX11_parts_92 hl (by decide) rfl (fun ls hl => ?_)
    obtain ⟨nn, hw⟩ := hw
    exact bX11_parts_94 C0 hK hN hA hQ nn u1 u3.1 u3.2 u5.1 u5.2 f6 r4 r6 0 hw _ _ hP hD hS ls (lv_sub hl [3, 2, 1, 0] rfl)
  · have hw := hw.2 hc
    refine lv_lconst (v := 0) hx hb dX11_parts_57 (by decide) ?_
    rw [hQ]
    exact W.lret (v := 0) hx hb hr (fun t ht hW => ⟨⟨0, (u1, f2, f3, f4, f5, f6), rfl, hw, by rw [ht]; exact hP, va_K.moved hW.alike hK, hD⟩, hS.F ht⟩) hS.2.2 dX11_parts_58
set_option maxRecDepth 100000 in
set_option maxHeartbeats 4000000 in
theorem bX11_parts_27 {p : Program} {l : Launch} {e : Env} {s : State} {m : MethodId} {args : Array Value} {below : List Frame} {meth : Method} {c : Code} {dC : Nat → ClassId} {dI : Nat → Nat → Nat} {cyI cyB cyJ cyZ : ClassId} {A : Nat → Prop} {a0 a1 a2 a3 a4 a5 a6 b0_image b0_before b0_taken b0_tape b0_five b0_value b0_far b0_lead b0_walk b0_ends b0_round b0_farOne b0_leads b0_drags b0_from b0_near : Nat} {g0_hasImage : Int32} {g0_remembered : Int32} {g0_taped : Int32} {g0_point : Int32} {g0_end : Int32} {g0_begin : Int32} {g0_deep : Int32} {g0_faultAt : Int32} {g0_steps : Int32} {g0_men : Int32} {g0_dogs : Int32} (C0 : cxM p s m meth c args wsX11_parts RX11 cX11_parts 11 (some .long)) (hK : va_K (dC, dI) vwCl (tyA cyI cyB cyJ cyZ) s) (hN : nwA s) (hA : ∀ q : Nat, s.heap.size ≤ q → A q) {post : Int64 → (Int32 × (Nat → Int32) × (Nat → Int32) × (Nat → Int32) × (Nat → Int32) × (Nat → Int32)) → Prop} {f1 : Nat → Int32} {Q : State → Prop} (hQ : Q = MQ below (va_Ql post (fun u : Int32 × (Nat → Int32) × (Nat → Int32) × (Nat → Int32) × (Nat → Int32) × (Nat → Int32) => wAt dC dI cyI cyB cyJ cyZ A (ceX11_parts cyI cyB cyJ cyZ a0 a1 a2 a3 a4 a5 a6 b0_image b0_before b0_taken b0_tape b0_five b0_value b0_far b0_lead b0_walk b0_ends b0_round b0_farOne b0_leads b0_drags b0_from b0_near g0_hasImage g0_remembered g0_taped g0_point g0_end g0_begin g0_deep g0_faultAt g0_steps g0_men g0_dogs f1 u.1 u.2.1 u.2.2.1 u.2.2.2.1 u.2.2.2.2.1 u.2.2.2.2.2)) A) args s 0 0 A) : ∀ (g0_thrown : Int32) (f2 : Nat → Int32) (f3 : Nat → Int32) (f4 : Nat → Int32) (f5 : Nat → Int32) (f6 : Nat → Int32) (x1 : Int32) (x2 : Int32) (x3 : Int32) (s1 : Int32), wpX11_parts_27 post f1 g0_thrown f2 f3 f4 f5 f6 x1 x2 x3 s1 → AtW p l e rmX11_parts s m args below meth c dC dI A Q 11 0 0 (ceX11_parts cyI cyB cyJ cyZ a0 a1 a2 a3 a4 a5 a6 b0_image b0_before b0_taken b0_tape b0_five b0_value b0_far b0_lead b0_walk b0_ends b0_round b0_farOne b0_leads b0_drags b0_from b0_near g0_hasImage g0_remembered g0_taped g0_point g0_end g0_begin g0_deep g0_faultAt g0_steps g0_men g0_dogs f1 g0_thrown f2 f3 f4 f5 f6) [(0, .ref a0), (1, .int x1), (2, .int x2), (3, .int x3)] 27 [.int s1, .ref a0] := by
  intro g0_thrown f2 f3 f4 f5 f6 x1 x2 x3 s1 hw H locs hP hD hS ls hl
  have C1 := C0
  obtain ⟨hx, hb, hr, hml, hown, hts, hlocks⟩ := C1
  refine lv_iconst (v := 1) hx hb dX11_parts_27 (by decide) ?_
  have hPc := hP.sub (ws' := (ceX11_throwsIf cyI cyB cyJ cyZ a0 a1 b0_image b0_before b0_taken b0_tape b0_five b0_value b0_far b0_lead b0_walk b0_ends a2 a3 a4 a5 a6 b0_round b0_farOne b0_leads b0_drags b0_from b0_near g0_hasImage g0_remembered g0_taped g0_point g0_end g0_begin g0_deep g0_faultAt g0_steps g0_men g0_dogs g0_thrown)) [0] rfl
  have hDc := hD.sub (ws' := (ceX11_throwsIf cyI cyB cyJ cyZ a0 a1 b0_image b0_before b0_taken b0_tape b0_five b0_value b0_far b0_lead b0_walk b0_ends a2 a3 a4 a5 a6 b0_round b0_farOne b0_leads b0_drags b0_from b0_near g0_hasImage g0_remembered g0_taped g0_point g0_end g0_begin g0_deep g0_faultAt g0_steps g0_men g0_dogs g0_thrown)) [0] (by decide) rfl
  have hFc := va_free (wc := (ceX11_throwsIf cyI cyB cyJ cyZ a0 a1 b0_image b0_before b0_taken b0_tape b0_five b0_value b0_far b0_lead b0_walk b0_ends a2 a3 a4 a5 a6 b0_round b0_farOne b0_leads b0_drags b0_from b0_near g0_hasImage g0_remembered g0_taped g0_point g0_end g0_begin g0_deep g0_faultAt g0_steps g0_men g0_dogs g0_thrown)) hD hS hA [0] rfl
  refine va_calli (va_runV (As := [.int s1, .int 1]) (rest := []) ⟨hx, hb, hml, hown, hts⟩ (ctX11_throwsIf l dC dI cyI cyB cyJ cyZ _ a0 a1 b0_image b0_before b0_taken b0_tape b0_five b0_value b0_far b0_lead b0_walk b0_ends a2 a3 a4 a5 a6 b0_round b0_farOne b0_leads b0_drags b0_from b0_near g0_hasImage g0_remembered g0_taped g0_point g0_end g0_begin g0_deep g0_faultAt g0_steps g0_men g0_dogs g0_thrown s1 1 _ hw) (cwV 2 hts gX11_parts_X11_throwsIf rfl rfl rfl (by decide +kernel) ⟨Nat.le_of_ble_eq_true rfl, Nat.le_of_ble_eq_true rfl⟩) ⟨wPre_blind, va_recv hK hPc (ci := 11) (q0 := 0) rfl rfl, fun U hU hW => wPre_of hPc hK hDc hN hU hW⟩ rfl rfl hl.1 rfl (lv_room (Nat.le_of_ble_eq_true rfl)) dX11_parts_28 ⟨(Nat.zero_le _), (Nat.zero_le _)⟩) hS (fun q _ h => hFc q h) hFc (fun r2 u1 t H1 locs ht hvm hw hB hz1 hk1 hS => ?_)
  obtain ⟨hP1, hK1, hD1⟩ := hB
  rw [ht] at hP1
  obtain ⟨hP, hD⟩ := va_join (wr := pickW (ceX11_parts cyI cyB cyJ cyZ a0 a1 a2 a3 a4 a5 a6 b0_image b0_before b0_taken b0_tape b0_five b0_value b0_far b0_lead b0_walk b0_ends b0_round b0_farOne b0_leads b0_drags b0_from b0_near g0_hasImage g0_remembered g0_taped g0_point g0_end g0_begin g0_deep g0_faultAt g0_steps g0_men g0_dogs f1 g0_thrown f2 f3 f4 f5 f6) [1, 2, 3, 4, 5, 6]) (w1 := (ceX11_throwsIf cyI cyB cyJ cyZ a0 a1 b0_image b0_before b0_taken b0_tape b0_five b0_value b0_far b0_lead b0_walk b0_ends a2 a3 a4 a5 a6 b0_round b0_farOne b0_leads b0_drags b0_from b0_near g0_hasImage g0_remembered g0_taped g0_point g0_end g0_begin g0_deep g0_faultAt g0_steps g0_men g0_dogs u1)) hP hD [0] [1, 2, 3, 4, 5, 6] rfl rfl (by decide) (by decide) hk1 hFc hP1 hD1
  have hP := hP.sub (ws' := (ceX11_parts cyI cyB cyJ cyZ a0 a1 a2 a3 a4 a5 a6 b0_image b0_before b0_taken b0_tape b0_five b0_value b0_far b0_lead b0_walk b0_ends b0_round b0_farOne b0_leads b0_drags b0_from b0_near g0_hasImage g0_remembered g0_taped g0_point g0_end g0_begin g0_deep g0_faultAt g0_steps g0_men g0_dogs f1 u1 f2 f3 f4 f5 f6)) [6, 0, 1, 2, 3, 4, 5] rfl
  have hD := hD.sub (ws' := (ceX11_parts cyI cyB cyJ cyZ a0 a1 a2 a3 a4 a5 a6 b0_image b0_before b0_taken b0_tape b0_five b0_value b0_far b0_lead b0_walk b0_ends b0_round b0_farOne b0_leads b0_drags b0_from b0_near g0_hasImage g0_remembered g0_taped g0_point g0_end g0_begin g0_deep g0_faultAt g0_steps g0_men g0_dogs f1 u1 f2 f3 f4 f5 f6)) [6, 0, 1, 2, 3, 4, 5] (by decide) rfl
  generalize H1 = H at hP hS ⊢
  refine lv_if_ne (tgt := 57) hx hb dX11_parts_31 (by decide) (fun hc => ?_) (fun hc => ?_)
  · have hw := hw.1 hc
    refine lv_lconst (v := 0) hx hb dX11_parts_57 (by decide) ?_
    rw [hQ]
    exact W.lret (v := 0) hx hb hr (fun t ht hW => ⟨⟨0, (u1, f2, f3, f4, f5, f6), rfl, hw, by rw [ht]; exact hP, va_K.moved hW.alike hK, hD⟩, hS.F ht⟩) hS.2.2 dX11_parts_58
  · have hw := hw.2 hc
    refine lv_aload_n hx hb dX11_parts_34 rfl (lv_at hl 0 rfl) ?_
    refine lv_iload_n hx hb dX11_parts_35 rfl (lv_at hl 3 rfl) ?_
    refine lv_iconst (v := 1) hx hb dX11_parts_36 (by decide) ?_
    refine lv_bipush (v := 8) hx hb dX11_parts_37 (by decide) ?_
    have hPc := hP.sub (ws' := ([] : va_W)) [] rfl
    have hDc := hD.sub (ws' := ([] : va_W)) [] (by decide) rfl
    have hFc := va_free (wc := ([] : va_W)) hD hS hA [] rfl
    refine va_calli (va_runS (As := [.int x3, .int 1, .int 8]) (rest := [.ref a0]) ⟨hx, hb, hml, hown, hts⟩ (ctX11_in l dC dI cyI cyB cyJ cyZ _ x3 1 8 _ hw) (va_cwS 3 hts gX11_parts_X11_in rfl rfl rfl (by decide +kernel) ⟨Nat.le_of_ble_eq_true rfl, Nat.le_of_ble_eq_true rfl⟩) ⟨wPre_blind, fun U hU hW => wPre_of hPc hK hDc hN hU hW⟩ rfl rfl hl.1 rfl (lv_room (Nat.le_of_ble_eq_true rfl)) dX11_parts_39 ⟨(Nat.zero_le _), (Nat.zero_le _)⟩) hS (fun q _ h => hFc q h) hFc (fun r4 u3 t H1 locs ht hvm hw hB hz1 hk1 hS => ?_)
    obtain ⟨hP1, hK1, hD1⟩ := hB
    rw [ht] at hP1
    obtain ⟨hP, hD⟩ := va_join (wr := pickW (ceX11_parts cyI cyB cyJ cyZ a0 a1 a2 a3 a4 a5 a6 b0_image b0_before b0_taken b0_tape b0_five b0_value b0_far b0_lead b0_walk b0_ends b0_round b0_farOne b0_leads b0_drags b0_from b0_near g0_hasImage g0_remembered g0_taped g0_point g0_end g0_begin g0_deep g0_faultAt g0_steps g0_men g0_dogs f1 u1 f2 f3 f4 f5 f6) [0, 1, 2, 3, 4, 5, 6]) (w1 := ([] : va_W)) hP hD [] [0, 1, 2, 3, 4, 5, 6] rfl rfl (by decide) (by decide) hk1 hFc hP1 hD1
    have hP := hP.sub (ws' := (ceX11_parts cyI cyB cyJ cyZ a0 a1 a2 a3 a4 a5 a6 b0_image b0_before b0_taken b0_tape b0_five b0_value b0_far b0_lead b0_walk b0_ends b0_round b0_farOne b0_leads b0_drags b0_from b0_near g0_hasImage g0_remembered g0_taped g0_point g0_end g0_begin g0_deep g0_faultAt g0_steps g0_men g0_dogs f1 u1 f2 f3 f4 f5 f6)) [0, 1, 2, 3, 4, 5, 6] rfl
    have hD := hD.sub (ws' := (ceX11_parts cyI cyB cyJ cyZ a0 a1 a2 a3 a4 a5 a6 b0_image b0_before b0_taken b0_tape b0_five b0_value b0_far b0_lead b0_walk b0_ends b0_round b0_farOne b0_leads b0_drags b0_from b0_near g0_hasImage g0_remembered g0_taped g0_point g0_end g0_begin g0_deep g0_faultAt g0_steps g0_men g0_dogs f1 u1 f2 f3 f4 f5 f6)) [0, 1, 2, 3, 4, 5, 6] (by decide) rfl
    generalize H1 = H at hP hS ⊢
    refine lv_if_ne (tgt := 49) hx hb dX11_parts_42 (by decide) (fun hc => ?_) (fun hc => ?_)
    · have hw := hw.1 hc
      refine lv_iconst (v := 0) hx hb dX11_parts_49 (by decide) ?_
      exact bX11_parts_50 C0 hK hN hA hQ u1 f2 f3 f4 f5 f6 x1 x2 x3 0 hw _ _ hP hD hS ls (lv_sub hl [0, 1, 2, 3] rfl)
    · have hw := hw.2 hc
      refine lv_iconst (v := 1) hx hb dX11_parts_45 (by decide) ?_
      refine lv_goto (tgt := 50) hx hb dX11_parts_46 (by decide) ?_
      exact bX11_parts_50 C0 hK hN hA hQ u1 f2 f3 f4 f5 f6 x1 x2 x3 1 hw _ _ hP hD hS ls (lv_sub hl [0, 1, 2, 3] rfl)
set_option maxRecDepth 100000 in
set_option maxHeartbeats 4000000 in
theorem bX11_parts_22 {p : Program} {l : Launch} {e : Env} {s : State} {m : MethodId} {args : Array Value} {below : List Frame} {meth : Method} {c : Code} {dC : Nat → ClassId} {dI : Nat → Nat → Nat} {cyI cyB cyJ cyZ : ClassId} {A : Nat → Prop} {a0 a1 a2 a3 a4 a5 a6 b0_image b0_before b0_taken b0_tape b0_five b0_value b0_far b0_lead b0_walk b0_ends b0_round b0_farOne b0_leads b0_drags b0_from b0_near : Nat} {g0_hasImage : Int32} {g0_remembered : Int32} {g0_taped : Int32} {g0_point : Int32} {g0_end : Int32} {g0_begin : Int32} {g0_deep : Int32} {g0_faultAt : Int32} {g0_steps : Int32} {g0_men : Int32} {g0_dogs : Int32} (C0 : cxM p s m meth c args wsX11_parts RX11 cX11_parts 11 (some .long)) (hK : va_K (dC, dI) vwCl (tyA cyI cyB cyJ cyZ) s) (hN : nwA s) (hA : ∀ q : Nat, s.heap.size ≤ q → A q) {post : Int64 → (Int32 × (Nat → Int32) × (Nat → Int32) × (Nat → Int32) × (Nat → Int32) × (Nat → Int32)) → Prop} {f1 : Nat → Int32} {Q : State → Prop} (hQ : Q = MQ below (va_Ql post (fun u : Int32 × (Nat → Int32) × (Nat → Int32) × (Nat → Int32) × (Nat → Int32) × (Nat → Int32) => wAt dC dI cyI cyB cyJ cyZ A (ceX11_parts cyI cyB cyJ cyZ a0 a1 a2 a3 a4 a5 a6 b0_image b0_before b0_taken b0_tape b0_five b0_value b0_far b0_lead b0_walk b0_ends b0_round b0_farOne b0_leads b0_drags b0_from b0_near g0_hasImage g0_remembered g0_taped g0_point g0_end g0_begin g0_deep g0_faultAt g0_steps g0_men g0_dogs f1 u.1 u.2.1 u.2.2.1 u.2.2.2.1 u.2.2.2.2.1 u.2.2.2.2.2)) A) args s 0 0 A) : ∀ (g0_thrown : Int32) (f2 : Nat → Int32) (f3 : Nat → Int32) (f4 : Nat → Int32) (f5 : Nat → Int32) (f6 : Nat → Int32) (x1 : Int32) (x2 : Int32) (x3 : Int32), wpX11_parts_22 post f1 g0_thrown f2 f3 f4 f5 f6 x1 x2 x3 → AtW p l e rmX11_parts s m args below meth c dC dI A Q 11 0 0 (ceX11_parts cyI cyB cyJ cyZ a0 a1 a2 a3 a4 a5 a6 b0_image b0_before b0_taken b0_tape b0_five b0_value b0_far b0_lead b0_walk b0_ends b0_round b0_farOne b0_leads b0_drags b0_from b0_near g0_hasImage g0_remembered g0_taped g0_point g0_end g0_begin g0_deep g0_faultAt g0_steps g0_men g0_dogs f1 g0_thrown f2 f3 f4 f5 f6) [(0, .ref a0), (1, .int x1), (2, .int x2), (3, .int x3)] 22 [.ref a0] := by
  intro g0_thrown f2 f3 f4 f5 f6 x1 x2 x3 hw H locs hP hD hS ls hl
  have C1 := C0
  obtain ⟨hx, hb, hr, hml, hown, hts, hlocks⟩ := C1
  refine lv_iconst (v := 1) hx hb dX11_parts_22 (by decide) ?_
  refine lv_goto (tgt := 27) hx hb dX11_parts_23 (by decide) ?_
  exact bX11_parts_27 C0 hK hN hA hQ g0_thrown f2 f3 f4 f5 f6 x1 x2 x3 1 hw _ _ hP hD hS ls (lv_sub hl [0, 1, 2, 3] rfl)
set_option maxRecDepth 100000 in
set_option maxHeartbeats 4000000 in
theorem ctX11_parts (l : Launch) (dC : Nat → ClassId) (dI : Nat → Nat → Nat) (cyI cyB cyJ cyZ : ClassId) (sz : Nat) (a0 a1 a2 a3 a4 a5 a6 b0_image b0_before b0_taken b0_tape b0_five b0_value b0_far b0_lead b0_walk b0_ends b0_round b0_farOne b0_leads b0_drags b0_from b0_near : Nat) (g0_hasImage : Int32) (g0_remembered : Int32) (g0_taped : Int32) (g0_point : Int32) (g0_end : Int32) (g0_begin : Int32) (g0_deep : Int32) (g0_faultAt : Int32) (g0_steps : Int32) (g0_men : Int32) (g0_dogs : Int32) (f1 : Nat → Int32) (g0_thrown : Int32) (f2 : Nat → Int32) (f3 : Nat → Int32) (f4 : Nat → Int32) (f5 : Nat → Int32) (f6 : Nat → Int32) (p0 : Int32) (p1 : Int32) (p2 : Int32) (post : Int64 → (Int32 × (Nat → Int32) × (Nat → Int32) × (Nat → Int32) × (Nat → Int32) × (Nat → Int32)) → Prop) (hw : wpX11_parts post f1 g0_thrown f2 f3 f4 f5 f6 p0 p1 p2) : Met l yX11_parts wsX11_parts rmX11_parts (va_Pc [.ref a0, .int p0, .int p1, .int p2] (wPre dC dI cyI cyB cyJ cyZ sz (ceX11_parts cyI cyB cyJ cyZ a0 a1 a2 a3 a4 a5 a6 b0_image b0_before b0_taken b0_tape b0_five b0_value b0_far b0_lead b0_walk b0_ends b0_round b0_farOne b0_leads b0_drags b0_from b0_near g0_hasImage g0_remembered g0_taped g0_point g0_end g0_begin g0_deep g0_faultAt g0_steps g0_men g0_dogs f1 g0_thrown f2 f3 f4 f5 f6))) (va_Ql post (fun u : Int32 × (Nat → Int32) × (Nat → Int32) × (Nat → Int32) × (Nat → Int32) × (Nat → Int32) => wAt dC dI cyI cyB cyJ cyZ (va_A (ceX11_parts cyI cyB cyJ cyZ a0 a1 a2 a3 a4 a5 a6 b0_image b0_before b0_taken b0_tape b0_five b0_value b0_far b0_lead b0_walk b0_ends b0_round b0_farOne b0_leads b0_drags b0_from b0_near g0_hasImage g0_remembered g0_taped g0_point g0_end g0_begin g0_deep g0_faultAt g0_steps g0_men g0_dogs f1 g0_thrown f2 f3 f4 f5 f6) sz) (ceX11_parts cyI cyB cyJ cyZ a0 a1 a2 a3 a4 a5 a6 b0_image b0_before b0_taken b0_tape b0_five b0_value b0_far b0_lead b0_walk b0_ends b0_round b0_farOne b0_leads b0_drags b0_from b0_near g0_hasImage g0_remembered g0_taped g0_point g0_end g0_begin g0_deep g0_faultAt g0_steps g0_men g0_dogs f1 u.1 u.2.1 u.2.2.1 u.2.2.2.1 u.2.2.2.2.1 u.2.2.2.2.2)) (va_A (ceX11_parts cyI cyB cyJ cyZ a0 a1 a2 a3 a4 a5 a6 b0_image b0_before b0_taken b0_tape b0_five b0_value b0_far b0_lead b0_walk b0_ends b0_round b0_farOne b0_leads b0_drags b0_from b0_near g0_hasImage g0_remembered g0_taped g0_point g0_end g0_begin g0_deep g0_faultAt g0_steps g0_men g0_dogs f1 g0_thrown f2 f3 f4 f5 f6) sz)) 0 0 (va_A (ceX11_parts cyI cyB cyJ cyZ a0 a1 a2 a3 a4 a5 a6 b0_image b0_before b0_taken b0_tape b0_five b0_value b0_far b0_lead b0_walk b0_ends b0_round b0_farOne b0_leads b0_drags b0_from b0_near g0_hasImage g0_remembered g0_taped g0_point g0_end g0_begin g0_deep g0_faultAt g0_steps g0_men g0_dogs f1 g0_thrown f2 f3 f4 f5 f6) sz) := by
  refine Met.ofW (cc := cX11_parts) (maxL := 11) (ret := (some .long)) (by decide) rfl ?_
  intro p e s m args below meth c s₁ B hml hv
  obtain ⟨rfl, hsz, hP, hK, hD0, hN⟩ := hv
  have hx := B.exec
  have hb := B.bytes
  have hr := B.returns
  have hts := atoms_spec (ws := wsX11_parts) B.pre
  have hown : s.vm.findClass RX11 = some m.cls := findClass_of_methodNamed B.named
  have hlocks := B.notSynchronized
  subst hsz
  have hD := hD0.self (sz := s.heap.size)
  generalize hAe : va_A (ceX11_parts cyI cyB cyJ cyZ a0 a1 a2 a3 a4 a5 a6 b0_image b0_before b0_taken b0_tape b0_five b0_value b0_far b0_lead b0_walk b0_ends b0_round b0_farOne b0_leads b0_drags b0_from b0_near g0_hasImage g0_remembered g0_taped g0_point g0_end g0_begin g0_deep g0_faultAt g0_steps g0_men g0_dogs f1 g0_thrown f2 f3 f4 f5 f6) s.heap.size = A at hD ⊢
  have hA : ∀ q : Nat, s.heap.size ≤ q → A q := fun q h => by rw [← hAe]; exact Or.inr h
  have hS : va_S A s.heap s.heap [] := va_S.rf
  have C0 : cxM p s m meth c _ wsX11_parts RX11 cX11_parts 11 (some .long) := ⟨hx, hb, hr, hml, hown, hts, hlocks⟩
  have hl := lv_entry ([.ref a0, .int p0, .int p1, .int p2]) (n := 11) (Nat.le_of_ble_eq_true rfl)
  rw [lg_entry_eq]
  generalize (lg_sl ([.ref a0, .int p0, .int p1, .int p2]) ++ List.replicate (11 - (lg_sl ([.ref a0, .int p0, .int p1, .int p2])).length) Slot.unset).toArray = ls at hl ⊢
  have hl : lv_has ls 11 [(0, .ref a0), (1, .int p0), (2, .int p1), (3, .int p2)] := hl
  show W p l e rmX11_parts s m _ below meth c _ _ _ _ _ _
  refine wq (fun Q hQ => ?_)
  refine lv_aload_n hx hb dX11_parts_0 rfl (lv_at hl 0 rfl) ?_
  refine lv_iconst (v := 0) hx hb dX11_parts_1 (by decide) ?_
  refine va_put (D := (dC, dI)) (ci := 11) (v := .int 0) (ty := .int) (C := RX11) (T := TX11) (N := 34) hx hb hts inX11_parts_X11 tyX11 tyX11_ok nmX11 hown hK hP hD hS 0 rfl rfl 0 (by decide) (hts (.fieldLink RX11 3 "LeadParkModel" "thrown" "I") (List.mem_of_getElem? (i := 1) rfl)) (fun _ h9 => h9) rfl (by decide +kernel) rfl rfl (Nat.le_of_ble_eq_true rfl) dX11_parts_2 (fun H locs hP hD hS => ?_)
  have hP : va_P (dC, dI) vwCl (ceX11_parts cyI cyB cyJ cyZ a0 a1 a2 a3 a4 a5 a6 b0_image b0_before b0_taken b0_tape b0_five b0_value b0_far b0_lead b0_walk b0_ends b0_round b0_farOne b0_leads b0_drags b0_from b0_near g0_hasImage g0_remembered g0_taped g0_point g0_end g0_begin g0_deep g0_faultAt g0_steps g0_men g0_dogs f1 0 f2 f3 f4 f5 f6) H := hP
  have hD : va_D A (ceX11_parts cyI cyB cyJ cyZ a0 a1 a2 a3 a4 a5 a6 b0_image b0_before b0_taken b0_tape b0_five b0_value b0_far b0_lead b0_walk b0_ends b0_round b0_farOne b0_leads b0_drags b0_from b0_near g0_hasImage g0_remembered g0_taped g0_point g0_end g0_begin g0_deep g0_faultAt g0_steps g0_men g0_dogs f1 0 f2 f3 f4 f5 f6) := hD
  refine lv_aload_n hx hb dX11_parts_5 rfl (lv_at hl 0 rfl) ?_
  refine lv_aload_n hx hb dX11_parts_6 rfl (lv_at hl 0 rfl) ?_
  refine lv_iload_n hx hb dX11_parts_7 rfl (lv_at hl 1 rfl) ?_
  have hPc := hP.sub (ws' := (ceX11_noWay cyI cyB cyJ cyZ a0 a1 b0_image b0_before b0_taken b0_tape b0_five b0_value b0_far b0_lead b0_walk b0_ends a2 a3 a4 a5 a6 b0_round b0_farOne b0_leads b0_drags b0_from b0_near 0 g0_hasImage g0_remembered g0_taped g0_point g0_end g0_begin g0_deep g0_faultAt g0_steps g0_men g0_dogs f1)) [0, 1] rfl
  have hDc := hD.sub (ws' := (ceX11_noWay cyI cyB cyJ cyZ a0 a1 b0_image b0_before b0_taken b0_tape b0_five b0_value b0_far b0_lead b0_walk b0_ends a2 a3 a4 a5 a6 b0_round b0_farOne b0_leads b0_drags b0_from b0_near 0 g0_hasImage g0_remembered g0_taped g0_point g0_end g0_begin g0_deep g0_faultAt g0_steps g0_men g0_dogs f1)) [0, 1] (by decide) rfl
  have hFc := va_free (wc := (ceX11_noWay cyI cyB cyJ cyZ a0 a1 b0_image b0_before b0_taken b0_tape b0_five b0_value b0_far b0_lead b0_walk b0_ends a2 a3 a4 a5 a6 b0_round b0_farOne b0_leads b0_drags b0_from b0_near 0 g0_hasImage g0_remembered g0_taped g0_point g0_end g0_begin g0_deep g0_faultAt g0_steps g0_men g0_dogs f1)) hD hS hA [0, 1] rfl
  refine va_calli (va_runV (As := [.int p0]) (rest := [.ref a0]) ⟨hx, hb, hml, hown, hts⟩ (ctX11_noWay l dC dI cyI cyB cyJ cyZ _ a0 a1 b0_image b0_before b0_taken b0_tape b0_five b0_value b0_far b0_lead b0_walk b0_ends a2 a3 a4 a5 a6 b0_round b0_farOne b0_leads b0_drags b0_from b0_near 0 g0_hasImage g0_remembered g0_taped g0_point g0_end g0_begin g0_deep g0_faultAt g0_steps g0_men g0_dogs f1 p0 _ hw) (cwV 1 hts gX11_parts_X11_noWay rfl rfl rfl (by decide +kernel) ⟨Nat.le_of_ble_eq_true rfl, Nat.le_of_ble_eq_true rfl⟩) ⟨wPre_blind, va_recv hK hPc (ci := 11) (q0 := 0) rfl rfl, fun U hU hW => wPre_of hPc hK hDc hN hU hW⟩ rfl rfl hl.1 rfl (lv_room (Nat.le_of_ble_eq_true rfl)) dX11_parts_8 ⟨(Nat.zero_le _), (Nat.zero_le _)⟩) hS (fun q _ h => hFc q h) hFc (fun r2 u1 t H1 locs ht hvm hw hB hz1 hk1 hS => ?_)
  obtain ⟨hP1, hK1, hD1⟩ := hB
  rw [ht] at hP1
  obtain ⟨hP, hD⟩ := va_join (wr := pickW (ceX11_parts cyI cyB cyJ cyZ a0 a1 a2 a3 a4 a5 a6 b0_image b0_before b0_taken b0_tape b0_five b0_value b0_far b0_lead b0_walk b0_ends b0_round b0_farOne b0_leads b0_drags b0_from b0_near g0_hasImage g0_remembered g0_taped g0_point g0_end g0_begin g0_deep g0_faultAt g0_steps g0_men g0_dogs f1 0 f2 f3 f4 f5 f6) [2, 3, 4, 5, 6]) (w1 := (ceX11_noWay cyI cyB cyJ cyZ a0 a1 b0_image b0_before b0_taken b0_tape b0_five b0_value b0_far b0_lead b0_walk b0_ends a2 a3 a4 a5 a6 b0_round b0_farOne b0_leads b0_drags b0_from b0_near 0 g0_hasImage g0_remembered g0_taped g0_point g0_end g0_begin g0_deep g0_faultAt g0_steps g0_men g0_dogs f1)) hP hD [0, 1] [2, 3, 4, 5, 6] rfl rfl (by decide) (by decide) hk1 hFc hP1 hD1
  have hP := hP.sub (ws' := (ceX11_parts cyI cyB cyJ cyZ a0 a1 a2 a3 a4 a5 a6 b0_image b0_before b0_taken b0_tape b0_five b0_value b0_far b0_lead b0_walk b0_ends b0_round b0_farOne b0_leads b0_drags b0_from b0_near g0_hasImage g0_remembered g0_taped g0_point g0_end g0_begin g0_deep g0_faultAt g0_steps g0_men g0_dogs f1 0 f2 f3 f4 f5 f6)) [5, 6, 0, 1, 2, 3, 4] rfl
  have hD := hD.sub (ws' := (ceX11_parts cyI cyB cyJ cyZ a0 a1 a2 a3 a4 a5 a6 b0_image b0_before b0_taken b0_tape b0_five b0_value b0_far b0_lead b0_walk b0_ends b0_round b0_farOne b0_leads b0_drags b0_from b0_near g0_hasImage g0_remembered g0_taped g0_point g0_end g0_begin g0_deep g0_faultAt g0_steps g0_men g0_dogs f1 0 f2 f3 f4 f5 f6)) [5, 6, 0, 1, 2, 3, 4] (by decide) rfl
  generalize H1 = H at hP hS ⊢
  refine lv_if_ne (tgt := 22) hx hb dX11_parts_11 (by decide) (fun hc => ?_) (fun hc => ?_)
  · have hw := hw.1 hc
    exact bX11_parts_22 C0 hK hN hA hQ 0 f2 f3 f4 f5 f6 p0 p1 p2 hw _ _ hP hD hS ls (lv_sub hl [0, 1, 2, 3] rfl)
  · have hw := hw.2 hc
    refine lv_aload_n hx hb dX11_parts_14 rfl (lv_at hl 0 rfl) ?_
    refine lv_iload_n hx hb dX11_parts_15 rfl (lv_at hl 2 rfl) ?_
    have hPc := hP.sub (ws' := (ceX11_noWay cyI cyB cyJ cyZ a0 a1 b0_image b0_before b0_taken b0_tape b0_five b0_value b0_far b0_lead b0_walk b0_ends a2 a3 a4 a5 a6 b0_round b0_farOne b0_leads b0_drags b0_from b0_near 0 g0_hasImage g0_remembered g0_taped g0_point g0_end g0_begin g0_deep g0_faultAt g0_steps g0_men g0_dogs f1)) [0, 1] rfl
    have hDc := hD.sub (ws' := (ceX11_noWay cyI cyB cyJ cyZ a0 a1 b0_image b0_before b0_taken b0_tape b0_five b0_value b0_far b0_lead b0_walk b0_ends a2 a3 a4 a5 a6 b0_round b0_farOne b0_leads b0_drags b0_from b0_near 0 g0_hasImage g0_remembered g0_taped g0_point g0_end g0_begin g0_deep g0_faultAt g0_steps g0_men g0_dogs f1)) [0, 1] (by decide) rfl
    have hFc := va_free (wc := (ceX11_noWay cyI cyB cyJ cyZ a0 a1 b0_image b0_before b0_taken b0_tape b0_five b0_value b0_far b0_lead b0_walk b0_ends a2 a3 a4 a5 a6 b0_round b0_farOne b0_leads b0_drags b0_from b0_near 0 g0_hasImage g0_remembered g0_taped g0_point g0_end g0_begin g0_deep g0_faultAt g0_steps g0_men g0_dogs f1)) hD hS hA [0, 1] rfl
    refine va_calli (va_runV (As := [.int p1]) (rest := [.ref a0]) ⟨hx, hb, hml, hown, hts⟩ (ctX11_noWay l dC dI cyI cyB cyJ cyZ _ a0 a1 b0_image b0_before b0_taken b0_tape b0_five b0_value b0_far b0_lead b0_walk b0_ends a2 a3 a4 a5 a6 b0_round b0_farOne b0_leads b0_drags b0_from b0_near 0 g0_hasImage g0_remembered g0_taped g0_point g0_end g0_begin g0_deep g0_faultAt g0_steps g0_men g0_dogs f1 p1 _ hw) (cwV 1 hts gX11_parts_X11_noWay rfl rfl rfl (by decide +kernel) ⟨Nat.le_of_ble_eq_true rfl, Nat.le_of_ble_eq_true rfl⟩) ⟨wPre_blind, va_recv hK hPc (ci := 11) (q0 := 0) rfl rfl, fun U hU hW => wPre_of hPc hK hDc hN hU hW⟩ rfl rfl hl.1 rfl (lv_room (Nat.le_of_ble_eq_true rfl)) dX11_parts_16 ⟨(Nat.zero_le _), (Nat.zero_le _)⟩) hS (fun q _ h => hFc q h) hFc (fun r4 u3 t H1 locs ht hvm hw hB hz1 hk1 hS => ?_)
    obtain ⟨hP1, hK1, hD1⟩ := hB
    rw [ht] at hP1
    obtain ⟨hP, hD⟩ := va_join (wr := pickW (ceX11_parts cyI cyB cyJ cyZ a0 a1 a2 a3 a4 a5 a6 b0_image b0_before b0_taken b0_tape b0_five b0_value b0_far b0_lead b0_walk b0_ends b0_round b0_farOne b0_leads b0_drags b0_from b0_near g0_hasImage g0_remembered g0_taped g0_point g0_end g0_begin g0_deep g0_faultAt g0_steps g0_men g0_dogs f1 0 f2 f3 f4 f5 f6) [2, 3, 4, 5, 6]) (w1 := (ceX11_noWay cyI cyB cyJ cyZ a0 a1 b0_image b0_before b0_taken b0_tape b0_five b0_value b0_far b0_lead b0_walk b0_ends a2 a3 a4 a5 a6 b0_round b0_farOne b0_leads b0_drags b0_from b0_near 0 g0_hasImage g0_remembered g0_taped g0_point g0_end g0_begin g0_deep g0_faultAt g0_steps g0_men g0_dogs f1)) hP hD [0, 1] [2, 3, 4, 5, 6] rfl rfl (by decide) (by decide) hk1 hFc hP1 hD1
    have hP := hP.sub (ws' := (ceX11_parts cyI cyB cyJ cyZ a0 a1 a2 a3 a4 a5 a6 b0_image b0_before b0_taken b0_tape b0_five b0_value b0_far b0_lead b0_walk b0_ends b0_round b0_farOne b0_leads b0_drags b0_from b0_near g0_hasImage g0_remembered g0_taped g0_point g0_end g0_begin g0_deep g0_faultAt g0_steps g0_men g0_dogs f1 0 f2 f3 f4 f5 f6)) [5, 6, 0, 1, 2, 3, 4] rfl
    have hD := hD.sub (ws' := (ceX11_parts cyI cyB cyJ cyZ a0 a1 a2 a3 a4 a5 a6 b0_image b0_before b0_taken b0_tape b0_five b0_value b0_far b0_lead b0_walk b0_ends b0_round b0_farOne b0_leads b0_drags b0_from b0_near g0_hasImage g0_remembered g0_taped g0_point g0_end g0_begin g0_deep g0_faultAt g0_steps g0_men g0_dogs f1 0 f2 f3 f4 f5 f6)) [5, 6, 0, 1, 2, 3, 4] (by decide) rfl
    generalize H1 = H at hP hS ⊢
    refine lv_if_eq (tgt := 26) hx hb dX11_parts_19 (by decide) (fun hc => ?_) (fun hc => ?_)
    · have hw := hw.1 hc
      refine lv_iconst (v := 0) hx hb dX11_parts_26 (by decide) ?_
      exact bX11_parts_27 C0 hK hN hA hQ 0 f2 f3 f4 f5 f6 p0 p1 p2 0 hw _ _ hP hD hS ls (lv_sub hl [0, 1, 2, 3] rfl)
    · have hw := hw.2 hc
      exact bX11_parts_22 C0 hK hN hA hQ 0 f2 f3 f4 f5 f6 p0 p1 p2 hw _ _ hP hD hS ls (lv_sub hl [0, 1, 2, 3] rfl)
/-! LeadParkModel.backLead (II)I -/
abbrev ceX11_backLead (cyI cyB cyJ cyZ : ClassId) (a0 a1 b0_world b0_image b0_before b0_taken b0_tape b0_five b0_value b0_far b0_walk b0_ends b0_manX b0_manY b0_dogX b0_dogY b0_row b0_round b0_farOne b0_leads b0_drags b0_from b0_near : Nat) (g0_thrown : Int32) (g0_hasImage : Int32) (g0_remembered : Int32) (g0_taped : Int32) (g0_point : Int32) (g0_end : Int32) (g0_begin : Int32) (g0_deep : Int32) (g0_faultAt : Int32) (g0_steps : Int32) (g0_men : Int32) (g0_dogs : Int32) (f1 : Nat → Int32) : va_W := [(a0, .inr (11, [.int g0_thrown, .ref b0_world, .ref b0_image, .ref b0_before, .int g0_hasImage, .ref b0_taken, .int g0_remembered, .ref b0_tape, .int g0_taped, .int g0_point, .int g0_end, .int g0_begin, .int g0_deep, .int g0_faultAt, .ref b0_five, .int g0_steps, .ref b0_value, .ref b0_far, .int g0_men, .int g0_dogs, .ref a1, .ref b0_walk, .ref b0_ends, .ref b0_manX, .ref b0_manY, .ref b0_dogX, .ref b0_dogY, .ref b0_row, .ref b0_round, .ref b0_farOne, .ref b0_leads, .ref b0_drags, .ref b0_from, .ref b0_near])), (a1, .inl (cyI, 900, .inl f1))]

theorem inX11_backLead_X11 : ∀ w ∈ wsX110, w ∈ wsX11_backLead := fun _ h => List.mem_cons_of_mem _ (List.mem_append_right _ h)
abbrev rmX11_backLead : Room := { frames := 0, cells := 0, slots := 0, locals := 0 }
def wpX11_backLead (post : Int32 → Unit → Prop) (g0_men : Int32) (g0_dogs : Int32) (f1 : Nat → Int32) (p0 : Int32) (p1 : Int32) : Prop :=
  (p0 < 0 →
   post 2000000000 ()) ∧
  (¬ p0 < 0 →
   (p1 < 0 →
    post 2000000000 ()) ∧
   (¬ p1 < 0 →
    (g0_men ≤ p0 →
     post 2000000000 ()) ∧
    (¬ g0_men ≤ p0 →
     (p1 < g0_dogs →
      vp_in ((30 * p0) + p1) 900 ∧
      post (f1 ((30 * p0) + p1).toNatClampNeg) ()) ∧
     (¬ p1 < g0_dogs →
      post 2000000000 ()))))
set_option maxRecDepth 100000 in
set_option maxHeartbeats 4000000 in
theorem ctX11_backLead (l : Launch) (dC : Nat → ClassId) (dI : Nat → Nat → Nat) (cyI cyB cyJ cyZ : ClassId) (sz : Nat) (a0 a1 b0_world b0_image b0_before b0_taken b0_tape b0_five b0_value b0_far b0_walk b0_ends b0_manX b0_manY b0_dogX b0_dogY b0_row b0_round b0_farOne b0_leads b0_drags b0_from b0_near : Nat) (g0_thrown : Int32) (g0_hasImage : Int32) (g0_remembered : Int32) (g0_taped : Int32) (g0_point : Int32) (g0_end : Int32) (g0_begin : Int32) (g0_deep : Int32) (g0_faultAt : Int32) (g0_steps : Int32) (g0_men : Int32) (g0_dogs : Int32) (f1 : Nat → Int32) (p0 : Int32) (p1 : Int32) (post : Int32 → Unit → Prop) (hw : wpX11_backLead post g0_men g0_dogs f1 p0 p1) : Met l yX11_backLead wsX11_backLead rmX11_backLead (va_Pc [.ref a0, .int p0, .int p1] (wPre dC dI cyI cyB cyJ cyZ sz (ceX11_backLead cyI cyB cyJ cyZ a0 a1 b0_world b0_image b0_before b0_taken b0_tape b0_five b0_value b0_far b0_walk b0_ends b0_manX b0_manY b0_dogX b0_dogY b0_row b0_round b0_farOne b0_leads b0_drags b0_from b0_near g0_thrown g0_hasImage g0_remembered g0_taped g0_point g0_end g0_begin g0_deep g0_faultAt g0_steps g0_men g0_dogs f1))) (va_Qi post (fun u : Unit => wAt dC dI cyI cyB cyJ cyZ (va_A (ceX11_backLead cyI cyB cyJ cyZ a0 a1 b0_world b0_image b0_before b0_taken b0_tape b0_five b0_value b0_far b0_walk b0_ends b0_manX b0_manY b0_dogX b0_dogY b0_row b0_round b0_farOne b0_leads b0_drags b0_from b0_near g0_thrown g0_hasImage g0_remembered g0_taped g0_point g0_end g0_begin g0_deep g0_faultAt g0_steps g0_men g0_dogs f1) sz) (ceX11_backLead cyI cyB cyJ cyZ a0 a1 b0_world b0_image b0_before b0_taken b0_tape b0_five b0_value b0_far b0_walk b0_ends b0_manX b0_manY b0_dogX b0_dogY b0_row b0_round b0_farOne b0_leads b0_drags b0_from b0_near g0_thrown g0_hasImage g0_remembered g0_taped g0_point g0_end g0_begin g0_deep g0_faultAt g0_steps g0_men g0_dogs f1)) (va_A (ceX11_backLead cyI cyB cyJ cyZ a0 a1 b0_world b0_image b0_before b0_taken b0_tape b0_five b0_value b0_far b0_walk b0_ends b0_manX b0_manY b0_dogX b0_dogY b0_row b0_round b0_farOne b0_leads b0_drags b0_from b0_near g0_thrown g0_hasImage g0_remembered g0_taped g0_point g0_end g0_begin g0_deep g0_faultAt g0_steps g0_men g0_dogs f1) sz)) 0 0 (va_A (ceX11_backLead cyI cyB cyJ cyZ a0 a1 b0_world b0_image b0_before b0_taken b0_tape b0_five b0_value b0_far b0_walk b0_ends b0_manX b0_manY b0_dogX b0_dogY b0_row b0_round b0_farOne b0_leads b0_drags b0_from b0_near g0_thrown g0_hasImage g0_remembered g0_taped g0_point g0_end g0_begin g0_deep g0_faultAt g0_steps g0_men g0_dogs f1) sz) := by
  refine Met.ofW (cc := cX11_backLead) (maxL := 3) (ret := (some .int)) (by decide) rfl ?_
  intro p e s m args below meth c s₁ B hml hv
  obtain ⟨rfl, hsz, hP, hK, hD0, hN⟩ := hv
  have hx := B.exec
  have hb := B.bytes
  have hr := B.returns
  have hts := atoms_spec (ws := wsX11_backLead) B.pre
  have hown : s.vm.findClass RX11 = some m.cls := findClass_of_methodNamed B.named
  have hlocks := B.notSynchronized
  subst hsz
  have hD := hD0.self (sz := s.heap.size)
  generalize hAe : va_A (ceX11_backLead cyI cyB cyJ cyZ a0 a1 b0_world b0_image b0_before b0_taken b0_tape b0_five b0_value b0_far b0_walk b0_ends b0_manX b0_manY b0_dogX b0_dogY b0_row b0_round b0_farOne b0_leads b0_drags b0_from b0_near g0_thrown g0_hasImage g0_remembered g0_taped g0_point g0_end g0_begin g0_deep g0_faultAt g0_steps g0_men g0_dogs f1) s.heap.size = A at hD ⊢
  have hA : ∀ q : Nat, s.heap.size ≤ q → A q := fun q h => by rw [← hAe]; exact Or.inr h
  have hS : va_S A s.heap s.heap [] := va_S.rf
  have C0 : cxM p s m meth c _ wsX11_backLead RX11 cX11_backLead 3 (some .int) := ⟨hx, hb, hr, hml, hown, hts, hlocks⟩
  have hl := lv_entry ([.ref a0, .int p0, .int p1]) (n := 3) (Nat.le_of_ble_eq_true rfl)
  rw [lg_entry_eq]
  generalize (lg_sl ([.ref a0, .int p0, .int p1]) ++ List.replicate (3 - (lg_sl ([.ref a0, .int p0, .int p1])).length) Slot.unset).toArray = ls at hl ⊢
  have hl : lv_has ls 3 [(0, .ref a0), (1, .int p0), (2, .int p1)] := hl
  show W p l e rmX11_backLead s m _ below meth c _ _ _ _ _ _
  refine wq (fun Q hQ => ?_)
  refine lv_iload_n hx hb dX11_backLead_0 rfl (lv_at hl 1 rfl) ?_
  refine lv_if_lt (tgt := 24) hx hb dX11_backLead_1 (by decide) (fun hc => ?_) (fun hc => ?_)
  · have hw := hw.1 hc
    refine lv_ldcw (v := 2000000000) hx hb hown (hts (.constant RX11 306 (2000000000)) (List.mem_of_getElem? (i := 3) rfl)) dX11_backLead_24 ?_
    refine lv_goto (tgt := 41) hx hb dX11_backLead_27 (by decide) ?_
    rw [hQ]
    exact W.iret (v := 2000000000) hx hb hr (fun t ht hW => ⟨⟨2000000000, (), rfl, hw, by rw [ht]; exact hP, va_K.moved hW.alike hK, hD⟩, hS.F ht⟩) hS.2.2 dX11_backLead_41
  · have hw := hw.2 hc
    refine lv_iload_n hx hb dX11_backLead_4 rfl (lv_at hl 2 rfl) ?_
    refine lv_if_lt (tgt := 24) hx hb dX11_backLead_5 (by decide) (fun hc => ?_) (fun hc => ?_)
    · have hw := hw.1 hc
      refine lv_ldcw (v := 2000000000) hx hb hown (hts (.constant RX11 306 (2000000000)) (List.mem_of_getElem? (i := 3) rfl)) dX11_backLead_24 ?_
      refine lv_goto (tgt := 41) hx hb dX11_backLead_27 (by decide) ?_
      rw [hQ]
      exact W.iret (v := 2000000000) hx hb hr (fun t ht hW => ⟨⟨2000000000, (), rfl, hw, by rw [ht]; exact hP, va_K.moved hW.alike hK, hD⟩, hS.F ht⟩) hS.2.2 dX11_backLead_41
    · have hw := hw.2 hc
      refine lv_iload_n hx hb dX11_backLead_8 rfl (lv_at hl 1 rfl) ?_
      refine lv_aload_n hx hb dX11_backLead_9 rfl (lv_at hl 0 rfl) ?_
      refine va_get (D := (dC, dI)) (ci := 11) (v := .int g0_men) (C := RX11) (T := TX11) (N := 34) hx hb hts inX11_backLead_X11 hown hK hP 0 rfl rfl 18 (by decide) (hts (.fieldLink RX11 300 "LeadParkModel" "men" "I") (List.mem_of_getElem? (i := 1) rfl)) (fun _ h9 => h9) rfl dX11_backLead_10 ?_
      refine lv_icmp_ge (tgt := 24) hx hb dX11_backLead_13 (by decide) (fun hc => ?_) (fun hc => ?_)
      · have hw := hw.1 hc
        refine lv_ldcw (v := 2000000000) hx hb hown (hts (.constant RX11 306 (2000000000)) (List.mem_of_getElem? (i := 3) rfl)) dX11_backLead_24 ?_
        refine lv_goto (tgt := 41) hx hb dX11_backLead_27 (by decide) ?_
        rw [hQ]
        exact W.iret (v := 2000000000) hx hb hr (fun t ht hW => ⟨⟨2000000000, (), rfl, hw, by rw [ht]; exact hP, va_K.moved hW.alike hK, hD⟩, hS.F ht⟩) hS.2.2 dX11_backLead_41
      · have hw := hw.2 hc
        refine lv_iload_n hx hb dX11_backLead_16 rfl (lv_at hl 2 rfl) ?_
        refine lv_aload_n hx hb dX11_backLead_17 rfl (lv_at hl 0 rfl) ?_
        refine va_get (D := (dC, dI)) (ci := 11) (v := .int g0_dogs) (C := RX11) (T := TX11) (N := 34) hx hb hts inX11_backLead_X11 hown hK hP 0 rfl rfl 19 (by decide) (hts (.fieldLink RX11 303 "LeadParkModel" "dogs" "I") (List.mem_of_getElem? (i := 2) rfl)) (fun _ h9 => h9) rfl dX11_backLead_18 ?_
        refine lv_icmp_lt (tgt := 30) hx hb dX11_backLead_21 (by decide) (fun hc => ?_) (fun hc => ?_)
        · have hw := hw.1 hc
          refine lv_aload_n hx hb dX11_backLead_30 rfl (lv_at hl 0 rfl) ?_
          refine va_get (D := (dC, dI)) (ci := 11) (v := .ref a1) (C := RX11) (T := TX11) (N := 34) hx hb hts inX11_backLead_X11 hown hK hP 0 rfl rfl 20 (by decide) (hts (.fieldLink RX11 42 "LeadParkModel" "lead" "[I") (List.mem_of_getElem? (i := 4) rfl)) (fun _ h9 => h9) rfl dX11_backLead_31 ?_
          refine lv_bipush (v := 30) hx hb dX11_backLead_34 (by decide) ?_
          refine lv_iload_n hx hb dX11_backLead_36 rfl (lv_at hl 1 rfl) ?_
          refine lv_imul hx hb dX11_backLead_37 ?_
          refine lv_iload_n hx hb dX11_backLead_38 rfl (lv_at hl 2 rfl) ?_
          refine lv_iadd hx hb dX11_backLead_39 ?_
          obtain ⟨hi, hw⟩ := hw
          refine va_iald hx hb hK hP 1 0 rfl rfl hi dX11_backLead_40 ?_
          rw [hQ]
          exact W.iret (v := f1 ((30 * p0) + p1).toNatClampNeg) hx hb hr (fun t ht hW => ⟨⟨f1 ((30 * p0) + p1).toNatClampNeg, (), rfl, hw, by rw [ht]; exact hP, va_K.moved hW.alike hK, hD⟩, hS.F ht⟩) hS.2.2 dX11_backLead_41
        · have hw := hw.2 hc
          refine lv_ldcw (v := 2000000000) hx hb hown (hts (.constant RX11 306 (2000000000)) (List.mem_of_getElem? (i := 3) rfl)) dX11_backLead_24 ?_
          refine lv_goto (tgt := 41) hx hb dX11_backLead_27 (by decide) ?_
          rw [hQ]
          exact W.iret (v := 2000000000) hx hb hr (fun t ht hW => ⟨⟨2000000000, (), rfl, hw, by rw [ht]; exact hP, va_K.moved hW.alike hK, hD⟩, hS.F ht⟩) hS.2.2 dX11_backLead_41
