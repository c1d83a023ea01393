/-! LeadPark.greatestToOthers (II)I -/
abbrev ceX10_greatestToOthers (cyI cyB cyJ cyZ : ClassId) (a0 a1 a2 a3 a4 a5 a6 a7 a8 a9 a10 a11 a12 b0_tape b0_kept b0_draftGround b0_draftLaw b0_pack b0_pieces b0_thinning b1_marks b1_stroll : Nat) (g0_imageKept : Int32) (g0_wrongByte : Int32) (g1_drawSeed : Int32) (g2_texts : Int32) (g7_lines : Int32) (g2_ways : Int32) (g2_wallCount : Int32) (f3 : Nat → Int32) (f4 : Nat → Int32) (f5 : Nat → Int32) (f6 : Nat → Int32) (g7_size : Int32) (f9 : Nat → Int32) (f8 : Nat → Int32) (g10_rows : Int32) (g10_columns : Int32) (f11 : Nat → Int32) (f12 : Nat → Int32) : va_W := [(a0, .inr (10, [.ref b0_tape, .ref a1, .ref b0_kept, .ref b0_draftGround, .ref b0_draftLaw, .ref a10, .ref b0_pack, .ref b0_pieces, .ref b0_thinning, .int g0_imageKept, .int g0_wrongByte])), (a1, .inr (6, [.ref a2, .ref a7, .ref b1_marks, .ref b1_stroll, .int g1_drawSeed])), (a2, .inr (1, [.ref a4, .ref a5, .ref a3, .ref a6, .int g2_ways, .int g2_wallCount, .int g2_texts])), (a3, .inl (cyI, 12, .inl f3)), (a4, .inl (cyI, 360, .inl f4)), (a5, .inl (cyI, 360, .inl f5)), (a6, .inl (cyI, 32, .inl f6)), (a7, .inr (2, [.ref a9, .ref a8, .int g7_size, .int g7_lines])), (a8, .inl (cyI, 7, .inl f8)), (a9, .inl (cyI, 400, .inl f9)), (a10, .inr (0, [.ref a11, .ref a12, .int g10_rows, .int g10_columns])), (a11, .inl (cyI, 1089, .inl f11)), (a12, .inl (cyI, 1089, .inl f12))]

theorem inX10_greatestToOthers_X1 : ∀ w ∈ wsX10, w ∈ wsX10_greatestToOthers := fun _ h => List.mem_cons_of_mem _ (List.mem_append_left _ (List.mem_append_left _ (List.mem_append_right _ h)))
theorem inX10_greatestToOthers_X10 : ∀ w ∈ wsX100, w ∈ wsX10_greatestToOthers := fun _ h => List.mem_cons_of_mem _ (List.mem_append_left _ (List.mem_append_left _ (List.mem_append_left _ (List.mem_append_left _ (List.mem_append_right _ h)))))
theorem inX10_greatestToOthers_X6 : ∀ w ∈ wsX60, w ∈ wsX10_greatestToOthers := fun _ h => List.mem_cons_of_mem _ (List.mem_append_left _ (List.mem_append_left _ (List.mem_append_left _ (List.mem_append_right _ h))))
abbrev rmX10_greatestToOthers : Room := { frames := 6, cells := 0, slots := 0, locals := 175 }
def wpX10_greatestToOthers_62 (k5 : (Nat → Int32) → Int32 → Int32 → (Nat → Int32) → (Nat → Int32) → Int32 → Int32 → Int32 → Int32 → Prop) (post : Int32 → ((Nat → Int32) × Int32 × Int32 × (Nat → Int32) × (Nat → Int32)) → Prop) (g2_ways : Int32) (g2_wallCount : Int32) (f3 : Nat → Int32) (f4 : Nat → Int32) (f5 : Nat → Int32) (f6 : Nat → Int32) (g7_size : Int32) (f9 : Nat → Int32) (f8 : Nat → Int32) (g10_rows : Int32) (g10_columns : Int32) (f11 : Nat → Int32) (f12 : Nat → Int32) (x1 : Int32) (x2 : Int32) (x3 : Int32) (x4 : Int32) : Prop :=
  ∀ v1 : Int32, v1 = x4 + 1 →
  k5 f8 g10_rows g10_columns f11 f12 x1 x2 x3 v1
def wpX10_greatestToOthers_5 (post : Int32 → ((Nat → Int32) × Int32 × Int32 × (Nat → Int32) × (Nat → Int32)) → Prop) (g2_ways : Int32) (g2_wallCount : Int32) (f3 : Nat → Int32) (f4 : Nat → Int32) (f5 : Nat → Int32) (f6 : Nat → Int32) (g7_size : Int32) (f9 : Nat → Int32) : Nat → (Nat → Int32) → Int32 → Int32 → (Nat → Int32) → (Nat → Int32) → Int32 → Int32 → Int32 → Int32 → Prop
  | 0, _, _, _, _, _, _, _, _, _ => False
  | n_5 + 1, f8, g10_rows, g10_columns, f11, f12, x1, x2, x3, x4 =>
    (g2_ways ≤ x4 →
     post x3 (f8, g10_rows, g10_columns, f11, f12)) ∧
    (¬ g2_ways ≤ x4 →
     (x4 = x1 →
      wpX10_greatestToOthers_62 (fun y0 y1 y2 y3 y4 y5 y6 y7 y8 => wpX10_greatestToOthers_5 post g2_ways g2_wallCount f3 f4 f5 f6 g7_size f9 n_5 y0 y1 y2 y3 y4 y5 y6 y7 y8) post g2_ways g2_wallCount f3 f4 f5 f6 g7_size f9 f8 g10_rows g10_columns f11 f12 x1 x2 x3 x4) ∧
     (¬ x4 = x1 →
      wpX10_isIn (fun (r2 : Int32) (u1 : Unit) =>
       (¬ r2 = 0 →
        wpX10_shortest (fun (r4 : Int32) (u3 : Int32 × Int32 × (Nat → Int32) × (Nat → Int32) × (Nat → Int32)) =>
         (¬ r4 = (-1) →
          ∀ v5 : Int32, v5 = iMax x3 r4 →
          wpX10_greatestToOthers_62 (fun y0 y1 y2 y3 y4 y5 y6 y7 y8 => wpX10_greatestToOthers_5 post g2_ways g2_wallCount f3 f4 f5 f6 g7_size f9 n_5 y0 y1 y2 y3 y4 y5 y6 y7 y8) post g2_ways g2_wallCount f3 f4 f5 f6 g7_size f9 u3.2.2.2.2 u3.1 u3.2.1 u3.2.2.1 u3.2.2.2.1 x1 x2 v5 x4) ∧
         (r4 = (-1) →
          post (-1) (u3.2.2.2.2, u3.1, u3.2.1, u3.2.2.1, u3.2.2.2.1))) g2_wallCount f3 f4 f5 f6 g7_size f9 g10_rows g10_columns f11 f12 f8 x1 x4) ∧
       (r2 = 0 →
        wpX10_greatestToOthers_62 (fun y0 y1 y2 y3 y4 y5 y6 y7 y8 => wpX10_greatestToOthers_5 post g2_ways g2_wallCount f3 f4 f5 f6 g7_size f9 n_5 y0 y1 y2 y3 y4 y5 y6 y7 y8) post g2_ways g2_wallCount f3 f4 f5 f6 g7_size f9 f8 g10_rows g10_columns f11 f12 x1 x2 x3 x4)) x2 x4))
def wpX10_greatestToOthers (post : Int32 → ((Nat → Int32) × Int32 × Int32 × (Nat → Int32) × (Nat → Int32)) → Prop) (g2_ways : Int32) (g2_wallCount : Int32) (f3 : Nat → Int32) (f4 : Nat → Int32) (f5 : Nat → Int32) (f6 : Nat → Int32) (g7_size : Int32) (f9 : Nat → Int32) (f8 : Nat → Int32) (g10_rows : Int32) (g10_columns : Int32) (f11 : Nat → Int32) (f12 : Nat → Int32) (p0 : Int32) (p1 : Int32) : Prop :=
  ∃ n_5 : Nat, wpX10_greatestToOthers_5 post g2_ways g2_wallCount f3 f4 f5 f6 g7_size f9 n_5 f8 g10_rows g10_columns f11 f12 p0 p1 0 0
set_option maxRecDepth 100000 in
set_option maxHeartbeats 4000000 in
theorem bX10_greatestToOthers_62 {p : Program} {l : Launch} {e : Env} {s : State} {m : MethodId} {args : Array Value} {below : List Frame} {meth : Method} {c : Code} {dC : Nat → ClassId} {dI : Nat → Nat → Nat} {cyI cyB cyJ cyZ : ClassId} {A : Nat → Prop} {a0 a1 a2 a3 a4 a5 a6 a7 a8 a9 a10 a11 a12 b0_tape b0_kept b0_draftGround b0_draftLaw b0_pack b0_pieces b0_thinning b1_marks b1_stroll : Nat} {g0_imageKept : Int32} {g0_wrongByte : Int32} {g1_drawSeed : Int32} {g2_texts : Int32} {g7_lines : Int32} (C0 : cxM p s m meth c args wsX10_greatestToOthers RX10 cX10_greatestToOthers 6 (some .int)) (hK : va_K (dC, dI) vwCl (tyA cyI cyB cyJ cyZ) s) (hN : nwA s) (hA : ∀ q : Nat, s.heap.size ≤ q → A q) {post : Int32 → ((Nat → Int32) × Int32 × Int32 × (Nat → Int32) × (Nat → Int32)) → Prop} {g2_ways : Int32} {g2_wallCount : Int32} {f3 : Nat → Int32} {f4 : Nat → Int32} {f5 : Nat → Int32} {f6 : Nat → Int32} {g7_size : Int32} {f9 : Nat → Int32} {k5 : (Nat → Int32) → Int32 → Int32 → (Nat → Int32) → (Nat → Int32) → Int32 → Int32 → Int32 → Int32 → Prop} {Q : State → Prop} (hQ : Q = MQ below (va_Qi post (fun u : (Nat → Int32) × Int32 × Int32 × (Nat → Int32) × (Nat → Int32) => wAt dC dI cyI cyB cyJ cyZ A (ceX10_greatestToOthers cyI cyB cyJ cyZ a0 a1 a2 a3 a4 a5 a6 a7 a8 a9 a10 a11 a12 b0_tape b0_kept b0_draftGround b0_draftLaw b0_pack b0_pieces b0_thinning b1_marks b1_stroll g0_imageKept g0_wrongByte g1_drawSeed g2_texts g7_lines g2_ways g2_wallCount f3 f4 f5 f6 g7_size f9 u.1 u.2.1 u.2.2.1 u.2.2.2.1 u.2.2.2.2)) A) args s 0 0 A) (hk5 : ∀ (f8 : Nat → Int32) (g10_rows : Int32) (g10_columns : Int32) (f11 : Nat → Int32) (f12 : Nat → Int32) (x1 : Int32) (x2 : Int32) (x3 : Int32) (x4 : Int32), k5 f8 g10_rows g10_columns f11 f12 x1 x2 x3 x4 → AtW p l e rmX10_greatestToOthers s m args below meth c dC dI A Q 6 0 0 (ceX10_greatestToOthers cyI cyB cyJ cyZ a0 a1 a2 a3 a4 a5 a6 a7 a8 a9 a10 a11 a12 b0_tape b0_kept b0_draftGround b0_draftLaw b0_pack b0_pieces b0_thinning b1_marks b1_stroll g0_imageKept g0_wrongByte g1_drawSeed g2_texts g7_lines g2_ways g2_wallCount f3 f4 f5 f6 g7_size f9 f8 g10_rows g10_columns f11 f12) [(0, .ref a0), (1, .int x1), (2, .int x2), (3, .int x3), (4, .int x4)] 5 []) : ∀ (f8 : Nat → Int32) (g10_rows : Int32) (g10_columns : Int32) (f11 : Nat → Int32) (f12 : Nat → Int32) (x1 : Int32) (x2 : Int32) (x3 : Int32) (x4 : Int32), wpX10_greatestToOthers_62 k5 post g2_ways g2_wallCount f3 f4 f5 f6 g7_size f9 f8 g10_rows g10_columns f11 f12 x1 x2 x3 x4 → AtW p l e rmX10_greatestToOthers s m args below meth c dC dI A Q 6 0 0 (ceX10_greatestToOthers cyI cyB cyJ cyZ a0 a1 a2 a3 a4 a5 a6 a7 a8 a9 a10 a11 a12 b0_tape b0_kept b0_draftGround b0_draftLaw b0_pack b0_pieces b0_thinning b1_marks b1_stroll g0_imageKept g0_wrongByte g1_drawSeed g2_texts g7_lines g2_ways g2_wallCount f3 f4 f5 f6 g7_size f9 f8 g10_rows g10_columns f11 f12) [(0, .ref a0), (1, .int x1), (2, .int x2), (3, .int x3), (4, .int x4)] 62 [] := by
  intro f8 g10_rows g10_columns f11 f12 x1 x2 x3 x4 hw H locs hP hD hS ls hl
  have C1 := C0
  obtain ⟨hx, hb, hr, hml, hown, hts, hlocks⟩ := C1
  obtain ⟨v1, ev1⟩ : ∃ y : Int32, y = x4 + 1 := ⟨_, rfl⟩
  have hw := hw v1 ev1
  refine lv_iinc (v := v1) (lv' := [(4, .int v1), (0, .ref a0), (1, .int x1), (2, .int x2), (3, .int x3)]) hx hb dX10_greatestToOthers_62 hl (k := 4) rfl (by rw [ev1]; rfl) (by decide) rfl (fun ls hl => ?_)
  refine lv_goto (tgt := 5) hx hb dX10_greatestToOthers_65 (by decide) ?_
  exact hk5 f8 g10_rows g10_columns f11 f12 x1 x2 x3 v1 hw H locs hP hD hS ls (lv_sub hl [1, 2, 3, 4, 0] rfl)
set_option maxRecDepth 100000 in
set_option maxHeartbeats 4000000 in
theorem bX10_greatestToOthers_5 {p : Program} {l : Launch} {e : Env} {s : State} {m : MethodId} {args : Array Value} {below : List Frame} {meth : Method} {c : Code} {dC : Nat → ClassId} {dI : Nat → Nat → Nat} {cyI cyB cyJ cyZ : ClassId} {A : Nat → Prop} {a0 a1 a2 a3 a4 a5 a6 a7 a8 a9 a10 a11 a12 b0_tape b0_kept b0_draftGround b0_draftLaw b0_pack b0_pieces b0_thinning b1_marks b1_stroll : Nat} {g0_imageKept : Int32} {g0_wrongByte : Int32} {g1_drawSeed : Int32} {g2_texts : Int32} {g7_lines : Int32} (C0 : cxM p s m meth c args wsX10_greatestToOthers RX10 cX10_greatestToOthers 6 (some .int)) (hK : va_K (dC, dI) vwCl (tyA cyI cyB cyJ cyZ) s) (hN : nwA s) (hA : ∀ q : Nat, s.heap.size ≤ q → A q) {post : Int32 → ((Nat → Int32) × Int32 × Int32 × (Nat → Int32) × (Nat → Int32)) → Prop} {g2_ways : Int32} {g2_wallCount : Int32} {f3 : Nat → Int32} {f4 : Nat → Int32} {f5 : Nat → Int32} {f6 : Nat → Int32} {g7_size : Int32} {f9 : Nat → Int32} {Q : State → Prop} (hQ : Q = MQ below (va_Qi post (fun u : (Nat → Int32) × Int32 × Int32 × (Nat → Int32) × (Nat → Int32) => wAt dC dI cyI cyB cyJ cyZ A (ceX10_greatestToOthers cyI cyB cyJ cyZ a0 a1 a2 a3 a4 a5 a6 a7 a8 a9 a10 a11 a12 b0_tape b0_kept b0_draftGround b0_draftLaw b0_pack b0_pieces b0_thinning b1_marks b1_stroll g0_imageKept g0_wrongByte g1_drawSeed g2_texts g7_lines g2_ways g2_wallCount f3 f4 f5 f6 g7_size f9 u.1 u.2.1 u.2.2.1 u.2.2.2.1 u.2.2.2.2)) A) args s 0 0 A) : ∀ (n : Nat) (f8 : Nat → Int32) (g10_rows : Int32) (g10_columns : Int32) (f11 : Nat → Int32) (f12 : Nat → Int32) (x1 : Int32) (x2 : Int32) (x3 : Int32) (x4 : Int32), wpX10_greatestToOthers_5 post g2_ways g2_wallCount f3 f4 f5 f6 g7_size f9 n f8 g10_rows g10_columns f11 f12 x1 x2 x3 x4 → AtW p l e rmX10_greatestToOthers s m args below meth c dC dI A Q 6 0 0 (ceX10_greatestToOthers cyI cyB cyJ cyZ a0 a1 a2 a3 a4 a5 a6 a7 a8 a9 a10 a11 a12 b0_tape b0_kept b0_draftGround b0_draftLaw b0_pack b0_pieces b0_thinning b1_marks b1_stroll g0_imageKept g0_wrongByte g1_drawSeed g2_texts g7_lines g2_ways g2_wallCount f3 f4 f5 f6 g7_size f9 f8 g10_rows g10_columns f11 f12) [(0, .ref a0), (1, .int x1), (2, .int x2), (3, .int x3), (4, .int x4)] 5 [] := by
  intro n
  induction n with
  | zero => intro f8 g10_rows g10_columns f11 f12 x1 x2 x3 x4 hw; exact False.elim hw
  | succ n ih =>
    intro f8 g10_rows g10_columns f11 f12 x1 x2 x3 x4 hw H locs hP hD hS ls hl
    have C1 := C0
    obtain ⟨hx, hb, hr, hml, hown, hts, hlocks⟩ := C1
    refine lv_iload hx hb dX10_greatestToOthers_5 (lv_at hl 4 rfl) ?_
    refine lv_aload_n hx hb dX10_greatestToOthers_7 rfl (lv_at hl 0 rfl) ?_
    refine va_get (D := (dC, dI)) (ci := 10) (v := .ref a1) (C := RX10) (T := TX10) (N := 11) hx hb hts inX10_greatestToOthers_X10 hown hK hP 0 rfl rfl 1 (by decide) (hts (.fieldLink RX10 19 "LeadPark" "scene" "LLeadPark$Scene;") (List.mem_of_getElem? (i := 1) rfl)) (fun _ h9 => h9) rfl dX10_greatestToOthers_8 ?_
    refine va_getN (D := (dC, dI)) (ci := 6) (v := .ref a2) (C := RX6) (T := TX6) (N := 5) hx hb hts inX10_greatestToOthers_X6 hown hK hP 1 rfl rfl 0 (by decide) (va_Nw.use rfl (hN _ (List.mem_of_getElem? (i := 29) rfl))) (fun _ h9 => h9) rfl dX10_greatestToOthers_11 ?_
    refine va_getN (D := (dC, dI)) (ci := 1) (v := .int g2_ways) (C := RX1) (T := TX1) (N := 7) hx hb hts inX10_greatestToOthers_X1 hown hK hP 2 rfl rfl 4 (by decide) (va_Nw.use rfl (hN _ (List.mem_of_getElem? (i := 9) rfl))) (fun _ h9 => h9) rfl dX10_greatestToOthers_14 ?_
    refine lv_icmp_ge (tgt := 68) hx hb dX10_greatestToOthers_17 (by decide) (fun hc => ?_) (fun hc => ?_)
    · have hw := hw.1 hc
      refine lv_iload_n hx hb dX10_greatestToOthers_68 rfl (lv_at hl 3 rfl) ?_
      rw [hQ]
      exact W.iret (v := x3) hx hb hr (fun t ht hW => ⟨⟨x3, (f8, g10_rows, g10_columns, f11, f12), rfl, hw, by rw [ht]; exact hP, va_K.moved hW.alike hK, hD⟩, hS.F ht⟩) hS.2.2 dX10_greatestToOthers_69
    · have hw := hw.2 hc
      refine lv_iload hx hb dX10_greatestToOthers_20 (lv_at hl 4 rfl) ?_
      refine lv_iload_n hx hb dX10_greatestToOthers_22 rfl (lv_at hl 1 rfl) ?_
      refine lv_icmp_eq (tgt := 62) hx hb dX10_greatestToOthers_23 (by decide) (fun hc => ?_) (fun hc => ?_)
      · have hw := hw.1 hc
        exact bX10_greatestToOthers_62 C0 hK hN hA hQ ih f8 g10_rows g10_columns f11 f12 x1 x2 x3 x4 hw _ _ hP hD hS ls (lv_sub hl [0, 1, 2, 3, 4] rfl)
      · have hw := hw.2 hc
        refine lv_iload_n hx hb dX10_greatestToOthers_26 rfl (lv_at hl 2 rfl) ?_
        refine lv_iload hx hb dX10_greatestToOthers_27 (lv_at hl 4 rfl) ?_
        have hPc := hP.sub (ws' := ([] : va_W)) [] rfl
        have hDc := hD.sub (ws' := ([] : va_W)) [] (by decide) rfl
        have hFc := va_free (wc := ([] : va_W)) hD hS hA [] rfl
        refine va_calli (va_runS (As := [.int x2, .int x4]) (rest := []) ⟨hx, hb, hml, hown, hts⟩ (ctX10_isIn l dC dI cyI cyB cyJ cyZ _ x2 x4 _ hw) (va_cwS 2 hts gX10_greatestToOthers_X10_isIn rfl rfl rfl (by decide +kernel) ⟨Nat.le_of_ble_eq_true rfl, Nat.le_of_ble_eq_true rfl⟩) ⟨wPre_blind, fun U hU hW => wPre_of hPc hK hDc hN hU hW⟩ rfl rfl hl.1 rfl (lv_room (Nat.le_of_ble_eq_true rfl)) dX10_greatestToOthers_29 ⟨(Nat.zero_le _), (Nat.zero_le _)⟩) hS (fun q _ h => hFc q h) hFc (fun r2 u1 t H1 locs ht hvm hw hB hz1 hk1 hS => ?_)
        obtain ⟨hP1, hK1, hD1⟩ := hB
        rw [ht] at hP1
        obtain ⟨hP, hD⟩ := va_join (wr := pickW (ceX10_greatestToOthers cyI cyB cyJ cyZ a0 a1 a2 a3 a4 a5 a6 a7 a8 a9 a10 a11 a12 b0_tape b0_kept b0_draftGround b0_draftLaw b0_pack b0_pieces b0_thinning b1_marks b1_stroll g0_imageKept g0_wrongByte g1_drawSeed g2_texts g7_lines g2_ways g2_wallCount f3 f4 f5 f6 g7_size f9 f8 g10_rows g10_columns f11 f12) [0, 1, 2, 3, 4, 5, 6, 7, 8, 9, 10, 11, 12]) (w1 := ([] : va_W)) hP hD [] [0, 1, 2, 3, 4, 5, 6, 7, 8, 9, 10, 11, 12] rfl rfl (by decide) (by decide) hk1 hFc hP1 hD1
        have hP := hP.sub (ws' := (ceX10_greatestToOthers cyI cyB cyJ cyZ a0 a1 a2 a3 a4 a5 a6 a7 a8 a9 a10 a11 a12 b0_tape b0_kept b0_draftGround b0_draftLaw b0_pack b0_pieces b0_thinning b1_marks b1_stroll g0_imageKept g0_wrongByte g1_drawSeed g2_texts g7_lines g2_ways g2_wallCount f3 f4 f5 f6 g7_size f9 f8 g10_rows g10_columns f11 f12)) [0, 1, 2, 3, 4, 5, 6, 7, 8, 9, 10, 11, 12] rfl
        have hD := hD.sub (ws' := (ceX10_greatestToOthers cyI cyB cyJ cyZ a0 a1 a2 a3 a4 a5 a6 a7 a8 a9 a10 a11 a12 b0_tape b0_kept b0_draftGround b0_draftLaw b0_pack b0_pieces b0_thinning b1_marks b1_stroll g0_imageKept g0_wrongByte g1_drawSeed g2_texts g7_lines g2_ways g2_wallCount f3 f4 f5 f6 g7_size f9 f8 g10_rows g10_columns f11 f12)) [0, 1, 2, 3, 4, 5, 6, 7, 8, 9, 10, 11, 12] (by decide) rfl
        generalize H1 = H at hP hS ⊢
        refine lv_if_ne (tgt := 38) hx hb dX10_greatestToOthers_32 (by decide) (fun hc => ?_) (fun hc => ?_)
        · have hw := hw.1 hc
          refine lv_aload_n hx hb dX10_greatestToOthers_38 rfl (lv_at hl 0 rfl) ?_
          refine lv_iload_n hx hb dX10_greatestToOthers_39 rfl (lv_at hl 1 rfl) ?_
          refine lv_iload hx hb dX10_greatestToOthers_40 (lv_at hl 4 rfl) ?_
          have hPc := hP.sub (ws' := (ceX10_shortest cyI cyB cyJ cyZ a0 a10 a11 a12 a1 a2 a3 a4 a5 a6 a7 a8 a9 b0_tape b0_kept b0_draftGround b0_draftLaw b0_pack b0_pieces b0_thinning b1_marks b1_stroll g0_imageKept g0_wrongByte g1_drawSeed g2_ways g2_texts g7_lines g2_wallCount f3 f4 f5 f6 g7_size f9 g10_rows g10_columns f11 f12 f8)) [0, 10, 11, 12, 1, 2, 3, 4, 5, 6, 7, 8, 9] rfl
          have hDc := hD.sub (ws' := (ceX10_shortest cyI cyB cyJ cyZ a0 a10 a11 a12 a1 a2 a3 a4 a5 a6 a7 a8 a9 b0_tape b0_kept b0_draftGround b0_draftLaw b0_pack b0_pieces b0_thinning b1_marks b1_stroll g0_imageKept g0_wrongByte g1_drawSeed g2_ways g2_texts g7_lines g2_wallCount f3 f4 f5 f6 g7_size f9 g10_rows g10_columns f11 f12 f8)) [0, 10, 11, 12, 1, 2, 3, 4, 5, 6, 7, 8, 9] (by decide) rfl
          have hFc := va_free (wc := (ceX10_shortest cyI cyB cyJ cyZ a0 a10 a11 a12 a1 a2 a3 a4 a5 a6 a7 a8 a9 b0_tape b0_kept b0_draftGround b0_draftLaw b0_pack b0_pieces b0_thinning b1_marks b1_stroll g0_imageKept g0_wrongByte g1_drawSeed g2_ways g2_texts g7_lines g2_wallCount f3 f4 f5 f6 g7_size f9 g10_rows g10_columns f11 f12 f8)) hD hS hA [0, 10, 11, 12, 1, 2, 3, 4, 5, 6, 7, 8, 9] rfl
          refine va_calli (va_runV (As := [.int x1, .int x4]) (rest := []) ⟨hx, hb, hml, hown, hts⟩ (ctX10_shortest l dC dI cyI cyB cyJ cyZ _ a0 a10 a11 a12 a1 a2 a3 a4 a5 a6 a7 a8 a9 b0_tape b0_kept b0_draftGround b0_draftLaw b0_pack b0_pieces b0_thinning b1_marks b1_stroll g0_imageKept g0_wrongByte g1_drawSeed g2_ways g2_texts g7_lines g2_wallCount f3 f4 f5 f6 g7_size f9 g10_rows g10_columns f11 f12 f8 x1 x4 _ hw) (cwV 2 hts gX10_greatestToOthers_X10_shortest rfl rfl rfl (by decide +kernel) ⟨Nat.le_of_ble_eq_true rfl, Nat.le_of_ble_eq_true rfl⟩) ⟨wPre_blind, va_recv hK hPc (ci := 10) (q0 := 0) rfl rfl, fun U hU hW => wPre_of hPc hK hDc hN hU hW⟩ rfl rfl hl.1 rfl (lv_room (Nat.le_of_ble_eq_true rfl)) dX10_greatestToOthers_42 ⟨(Nat.zero_le _), (Nat.zero_le _)⟩) hS (fun q _ h => hFc q h) hFc (fun r4 u3 t H1 locs ht hvm hw hB hz1 hk1 hS => ?_)
          obtain ⟨hP1, hK1, hD1⟩ := hB
          rw [ht] at hP1
          obtain ⟨hP, hD⟩ := va_join (wr := pickW (ceX10_greatestToOthers cyI cyB cyJ cyZ a0 a1 a2 a3 a4 a5 a6 a7 a8 a9 a10 a11 a12 b0_tape b0_kept b0_draftGround b0_draftLaw b0_pack b0_pieces b0_thinning b1_marks b1_stroll g0_imageKept g0_wrongByte g1_drawSeed g2_texts g7_lines g2_ways g2_wallCount f3 f4 f5 f6 g7_size f9 f8 g10_rows g10_columns f11 f12) []) (w1 := (ceX10_shortest cyI cyB cyJ cyZ a0 a10 a11 a12 a1 a2 a3 a4 a5 a6 a7 a8 a9 b0_tape b0_kept b0_draftGround b0_draftLaw b0_pack b0_pieces b0_thinning b1_marks b1_stroll g0_imageKept g0_wrongByte g1_drawSeed g2_ways g2_texts g7_lines g2_wallCount f3 f4 f5 f6 g7_size f9 u3.1 u3.2.1 u3.2.2.1 u3.2.2.2.1 u3.2.2.2.2)) hP hD [0, 10, 11, 12, 1, 2, 3, 4, 5, 6, 7, 8, 9] [] rfl rfl (by decide) (by decide) hk1 hFc hP1 hD1
          have hP := hP.sub (ws' := (ceX10_greatestToOthers cyI cyB cyJ cyZ a0 a1 a2 a3 a4 a5 a6 a7 a8 a9 a10 a11 a12 b0_tape b0_kept b0_draftGround b0_draftLaw b0_pack b0_pieces b0_thinning b1_marks b1_stroll g0_imageKept g0_wrongByte g1_drawSeed g2_texts g7_lines g2_ways g2_wallCount f3 f4 f5 f6 g7_size f9 u3.2.2.2.2 u3.1 u3.2.1 u3.2.2.1 u3.2.2.2.1)) [0, 4, 5, 6, 7, 8, 9, 10, 11, 12, 1, 2, 3] rfl
          have hD := hD.sub (ws' := (ceX10_greatestToOthers cyI cyB cyJ cyZ a0 a1 a2 a3 a4 a5 a6 a7 a8 a9 a10 a11 a12 b0_tape b0_kept b0_draftGround b0_draftLaw b0_pack b0_pieces b0_thinning b1_marks b1_stroll g0_imageKept g0_wrongByte g1_drawSeed g2_texts g7_lines g2_ways g2_wallCount f3 f4 f5 f6 g7_size f9 u3.2.2.2.2 u3.1 u3.2.1 u3.2.2.1 u3.2.2.2.1)) [0, 4, 5, 6, 7, 8, 9, 10, 11, 12, 1, 2, 3] (by decide) rfl
          generalize H1 = H at hP hS ⊢
          refine lv_istore (lv' := [(5, .int r4), (0, .ref a0), (1, .int x1), (2, .int x2), (3, .int x3), (4, .int x4)]) hx hb dX10_greatestToOthers_45 hl (by decide) rfl (fun ls hl => ?_)
          refine lv_iload hx hb dX10_greatestToOthers_47 (lv_at hl 0 rfl) ?_
          refine lv_iconst (v := (-1)) hx hb dX10_greatestToOthers_49 (by decide) ?_
          refine lv_icmp_ne (tgt := 55) hx hb dX10_greatestToOthers_50 (by decide) (fun hc => ?_) (fun hc => ?_)
          · have hw := hw.1 hc
            refine lv_iload_n hx hb dX10_greatestToOthers_55 rfl (lv_at hl 4 rfl) ?_
            refine lv_iload hx hb dX10_greatestToOthers_56 (lv_at hl 0 rfl) ?_
            refine va_mmax hx hb (hml.trans hl.1.symm) hown (hts (.methodLink RX10 337 Lib.Math.max.name) (List.mem_of_getElem? (i := 2) rfl)) (hts (.static Lib.Math.max.name) (List.mem_of_getElem? (i := 3) rfl)) (hts (.initialized "java/lang/Math") (List.mem_of_getElem? (i := 4) rfl)) (hts (.code Lib.Math.max.name Lib.Math.max.code 2 (some .int)) (List.mem_of_getElem? (i := 5) rfl)) (Nat.le_of_ble_eq_true rfl) (Nat.le_of_ble_eq_true rfl) (by decide) (by decide) dX10_greatestToOthers_58 ?_
            refine lv_topi (fun v5 ev5 => ?_)
            have hw := hw v5 ev5
            refine lv_istore_n (lv' := [(3, .int v5), (5, .int r4), (0, .ref a0), (1, .int x1), (2, .int x2), (4, .int x4)]) hx hb dX10_greatestToOthers_61 rfl hl (by decide) rfl (fun ls hl => ?_)
            exact bX10_greatestToOthers_62 C0 hK hN hA hQ ih u3.2.2.2.2 u3.1 u3.2.1 u3.2.2.1 u3.2.2.2.1 x1 x2 v5 x4 hw _ _ hP hD hS ls (lv_sub hl [2, 3, 4, 0, 5] rfl)
          · have hw := hw.2 hc
            refine lv_iconst (v := (-1)) hx hb dX10_greatestToOthers_53 (by decide) ?_
            rw [hQ]
            exact W.iret (v := (-1)) hx hb hr (fun t ht hW => ⟨⟨(-1), (u3.2.2.2.2, u3.1, u3.2.1, u3.2.2.1, u3.2.2.2.1), rfl, hw, by rw [ht]; exact hP, va_K.moved hW.alike hK, hD⟩, hS.F ht⟩) hS.2.2 dX10_greatestToOthers_54
        · have hw := hw.2 hc
          refine lv_goto (tgt := 62) hx hb dX10_greatestToOthers_35 (by decide) ?_
          exact bX10_greatestToOthers_62 C0 hK hN hA hQ ih f8 g10_rows g10_columns f11 f12 x1 x2 x3 x4 hw _ _ hP hD hS ls (lv_sub hl [0, 1, 2, 3, 4] rfl)
set_option maxRecDepth 100000 in
set_option maxHeartbeats 4000000 in
theorem ctX10_greatestToOthers (l : Launch) (dC : Nat → ClassId) (dI : Nat → Nat → Nat) (cyI cyB cyJ cyZ : ClassId) (sz : Nat) (a0 a1 a2 a3 a4 a5 a6 a7 a8 a9 a10 a11 a12 b0_tape b0_kept b0_draftGround b0_draftLaw b0_pack b0_pieces b0_thinning b1_marks b1_stroll : Nat) (g0_imageKept : Int32) (g0_wrongByte : Int32) (g1_drawSeed : Int32) (g2_texts : Int32) (g7_lines : Int32) (g2_ways : Int32) (g2_wallCount : Int32) (f3 : Nat → Int32) (f4 : Nat → Int32) (f5 : Nat → Int32) (f6 : Nat → Int32) (g7_size : Int32) (f9 : Nat → Int32) (f8 : Nat → Int32) (g10_rows : Int32) (g10_columns : Int32) (f11 : Nat → Int32) (f12 : Nat → Int32) (p0 : Int32) (p1 : Int32) (post : Int32 → ((Nat → Int32) × Int32 × Int32 × (Nat → Int32) × (Nat → Int32)) → Prop) (hw : wpX10_greatestToOthers post g2_ways g2_wallCount f3 f4 f5 f6 g7_size f9 f8 g10_rows g10_columns f11 f12 p0 p1) : Met l yX10_greatestToOthers wsX10_greatestToOthers rmX10_greatestToOthers (va_Pc [.ref a0, .int p0, .int p1] (wPre dC dI cyI cyB cyJ cyZ sz (ceX10_greatestToOthers cyI cyB cyJ cyZ a0 a1 a2 a3 a4 a5 a6 a7 a8 a9 a10 a11 a12 b0_tape b0_kept b0_draftGround b0_draftLaw b0_pack b0_pieces b0_thinning b1_marks b1_stroll g0_imageKept g0_wrongByte g1_drawSeed g2_texts g7_lines g2_ways g2_wallCount f3 f4 f5 f6 g7_size f9 f8 g10_rows g10_columns f11 f12))) (va_Qi post (fun u : (Nat → Int32) × Int32 × Int32 × (Nat → Int32) × (Nat → Int32) => wAt dC dI cyI cyB cyJ cyZ (va_A (ceX10_greatestToOthers cyI cyB cyJ cyZ a0 a1 a2 a3 a4 a5 a6 a7 a8 a9 a10 a11 a12 b0_tape b0_kept b0_draftGround b0_draftLaw b0_pack b0_pieces b0_thinning b1_marks b1_stroll g0_imageKept g0_wrongByte g1_drawSeed g2_texts g7_lines g2_ways g2_wallCount f3 f4 f5 f6 g7_size f9 f8 g10_rows g10_columns f11 f12) sz) (ceX10_greatestToOthers cyI cyB cyJ cyZ a0 a1 a2 a3 a4 a5 a6 a7 a8 a9 a10 a11 a12 b0_tape b0_kept b0_draftGround b0_draftLaw b0_pack b0_pieces b0_thinning b1_marks b1_stroll g0_imageKept g0_wrongByte g1_drawSeed g2_texts g7_lines g2_ways g2_wallCount f3 f4 f5 f6 g7_size f9 u.1 u.2.1 u.2.2.1 u.2.2.2.1 u.2.2.2.2)) (va_A (ceX10_greatestToOthers cyI cyB cyJ cyZ a0 a1 a2 a3 a4 a5 a6 a7 a8 a9 a10 a11 a12 b0_tape b0_kept b0_draftGround b0_draftLaw b0_pack b0_pieces b0_thinning b1_marks b1_stroll g0_imageKept g0_wrongByte g1_drawSeed g2_texts g7_lines g2_ways g2_wallCount f3 f4 f5 f6 g7_size f9 f8 g10_rows g10_columns f11 f12) sz)) 0 0 (va_A (ceX10_greatestToOthers cyI cyB cyJ cyZ a0 a1 a2 a3 a4 a5 a6 a7 a8 a9 a10 a11 a12 b0_tape b0_kept b0_draftGround b0_draftLaw b0_pack b0_pieces b0_thinning b1_marks b1_stroll g0_imageKept g0_wrongByte g1_drawSeed g2_texts g7_lines g2_ways g2_wallCount f3 f4 f5 f6 g7_size f9 f8 g10_rows g10_columns f11 f12) sz) := by
  refine Met.ofW (cc := cX10_greatestToOthers) (maxL := 6) (ret := (some .int)) (by decide) rfl ?_
  intro p e s m args below meth c s₁ B hml hv
  obtain ⟨rfl, hsz, hP, hK, hD0, hN⟩ := hv
  have hx := B.exec
  have hb := B.bytes
  have hr := B.returns
  have hts := atoms_spec (ws := wsX10_greatestToOthers) B.pre
  have hown : s.vm.findClass RX10 = some m.cls := findClass_of_methodNamed B.named
  have hlocks := B.notSynchronized
  subst hsz
  have hD := hD0.self (sz := s.heap.size)
  generalize hAe : va_A (ceX10_greatestToOthers cyI cyB cyJ cyZ a0 a1 a2 a3 a4 a5 a6 a7 a8 a9 a10 a11 a12 b0_tape b0_kept b0_draftGround b0_draftLaw b0_pack b0_pieces b0_thinning b1_marks b1_stroll g0_imageKept g0_wrongByte g1_drawSeed g2_texts g7_lines g2_ways g2_wallCount f3 f4 f5 f6 g7_size f9 f8 g10_rows g10_columns f11 f12) s.heap.size = A at hD ⊢
  have hA : ∀ q : Nat, s.heap.size ≤ q → A q := fun q h => by rw [← hAe]; exact Or.inr h
  have hS : va_S A s.heap s.heap [] := va_S.rf
  have C0 : cxM p s m meth c _ wsX10_greatestToOthers RX10 cX10_greatestToOthers 6 (some .int) := ⟨hx, hb, hr, hml, hown, hts, hlocks⟩
  have hl := lv_entry ([.ref a0, .int p0, .int p1]) (n := 6) (Nat.le_of_ble_eq_true rfl)
  rw [lg_entry_eq]
  generalize (lg_sl ([.ref a0, .int p0, .int p1]) ++ List.replicate (6 - (lg_sl ([.ref a0, .int p0, .int p1])).length) Slot.unset).toArray = ls at hl ⊢
  have hl : lv_has ls 6 [(0, .ref a0), (1, .int p0), (2, .int p1)] := hl
  show W p l e rmX10_greatestToOthers s m _ below meth c _ _ _ _ _ _
  refine wq (fun Q hQ => ?_)
  refine lv_iconst (v := 0) hx hb dX10_greatestToOthers_0 (by decide) ?_
  refine lv_istore_n (lv' := [(3, .int 0), (0, .ref a0), (1, .int p0), (2, .int p1)]) hx hb dX10_greatestToOthers_1 rfl hl (by decide) rfl (fun ls hl => ?_)
  refine lv_iconst (v := 0) hx hb dX10_greatestToOthers_2 (by decide) ?_
  refine lv_istore (lv' := [(4, .int 0), (3, .int 0), (0, .ref a0), (1, .int p0), (2, .int p1)]) hx hb dX10_greatestToOthers_3 hl (by decide) rfl (fun ls hl => ?_)
  obtain ⟨nn, hw⟩ := hw
  exact bX10_greatestToOthers_5 C0 hK hN hA hQ nn f8 g10_rows g10_columns f11 f12 p0 p1 0 0 hw _ _ hP hD hS ls (lv_sub hl [2, 3, 4, 1, 0] rfl)
/-! LeadPark.middle (I)I -/
abbrev ceX10_middle (cyI cyB cyJ cyZ : ClassId) (a0 a1 a2 a3 a4 a5 a6 a7 a8 a9 a10 a11 a12 b0_tape b0_kept b0_draftGround b0_draftLaw b0_pack b0_pieces b0_thinning b1_marks b1_stroll : Nat) (g0_imageKept : Int32) (g0_wrongByte : Int32) (g1_drawSeed : Int32) (g2_texts : Int32) (g7_lines : Int32) (g2_ways : Int32) (g2_wallCount : Int32) (f3 : Nat → Int32) (f4 : Nat → Int32) (f5 : Nat → Int32) (f6 : Nat → Int32) (g7_size : Int32) (f9 : Nat → Int32) (f8 : Nat → Int32) (g10_rows : Int32) (g10_columns : Int32) (f11 : Nat → Int32) (f12 : Nat → Int32) : va_W := [(a0, .inr (10, [.ref b0_tape, .ref a1, .ref b0_kept, .ref b0_draftGround, .ref b0_draftLaw, .ref a10, .ref b0_pack, .ref b0_pieces, .ref b0_thinning, .int g0_imageKept, .int g0_wrongByte])), (a1, .inr (6, [.ref a2, .ref a7, .ref b1_marks, .ref b1_stroll, .int g1_drawSeed])), (a2, .inr (1, [.ref a4, .ref a5, .ref a3, .ref a6, .int g2_ways, .int g2_wallCount, .int g2_texts])), (a3, .inl (cyI, 12, .inl f3)), (a4, .inl (cyI, 360, .inl f4)), (a5, .inl (cyI, 360, .inl f5)), (a6, .inl (cyI, 32, .inl f6)), (a7, .inr (2, [.ref a9, .ref a8, .int g7_size, .int g7_lines])), (a8, .inl (cyI, 7, .inl f8)), (a9, .inl (cyI, 400, .inl f9)), (a10, .inr (0, [.ref a11, .ref a12, .int g10_rows, .int g10_columns])), (a11, .inl (cyI, 1089, .inl f11)), (a12, .inl (cyI, 1089, .inl f12))]

theorem inX10_middle_X1 : ∀ w ∈ wsX10, w ∈ wsX10_middle := fun _ h => List.mem_cons_of_mem _ (List.mem_append_left _ (List.mem_append_left _ (List.mem_append_right _ h)))
theorem inX10_middle_X10 : ∀ w ∈ wsX100, w ∈ wsX10_middle := fun _ h => List.mem_cons_of_mem _ (List.mem_append_left _ (List.mem_append_left _ (List.mem_append_left _ (List.mem_append_left _ (List.mem_append_right _ h)))))
theorem inX10_middle_X6 : ∀ w ∈ wsX60, w ∈ wsX10_middle := fun _ h => List.mem_cons_of_mem _ (List.mem_append_left _ (List.mem_append_left _ (List.mem_append_left _ (List.mem_append_right _ h))))
abbrev rmX10_middle : Room := { frames := 7, cells := 0, slots := 0, locals := 200 }
def wpX10_middle_62 (k8 : (Nat → Int32) → Int32 → Int32 → (Nat → Int32) → (Nat → Int32) → Int32 → Int32 → Int32 → Int32 → Prop) (post : Int32 → ((Nat → Int32) × Int32 × Int32 × (Nat → Int32) × (Nat → Int32)) → Prop) (g2_ways : Int32) (g2_wallCount : Int32) (f3 : Nat → Int32) (f4 : Nat → Int32) (f5 : Nat → Int32) (f6 : Nat → Int32) (g7_size : Int32) (f9 : Nat → Int32) (f8 : Nat → Int32) (g10_rows : Int32) (g10_columns : Int32) (f11 : Nat → Int32) (f12 : Nat → Int32) (x1 : Int32) (x2 : Int32) (x3 : Int32) (x4 : Int32) : Prop :=
  ∀ v1 : Int32, v1 = x4 + 1 →
  k8 f8 g10_rows g10_columns f11 f12 x1 x2 x3 v1
def wpX10_middle_8 (post : Int32 → ((Nat → Int32) × Int32 × Int32 × (Nat → Int32) × (Nat → Int32)) → Prop) (g2_ways : Int32) (g2_wallCount : Int32) (f3 : Nat → Int32) (f4 : Nat → Int32) (f5 : Nat → Int32) (f6 : Nat → Int32) (g7_size : Int32) (f9 : Nat → Int32) : Nat → (Nat → Int32) → Int32 → Int32 → (Nat → Int32) → (Nat → Int32) → Int32 → Int32 → Int32 → Int32 → Prop
  | 0, _, _, _, _, _, _, _, _, _ => False
  | n_8 + 1, f8, g10_rows, g10_columns, f11, f12, x1, x2, x3, x4 =>
    (g2_ways ≤ x4 →
     post x2 (f8, g10_rows, g10_columns, f11, f12)) ∧
    (¬ g2_ways ≤ x4 →
     wpX10_isIn (fun (r2 : Int32) (u1 : Unit) =>
      (¬ r2 = 0 →
       wpX10_greatestToOthers (fun (r4 : Int32) (u3 : (Nat → Int32) × Int32 × Int32 × (Nat → Int32) × (Nat → Int32)) =>
        (r4 = (-1) →
         wpX10_middle_62 (fun y0 y1 y2 y3 y4 y5 y6 y7 y8 => wpX10_middle_8 post g2_ways g2_wallCount f3 f4 f5 f6 g7_size f9 n_8 y0 y1 y2 y3 y4 y5 y6 y7 y8) post g2_ways g2_wallCount f3 f4 f5 f6 g7_size f9 u3.1 u3.2.1 u3.2.2.1 u3.2.2.2.1 u3.2.2.2.2 x1 x2 x3 x4) ∧
        (¬ r4 = (-1) →
         (x3 ≤ r4 →
          wpX10_middle_62 (fun y0 y1 y2 y3 y4 y5 y6 y7 y8 => wpX10_middle_8 post g2_ways g2_wallCount f3 f4 f5 f6 g7_size f9 n_8 y0 y1 y2 y3 y4 y5 y6 y7 y8) post g2_ways g2_wallCount f3 f4 f5 f6 g7_size f9 u3.1 u3.2.1 u3.2.2.1 u3.2.2.2.1 u3.2.2.2.2 x1 x2 x3 x4) ∧
         (¬ x3 ≤ r4 →
          wpX10_middle_62 (fun y0 y1 y2 y3 y4 y5 y6 y7 y8 => wpX10_middle_8 post g2_ways g2_wallCount f3 f4 f5 f6 g7_size f9 n_8 y0 y1 y2 y3 y4 y5 y6 y7 y8) post g2_ways g2_wallCount f3 f4 f5 f6 g7_size f9 u3.1 u3.2.1 u3.2.2.1 u3.2.2.2.1 u3.2.2.2.2 x1 x4 r4 x4))) g2_ways g2_wallCount f3 f4 f5 f6 g7_size f9 f8 g10_rows g10_columns f11 f12 x4 x1) ∧
      (r2 = 0 →
       wpX10_middle_62 (fun y0 y1 y2 y3 y4 y5 y6 y7 y8 => wpX10_middle_8 post g2_ways g2_wallCount f3 f4 f5 f6 g7_size f9 n_8 y0 y1 y2 y3 y4 y5 y6 y7 y8) post g2_ways g2_wallCount f3 f4 f5 f6 g7_size f9 f8 g10_rows g10_columns f11 f12 x1 x2 x3 x4)) x1 x4)
def wpX10_middle (post : Int32 → ((Nat → Int32) × Int32 × Int32 × (Nat → Int32) × (Nat → Int32)) → Prop) (g2_ways : Int32) (g2_wallCount : Int32) (f3 : Nat → Int32) (f4 : Nat → Int32) (f5 : Nat → Int32) (f6 : Nat → Int32) (g7_size : Int32) (f9 : Nat → Int32) (f8 : Nat → Int32) (g10_rows : Int32) (g10_columns : Int32) (f11 : Nat → Int32) (f12 : Nat → Int32) (p0 : Int32) : Prop :=
  ∃ n_8 : Nat, wpX10_middle_8 post g2_ways g2_wallCount f3 f4 f5 f6 g7_size f9 n_8 f8 g10_rows g10_columns f11 f12 p0 (-1) 2147483647 0
set_option maxRecDepth 100000 in
set_option maxHeartbeats 4000000 in
theorem bX10_middle_62 {p : Program} {l : Launch} {e : Env} {s : State} {m : MethodId} {args : Array Value} {below : List Frame} {meth : Method} {c : Code} {dC : Nat → ClassId} {dI : Nat → Nat → Nat} {cyI cyB cyJ cyZ : ClassId} {A : Nat → Prop} {a0 a1 a2 a3 a4 a5 a6 a7 a8 a9 a10 a11 a12 b0_tape b0_kept b0_draftGround b0_draftLaw b0_pack b0_pieces b0_thinning b1_marks b1_stroll : Nat} {g0_imageKept : Int32} {g0_wrongByte : Int32} {g1_drawSeed : Int32} {g2_texts : Int32} {g7_lines : Int32} (C0 : cxM p s m meth c args wsX10_middle RX10 cX10_middle 6 (some .int)) (hK : va_K (dC, dI) vwCl (tyA cyI cyB cyJ cyZ) s) (hN : nwA s) (hA : ∀ q : Nat, s.heap.size ≤ q → A q) {post : Int32 → ((Nat → Int32) × Int32 × Int32 × (Nat → Int32) × (Nat → Int32)) → Prop} {g2_ways : Int32} {g2_wallCount : Int32} {f3 : Nat → Int32} {f4 : Nat → Int32} {f5 : Nat → Int32} {f6 : Nat → Int32} {g7_size : Int32} {f9 : Nat → Int32} {k8 : (Nat → Int32) → Int32 → Int32 → (Nat → Int32) → (Nat → Int32) → Int32 → Int32 → Int32 → Int32 → Prop} {Q : State → Prop} (hQ : Q = MQ below (va_Qi post (fun u : (Nat → Int32) × Int32 × Int32 × (Nat → Int32) × (Nat → Int32) => wAt dC dI cyI cyB cyJ cyZ A (ceX10_middle cyI cyB cyJ cyZ a0 a1 a2 a3 a4 a5 a6 a7 a8 a9 a10 a11 a12 b0_tape b0_kept b0_draftGround b0_draftLaw b0_pack b0_pieces b0_thinning b1_marks b1_stroll g0_imageKept g0_wrongByte g1_drawSeed g2_texts g7_lines g2_ways g2_wallCount f3 f4 f5 f6 g7_size f9 u.1 u.2.1 u.2.2.1 u.2.2.2.1 u.2.2.2.2)) A) args s 0 0 A) (hk8 : ∀ (f8 : Nat → Int32) (g10_rows : Int32) (g10_columns : Int32) (f11 : Nat → Int32) (f12 : Nat → Int32) (x1 : Int32) (x2 : Int32) (x3 : Int32) (x4 : Int32), k8 f8 g10_rows g10_columns f11 f12 x1 x2 x3 x4 → AtW p l e rmX10_middle s m args below meth c dC dI A Q 6 0 0 (ceX10_middle cyI cyB cyJ cyZ a0 a1 a2 a3 a4 a5 a6 a7 a8 a9 a10 a11 a12 b0_tape b0_kept b0_draftGround b0_draftLaw b0_pack b0_pieces b0_thinning b1_marks b1_stroll g0_imageKept g0_wrongByte g1_drawSeed g2_texts g7_lines g2_ways g2_wallCount f3 f4 f5 f6 g7_size f9 f8 g10_rows g10_columns f11 f12) [(0, .ref a0), (1, .int x1), (2, .int x2), (3, .int x3), (4, .int x4)] 8 []) : ∀ (f8 : Nat → Int32) (g10_rows : Int32) (g10_columns : Int32) (f11 : Nat → Int32) (f12 : Nat → Int32) (x1 : Int32) (x2 : Int32) (x3 : Int32) (x4 : Int32), wpX10_middle_62 k8 post g2_ways g2_wallCount f3 f4 f5 f6 g7_size f9 f8 g10_rows g10_columns f11 f12 x1 x2 x3 x4 → AtW p l e rmX10_middle s m args below meth c dC dI A Q 6 0 0 (ceX10_middle cyI cyB cyJ cyZ a0 a1 a2 a3 a4 a5 a6 a7 a8 a9 a10 a11 a12 b0_tape b0_kept b0_draftGround b0_draftLaw b0_pack b0_pieces b0_thinning b1_marks b1_stroll g0_imageKept g0_wrongByte g1_drawSeed g2_texts g7_lines g2_ways g2_wallCount f3 f4 f5 f6 g7_size f9 f8 g10_rows g10_columns f11 f12) [(0, .ref a0), (1, .int x1), (2, .int x2), (3, .int x3), (4, .int x4)] 62 [] := by
  intro f8 g10_rows g10_columns f11 f12 x1 x2 x3 x4 hw H locs hP hD hS ls hl
  have C1 := C0
  obtain ⟨hx, hb, hr, hml, hown, hts, hlocks⟩ := C1
  obtain ⟨v1, ev1⟩ : ∃ y : Int32, y = x4 + 1 := ⟨_, rfl⟩
  have hw := hw v1 ev1
  refine lv_iinc (v := v1) (lv' := [(4, .int v1), (0, .ref a0), (1, .int x1), (2, .int x2), (3, .int x3)]) hx hb dX10_middle_62 hl (k := 4) rfl (by rw [ev1]; rfl) (by decide) rfl (fun ls hl => ?_)
  refine lv_goto (tgt := 8) hx hb dX10_middle_65 (by decide) ?_
  exact hk8 f8 g10_rows g10_columns f11 f12 x1 x2 x3 v1 hw H locs hP hD hS ls (lv_sub hl [1, 2, 3, 4, 0] rfl)
set_option maxRecDepth 100000 in
set_option maxHeartbeats 4000000 in
theorem bX10_middle_8 {p : Program} {l : Launch} {e : Env} {s : State} {m : MethodId} {args : Array Value} {below : List Frame} {meth : Method} {c : Code} {dC : Nat → ClassId} {dI : Nat → Nat → Nat} {cyI cyB cyJ cyZ : ClassId} {A : Nat → Prop} {a0 a1 a2 a3 a4 a5 a6 a7 a8 a9 a10 a11 a12 b0_tape b0_kept b0_draftGround b0_draftLaw b0_pack b0_pieces b0_thinning b1_marks b1_stroll : Nat} {g0_imageKept : Int32} {g0_wrongByte : Int32} {g1_drawSeed : Int32} {g2_texts : Int32} {g7_lines : Int32} (C0 : cxM p s m meth c args wsX10_middle RX10 cX10_middle 6 (some .int)) (hK : va_K (dC, dI) vwCl (tyA cyI cyB cyJ cyZ) s) (hN : nwA s) (hA : ∀ q : Nat, s.heap.size ≤ q → A q) {post : Int32 → ((Nat → Int32) × Int32 × Int32 × (Nat → Int32) × (Nat → Int32)) → Prop} {g2_ways : Int32} {g2_wallCount : Int32} {f3 : Nat → Int32} {f4 : Nat → Int32} {f5 : Nat → Int32} {f6 : Nat → Int32} {g7_size : Int32} {f9 : Nat → Int32} {Q : State → Prop} (hQ : Q = MQ below (va_Qi post (fun u : (Nat → Int32) × Int32 × Int32 × (Nat → Int32) × (Nat → Int32) => wAt dC dI cyI cyB cyJ cyZ A (ceX10_middle cyI cyB cyJ cyZ a0 a1 a2 a3 a4 a5 a6 a7 a8 a9 a10 a11 a12 b0_tape b0_kept b0_draftGround b0_draftLaw b0_pack b0_pieces b0_thinning b1_marks b1_stroll g0_imageKept g0_wrongByte g1_drawSeed g2_texts g7_lines g2_ways g2_wallCount f3 f4 f5 f6 g7_size f9 u.1 u.2.1 u.2.2.1 u.2.2.2.1 u.2.2.2.2)) A) args s 0 0 A) : ∀ (n : Nat) (f8 : Nat → Int32) (g10_rows : Int32) (g10_columns : Int32) (f11 : Nat → Int32) (f12 : Nat → Int32) (x1 : Int32) (x2 : Int32) (x3 : Int32) (x4 : Int32), wpX10_middle_8 post g2_ways g2_wallCount f3 f4 f5 f6 g7_size f9 n f8 g10_rows g10_columns f11 f12 x1 x2 x3 x4 → AtW p l e rmX10_middle s m args below meth c dC dI A Q 6 0 0 (ceX10_middle cyI cyB cyJ cyZ a0 a1 a2 a3 a4 a5 a6 a7 a8 a9 a10 a11 a12 b0_tape b0_kept b0_draftGround b0_draftLaw b0_pack b0_pieces b0_thinning b1_marks b1_stroll g0_imageKept g0_wrongByte g1_drawSeed g2_texts g7_lines g2_ways g2_wallCount f3 f4 f5 f6 g7_size f9 f8 g10_rows g10_columns f11 f12) [(0, .ref a0), (1, .int x1), (2, .int x2), (3, .int x3), (4, .int x4)] 8 [] := by
  intro n
  induction n with
  | zero => intro f8 g10_rows g10_columns f11 f12 x1 x2 x3 x4 hw; exact False.elim hw
  | succ n ih =>
    intro f8 g10_rows g10_columns f11 f12 x1 x2 x3 x4 hw H locs hP hD hS ls hl
    have C1 := C0
    obtain ⟨hx, hb, hr, hml, hown, hts, hlocks⟩ := C1
    refine lv_iload hx hb dX10_middle_8 (lv_at hl 4 rfl) ?_
    refine lv_aload_n hx hb dX10_middle_10 rfl (lv_at hl 0 rfl) ?_
    refine va_get (D := (dC, dI)) (ci := 10) (v := .ref a1) (C := RX10) (T := TX10) (N := 11) hx hb hts inX10_middle_X10 hown hK hP 0 rfl rfl 1 (by decide) (hts (.fieldLink RX10 19 "LeadPark" "scene" "LLeadPark$Scene;") (List.mem_of_getElem? (i := 2) rfl)) (fun _ h9 => h9) rfl dX10_middle_11 ?_
    refine va_getN (D := (dC, dI)) (ci := 6) (v := .ref a2) (C := RX6) (T := TX6) (N := 5) hx hb hts inX10_middle_X6 hown hK hP 1 rfl rfl 0 (by decide) (va_Nw.use rfl (hN _ (List.mem_of_getElem? (i := 29) rfl))) (fun _ h9 => h9) rfl dX10_middle_14 ?_
    refine va_getN (D := (dC, dI)) (ci := 1) (v := .int g2_ways) (C := RX1) (T := TX1) (N := 7) hx hb hts inX10_middle_X1 hown hK hP 2 rfl rfl 4 (by decide) (va_Nw.use rfl (hN _ (List.mem_of_getElem? (i := 9) rfl))) (fun _ h9 => h9) rfl dX10_middle_17 ?_
    refine lv_icmp_ge (tgt := 68) hx hb dX10_middle_20 (by decide) (fun hc => ?_) (fun hc => ?_)
    · have hw := hw.1 hc
      refine lv_iload_n hx hb dX10_middle_68 rfl (lv_at hl 2 rfl) ?_
      rw [hQ]
      exact W.iret (v := x2) hx hb hr (fun t ht hW => ⟨⟨x2, (f8, g10_rows, g10_columns, f11, f12), rfl, hw, by rw [ht]; exact hP, va_K.moved hW.alike hK, hD⟩, hS.F ht⟩) hS.2.2 dX10_middle_69
    · have hw := hw.2 hc
      refine lv_iload_n hx hb dX10_middle_23 rfl (lv_at hl 1 rfl) ?_
      refine lv_iload hx hb dX10_middle_24 (lv_at hl 4 rfl) ?_
      have hPc := hP.sub (ws' := ([] : va_W)) [] rfl
      have hDc := hD.sub (ws' := ([] : va_W)) [] (by decide) rfl
      have hFc := va_free (wc := ([] : va_W)) hD hS hA [] rfl
      refine va_calli (va_runS (As := [.int x1, .int x4]) (rest := []) ⟨hx, hb, hml, hown, hts⟩ (ctX10_isIn l dC dI cyI cyB cyJ cyZ _ x1 x4 _ hw) (va_cwS 2 hts gX10_middle_X10_isIn rfl rfl rfl (by decide +kernel) ⟨Nat.le_of_ble_eq_true rfl, Nat.le_of_ble_eq_true rfl⟩) ⟨wPre_blind, fun U hU hW => wPre_of hPc hK hDc hN hU hW⟩ rfl rfl hl.1 rfl (lv_room (Nat.le_of_ble_eq_true rfl)) dX10_middle_26 ⟨(Nat.zero_le _), (Nat.zero_le _)⟩) hS (fun q _ h => hFc q h) hFc (fun r2 u1 t H1 locs ht hvm hw hB hz1 hk1 hS => ?_)
      obtain ⟨hP1, hK1, hD1⟩ := hB
      rw [ht] at hP1
      obtain ⟨hP, hD⟩ := va_join (wr := pickW (ceX10_middle cyI cyB cyJ cyZ a0 a1 a2 a3 a4 a5 a6 a7 a8 a9 a10 a11 a12 b0_tape b0_kept b0_draftGround b0_draftLaw b0_pack b0_pieces b0_thinning b1_marks b1_stroll g0_imageKept g0_wrongByte g1_drawSeed g2_texts g7_lines g2_ways g2_wallCount f3 f4 f5 f6 g7_size f9 f8 g10_rows g10_columns f11 f12) [0, 1, 2, 3, 4, 5, 6, 7, 8, 9, 10, 11, 12]) (w1 := ([] : va_W)) hP hD [] [0, 1, 2, 3, 4, 5, 6, 7, 8, 9, 10, 11, 12] rfl rfl (by decide) (by decide) hk1 hFc hP1 hD1
      have hP := hP.sub (ws' := (ceX10_middle cyI cyB cyJ cyZ a0 a1 a2 a3 a4 a5 a6 a7 a8 a9 a10 a11 a12 b0_tape b0_kept b0_draftGround b0_draftLaw b0_pack b0_pieces b0_thinning b1_marks b1_stroll g0_imageKept g0_wrongByte g1_drawSeed g2_texts g7_lines g2_ways g2_wallCount f3 f4 f5 f6 g7_size f9 f8 g10_rows g10_columns f11 f12)) [0, 1, 2, 3, 4, 5, 6, 7, 8, 9, 10, 11, 12] rfl
      have hD := hD.sub (ws' := (ceX10_middle cyI cyB cyJ cyZ a0 a1 a2 a3 a4 a5 a6 a7 a8 a9 a10 a11 a12 b0_tape b0_kept b0_draftGround b0_draftLaw b0_pack b0_pieces b0_thinning b1_marks b1_stroll g0_imageKept g0_wrongByte g1_drawSeed g2_texts g7_lines g2_ways g2_wallCount f3 f4 f5 f6 g7_size f9 f8 g10_rows g10_columns f11 f12)) [0, 1, 2, 3, 4, 5, 6, 7, 8, 9, 10, 11, 12] (by decide) rfl
      generalize H1 = H at hP hS ⊢
      refine lv_if_ne (tgt := 35) hx hb dX10_middle_29 (by decide) (fun hc => ?_) (fun hc => ?_)
      · have hw := hw.1 hc
        refine lv_aload_n hx hb dX10_middle_35 rfl (lv_at hl 0 rfl) ?_
        refine lv_iload hx hb dX10_middle_36 (lv_at hl 4 rfl) ?_
        refine lv_iload_n hx hb dX10_middle_38 rfl (lv_at hl 1 rfl) ?_
        have hPc := hP.sub (ws' := (ceX10_greatestToOthers cyI cyB cyJ cyZ a0 a1 a2 a3 a4 a5 a6 a7 a8 a9 a10 a11 a12 b0_tape b0_kept b0_draftGround b0_draftLaw b0_pack b0_pieces b0_thinning b1_marks b1_stroll g0_imageKept g0_wrongByte g1_drawSeed g2_texts g7_lines g2_ways g2_wallCount f3 f4 f5 f6 g7_size f9 f8 g10_rows g10_columns f11 f12)) [0, 1, 2, 3, 4, 5, 6, 7, 8, 9, 10, 11, 12] rfl
        have hDc := hD.sub (ws' := (ceX10_greatestToOthers cyI cyB cyJ cyZ a0 a1 a2 a3 a4 a5 a6 a7 a8 a9 a10 a11 a12 b0_tape b0_kept b0_draftGround b0_draftLaw b0_pack b0_pieces b0_thinning b1_marks b1_stroll g0_imageKept g0_wrongByte g1_drawSeed g2_texts g7_lines g2_ways g2_wallCount f3 f4 f5 f6 g7_size f9 f8 g10_rows g10_columns f11 f12)) [0, 1, 2, 3, 4, 5, 6, 7, 8, 9, 10, 11, 12] (by decide) rfl
        have hFc := va_free (wc := (ceX10_greatestToOthers cyI cyB cyJ cyZ a0 a1 a2 a3 a4 a5 a6 a7 a8 a9 a10 a11 a12 b0_tape b0_kept b0_draftGround b0_draftLaw b0_pack b0_pieces b0_thinning b1_marks b1_stroll g0_imageKept g0_wrongByte g1_drawSeed g2_texts g7_lines g2_ways g2_wallCount f3 f4 f5 f6 g7_size f9 f8 g10_rows g10_columns f11 f12)) hD hS hA [0, 1, 2, 3, 4, 5, 6, 7, 8, 9, 10, 11, 12] rfl
        refine va_calli (va_runV (As := [.int x4, .int x1]) (rest := []) ⟨hx, hb, hml, hown, hts⟩ (ctX10_greatestToOthers l dC dI cyI cyB cyJ cyZ _ a0 a1 a2 a3 a4 a5 a6 a7 a8 a9 a10 a11 a12 b0_tape b0_kept b0_draftGround b0_draftLaw b0_pack b0_pieces b0_thinning b1_marks b1_stroll g0_imageKept g0_wrongByte g1_drawSeed g2_texts g7_lines g2_ways g2_wallCount f3 f4 f5 f6 g7_size f9 f8 g10_rows g10_columns f11 f12 x4 x1 _ hw) (cwV 2 hts gX10_middle_X10_greatestToOthers rfl rfl rfl (by decide +kernel) ⟨Nat.le_of_ble_eq_true rfl, Nat.le_of_ble_eq_true rfl⟩) ⟨wPre_blind, va_recv hK hPc (ci := 10) (q0 := 0) rfl rfl, fun U hU hW => wPre_of hPc hK hDc hN hU hW⟩ rfl rfl hl.1 rfl (lv_room (Nat.le_of_ble_eq_true rfl)) dX10_middle_39 ⟨(Nat.zero_le _), (Nat.zero_le _)⟩) hS (fun q _ h => hFc q h) hFc (fun r4 u3 t H1 locs ht hvm hw hB hz1 hk1 hS => ?_)
        obtain ⟨hP1, hK1, hD1⟩ := hB
        rw [ht] at hP1
        obtain ⟨hP, hD⟩ := va_join (wr := pickW (ceX10_middle cyI cyB cyJ cyZ a0 a1 a2 a3 a4 a5 a6 a7 a8 a9 a10 a11 a12 b0_tape b0_kept b0_draftGround b0_draftLaw b0_pack b0_pieces b0_thinning b1_marks b1_stroll g0_imageKept g0_wrongByte g1_drawSeed g2_texts g7_lines g2_ways g2_wallCount f3 f4 f5 f6 g7_size f9 f8 g10_rows g10_columns f11 f12) []) (w1 := (ceX10_greatestToOthers cyI cyB cyJ cyZ a0 a1 a2 a3 a4 a5 a6 a7 a8 a9 a10 a11 a12 b0_tape b0_kept b0_draftGround b0_draftLaw b0_pack b0_pieces b0_thinning b1_marks b1_stroll g0_imageKept g0_wrongByte g1_drawSeed g2_texts g7_lines g2_ways g2_wallCount f3 f4 f5 f6 g7_size f9 u3.1 u3.2.1 u3.2.2.1 u3.2.2.2.1 u3.2.2.2.2)) hP hD [0, 1, 2, 3, 4, 5, 6, 7, 8, 9, 10, 11, 12] [] rfl rfl (by decide) (by decide) hk1 hFc hP1 hD1
        have hP := hP.sub (ws' := (ceX10_middle cyI cyB cyJ cyZ a0 a1 a2 a3 a4 a5 a6 a7 a8 a9 a10 a11 a12 b0_tape b0_kept b0_draftGround b0_draftLaw b0_pack b0_pieces b0_thinning b1_marks b1_stroll g0_imageKept g0_wrongByte g1_drawSeed g2_texts g7_lines g2_ways g2_wallCount f3 f4 f5 f6 g7_size f9 u3.1 u3.2.1 u3.2.2.1 u3.2.2.2.1 u3.2.2.2.2)) [0, 1, 2, 3, 4, 5, 6, 7, 8, 9, 10, 11, 12] rfl
        have hD := hD.sub (ws' := (ceX10_middle cyI cyB cyJ cyZ a0 a1 a2 a3 a4 a5 a6 a7 a8 a9 a10 a11 a12 b0_tape b0_kept b0_draftGround b0_draftLaw b0_pack b0_pieces b0_thinning b1_marks b1_stroll g0_imageKept g0_wrongByte g1_drawSeed g2_texts g7_lines g2_ways g2_wallCount f3 f4 f5 f6 g7_size f9 u3.1 u3.2.1 u3.2.2.1 u3.2.2.2.1 u3.2.2.2.2)) [0, 1, 2, 3, 4, 5, 6, 7, 8, 9, 10, 11, 12] (by decide) rfl
        generalize H1 = H at hP hS ⊢
        refine lv_istore (lv' := [(5, .int r4), (0, .ref a0), (1, .int x1), (2, .int x2), (3, .int x3), (4, .int x4)]) hx hb dX10_middle_42 hl (by decide) rfl (fun ls hl => ?_)
        refine lv_iload hx hb dX10_middle_44 (lv_at hl 0 rfl) ?_
        refine lv_iconst (v := (-1)) hx hb dX10_middle_46 (by decide) ?_
        refine lv_icmp_eq (tgt := 62) hx hb dX10_middle_47 (by decide) (fun hc => ?_) (fun hc => ?_)
        · have hw := hw.1 hc
          exact bX10_middle_62 C0 hK hN hA hQ ih u3.1 u3.2.1 u3.2.2.1 u3.2.2.2.1 u3.2.2.2.2 x1 x2 x3 x4 hw _ _ hP hD hS ls (lv_sub hl [1, 2, 3, 4, 5] rfl)
        · have hw := hw.2 hc
          refine lv_iload hx hb dX10_middle_50 (lv_at hl 0 rfl) ?_
          refine lv_iload_n hx hb dX10_middle_52 rfl (lv_at hl 4 rfl) ?_
          refine lv_icmp_ge (tgt := 62) hx hb dX10_middle_53 (by decide) (fun hc => ?_) (fun hc => ?_)
          · have hw := hw.1 hc
            exact bX10_middle_62 C0 hK hN hA hQ ih u3.1 u3.2.1 u3.2.2.1 u3.2.2.2.1 u3.2.2.2.2 x1 x2 x3 x4 hw _ _ hP hD hS ls (lv_sub hl [1, 2, 3, 4, 5] rfl)
          · have hw := hw.2 hc
            refine lv_iload hx hb dX10_middle_56 (lv_at hl 0 rfl) ?_
            refine lv_istore_n (lv' := [(3, .int r4), (5, .int r4), (0, .ref a0), (1, .int x1), (2, .int x2), (4, .int x4)]) hx hb dX10_middle_58 rfl hl (by decide) rfl (fun ls hl => ?_)
            refine lv_iload hx hb dX10_middle_59 (lv_at hl 5 rfl) ?_
            refine lv_istore_n (lv' := [(2, .int x4), (3, .int r4), (5, .int r4), (0, .ref a0), (1, .int x1), (4, .int x4)]) hx hb dX10_middle_61 rfl hl (by decide) rfl (fun ls hl => ?_)
            exact bX10_middle_62 C0 hK hN hA hQ ih u3.1 u3.2.1 u3.2.2.1 u3.2.2.2.1 u3.2.2.2.2 x1 x4 r4 x4 hw _ _ hP hD hS ls (lv_sub hl [3, 4, 0, 1, 5] rfl)
      · have hw := hw.2 hc
        refine lv_goto (tgt := 62) hx hb dX10_middle_32 (by decide) ?_
        exact bX10_middle_62 C0 hK hN hA hQ ih f8 g10_rows g10_columns f11 f12 x1 x2 x3 x4 hw _ _ hP hD hS ls (lv_sub hl [0, 1, 2, 3, 4] rfl)
set_option maxRecDepth 100000 in
set_option maxHeartbeats 4000000 in
theorem ctX10_middle (l : Launch) (dC : Nat → ClassId) (dI : Nat → Nat → Nat) (cyI cyB cyJ cyZ : ClassId) (sz : Nat) (a0 a1 a2 a3 a4 a5 a6 a7 a8 a9 a10 a11 a12 b0_tape b0_kept b0_draftGround b0_draftLaw b0_pack b0_pieces b0_thinning b1_marks b1_stroll : Nat) (g0_imageKept : Int32) (g0_wrongByte : Int32) (g1_drawSeed : Int32) (g2_texts : Int32) (g7_lines : Int32) (g2_ways : Int32) (g2_wallCount : Int32) (f3 : Nat → Int32) (f4 : Nat → Int32) (f5 : Nat → Int32) (f6 : Nat → Int32) (g7_size : Int32) (f9 : Nat → Int32) (f8 : Nat → Int32) (g10_rows : Int32) (g10_columns : Int32) (f11 : Nat → Int32) (f12 : Nat → Int32) (p0 : Int32) (post : Int32 → ((Nat → Int32) × Int32 × Int32 × (Nat → Int32) × (Nat → Int32)) → Prop) (hw : wpX10_middle post g2_ways g2_wallCount f3 f4 f5 f6 g7_size f9 f8 g10_rows g10_columns f11 f12 p0) : Met l yX10_middle wsX10_middle rmX10_middle (va_Pc [.ref a0, .int p0] (wPre dC dI cyI cyB cyJ cyZ sz (ceX10_middle cyI cyB cyJ cyZ a0 a1 a2 a3 a4 a5 a6 a7 a8 a9 a10 a11 a12 b0_tape b0_kept b0_draftGround b0_draftLaw b0_pack b0_pieces b0_thinning b1_marks b1_stroll g0_imageKept g0_wrongByte g1_drawSeed g2_texts g7_lines g2_ways g2_wallCount f3 f4 f5 f6 g7_size f9 f8 g10_rows g10_columns f11 f12))) (va_Qi post (fun u : (Nat → Int32) × Int32 × Int32 × (Nat → Int32) × (Nat → Int32) => wAt dC dI cyI cyB cyJ cyZ (va_A (ceX10_middle cyI cyB cyJ cyZ a0 a1 a2 a3 a4 a5 a6 a7 a8 a9 a10 a11 a12 b0_tape b0_kept b0_draftGround b0_draftLaw b0_pack b0_pieces b0_thinning b1_marks b1_stroll g0_imageKept g0_wrongByte g1_drawSeed g2_texts g7_lines g2_ways g2_wallCount f3 f4 f5 f6 g7_size f9 f8 g10_rows g10_columns f11 f12) sz) (ceX10_middle cyI cyB cyJ cyZ a0 a1 a2 a3 a4 a5 a6 a7 a8 a9 a10 a11 a12 b0_tape b0_kept b0_draftGround b0_draftLaw b0_pack b0_pieces b0_thinning b1_marks b1_stroll g0_imageKept g0_wrongByte g1_drawSeed g2_texts g7_lines g2_ways g2_wallCount f3 f4 f5 f6 g7_size f9 u.1 u.2.1 u.2.2.1 u.2.2.2.1 u.2.2.2.2)) (va_A (ceX10_middle cyI cyB cyJ cyZ a0 a1 a2 a3 a4 a5 a6 a7 a8 a9 a10 a11 a12 b0_tape b0_kept b0_draftGround b0_draftLaw b0_pack b0_pieces b0_thinning b1_marks b1_stroll g0_imageKept g0_wrongByte g1_drawSeed g2_texts g7_lines g2_ways g2_wallCount f3 f4 f5 f6 g7_size f9 f8 g10_rows g10_columns f11 f12) sz)) 0 0 (va_A (ceX10_middle cyI cyB cyJ cyZ a0 a1 a2 a3 a4 a5 a6 a7 a8 a9 a10 a11 a12 b0_tape b0_kept b0_draftGround b0_draftLaw b0_pack b0_pieces b0_thinning b1_marks b1_stroll g0_imageKept g0_wrongByte g1_drawSeed g2_texts g7_lines g2_ways g2_wallCount f3 f4 f5 f6 g7_size f9 f8 g10_rows g10_columns f11 f12) sz) := by
  refine Met.ofW (cc := cX10_middle) (maxL := 6) (ret := (some .int)) (by decide) rfl ?_
  intro p e s m args below meth c s₁ B hml hv
  obtain ⟨rfl, hsz, hP, hK, hD0, hN⟩ := hv
  have hx := B.exec
  have hb := B.bytes
  have hr := B.returns
  have hts := atoms_spec (ws := wsX10_middle) B.pre
  have hown : s.vm.findClass RX10 = some m.cls := findClass_of_methodNamed B.named
  have hlocks := B.notSynchronized
  subst hsz
  have hD := hD0.self (sz := s.heap.size)
  generalize hAe : va_A (ceX10_middle cyI cyB cyJ cyZ a0 a1 a2 a3 a4 a5 a6 a7 a8 a9 a10 a11 a12 b0_tape b0_kept b0_draftGround b0_draftLaw b0_pack b0_pieces b0_thinning b1_marks b1_stroll g0_imageKept g0_wrongByte g1_drawSeed g2_texts g7_lines g2_ways g2_wallCount f3 f4 f5 f6 g7_size f9 f8 g10_rows g10_columns f11 f12) s.heap.size = A at hD ⊢
  have hA : ∀ q : Nat, s.heap.size ≤ q → A q := fun q h => by rw [← hAe]; exact Or.inr h
  have hS : va_S A s.heap s.heap [] := va_S.rf
  have C0 : cxM p s m meth c _ wsX10_middle RX10 cX10_middle 6 (some .int) := ⟨hx, hb, hr, hml, hown, hts, hlocks⟩
  have hl := lv_entry ([.ref a0, .int p0]) (n := 6) (Nat.le_of_ble_eq_true rfl)
  rw [lg_entry_eq]
  generalize (lg_sl ([.ref a0, .int p0]) ++ List.replicate (6 - (lg_sl ([.ref a0, .int p0])).length) Slot.unset).toArray = ls at hl ⊢
  have hl : lv_has ls 6 [(0, .ref a0), (1, .int p0)] := hl
  show W p l e rmX10_middle s m _ below meth c _ _ _ _ _ _
  refine wq (fun Q hQ => ?_)
  refine lv_iconst (v := (-1)) hx hb dX10_middle_0 (by decide) ?_
  refine lv_istore_n (lv' := [(2, .int (-1)), (0, .ref a0), (1, .int p0)]) hx hb dX10_middle_1 rfl hl (by decide) rfl (fun ls hl => ?_)
  refine lv_ldc (v := 2147483647) hx hb hown (hts (.constant RX10 224 (2147483647)) (List.mem_of_getElem? (i := 1) rfl)) dX10_middle_2 ?_
  refine lv_istore_n (lv' := [(3, .int 2147483647), (2, .int (-1)), (0, .ref a0), (1, .int p0)]) hx hb dX10_middle_4 rfl hl (by decide) rfl (fun ls hl => ?_)
  refine lv_iconst (v := 0) hx hb dX10_middle_5 (by decide) ?_
  refine lv_istore (lv' := [(4, .int 0), (3, .int 2147483647), (2, .int (-1)), (0, .ref a0), (1, .int p0)]) hx hb dX10_middle_6 hl (by decide) rfl (fun ls hl => ?_)
  obtain ⟨nn, hw⟩ := hw
  exact bX10_middle_8 C0 hK hN hA hQ nn f8 g10_rows g10_columns f11 f12 p0 (-1) 2147483647 0 hw _ _ hP hD hS ls (lv_sub hl [3, 4, 2, 1, 0] rfl)
/-! LeadPark.fewer (II)I -/
abbrev ceX10_fewer (cyI cyB cyJ cyZ : ClassId) (a0 a1 a2 a3 a4 a5 a6 a7 a8 b0_tape b0_kept b0_draftGround b0_draftLaw b0_grid b0_pack b0_pieces b1_law b1_marks b1_stroll b2_walls : Nat) (g0_imageKept : Int32) (g0_wrongByte : Int32) (g1_drawSeed : Int32) (g2_wallCount : Int32) (g2_texts : Int32) (g2_ways : Int32) (f3 : Nat → Int32) (f4 : Nat → Int32) (f5 : Nat → Int32) (f7 : Nat → Int32) (f8 : Nat → Int32) : va_W := [(a0, .inr (10, [.ref b0_tape, .ref a1, .ref b0_kept, .ref b0_draftGround, .ref b0_draftLaw, .ref b0_grid, .ref b0_pack, .ref b0_pieces, .ref a6, .int g0_imageKept, .int g0_wrongByte])), (a1, .inr (6, [.ref a2, .ref b1_law, .ref b1_marks, .ref b1_stroll, .int g1_drawSeed])), (a2, .inr (1, [.ref a4, .ref a5, .ref a3, .ref b2_walls, .int g2_ways, .int g2_wallCount, .int g2_texts])), (a3, .inl (cyI, 12, .inl f3)), (a4, .inl (cyI, 360, .inl f4)), (a5, .inl (cyI, 360, .inl f5)), (a6, .inr (9, [.ref a7, .ref a8])), (a7, .inl (cyI, 961, .inl f7)), (a8, .inl (cyI, 31, .inl f8))]

theorem inX10_fewer_X10 : ∀ w ∈ wsX100, w ∈ wsX10_fewer := fun _ h => List.mem_cons_of_mem _ (List.mem_append_left _ (List.mem_append_left _ (List.mem_append_left _ (List.mem_append_left _ (List.mem_append_left _ (List.mem_append_right _ h))))))
theorem inX10_fewer_X6 : ∀ w ∈ wsX60, w ∈ wsX10_fewer := fun _ h => List.mem_cons_of_mem _ (List.mem_append_left _ (List.mem_append_left _ (List.mem_append_left _ (List.mem_append_left _ (List.mem_append_right _ h)))))
theorem hatX10_fewer_106 {args : Array Value} {s : State} (hts : ∀ w ∈ wsX10_fewer, w.before args s = true) (hB : ∀ w ∈ txBad, w.before #[] s = true) : ∀ w ∈ vx_atS RX10 106 "java/lang/IllegalArgumentException" ["java/lang/RuntimeException", "java/lang/Exception"], w.before args s = true := vx_hat (B := txBad) (fun w h => hts w (List.mem_cons_of_mem _ (List.mem_append_left _ (List.mem_append_right _ h)))) hbd_106 (fun w h => va_Nw.use (List.all_eq_true.mp txBad_tab w h) (hB w h))
abbrev rmX10_fewer : Room := { frames := 7, cells := 2, slots := 12, locals := 121 }
def wpX10_fewer (post : Int32 → ((Nat → Int32) × (Nat → Int32)) → Prop) (postX : String → ((Nat → Int32) × (Nat → Int32)) → Prop) (g2_ways : Int32) (f3 : Nat → Int32) (f4 : Nat → Int32) (f5 : Nat → Int32) (f7 : Nat → Int32) (f8 : Nat → Int32) (p0 : Int32) (p1 : Int32) : Prop :=
  wpX10_needWay (fun (u1 : Unit) =>
   (0 ≤ p1 →
    wpX9_fewestCorners (fun (r3 : Int32) (u2 : (Nat → Int32) × (Nat → Int32)) =>
     post r3 (u2.1, u2.2)) f3 f4 f5 f7 f8 p0 p1) ∧
   (¬ 0 ≤ p1 →
    postX "java/lang/IllegalArgumentException" (f7, f8))) (fun (E : String) (u1 : Unit) => postX E (f7, f8)) g2_ways p0
set_option maxRecDepth 100000 in
set_option maxHeartbeats 4000000 in
theorem ctX10_fewer (l : Launch) (hl0 : l.stackTraces = false) (dC : Nat → ClassId) (dI : Nat → Nat → Nat) (cyI cyB cyJ cyZ : ClassId) (sz : Nat) (a0 a1 a2 a3 a4 a5 a6 a7 a8 b0_tape b0_kept b0_draftGround b0_draftLaw b0_grid b0_pack b0_pieces b1_law b1_marks b1_stroll b2_walls : Nat) (g0_imageKept : Int32) (g0_wrongByte : Int32) (g1_drawSeed : Int32) (g2_wallCount : Int32) (g2_texts : Int32) (g2_ways : Int32) (f3 : Nat → Int32) (f4 : Nat → Int32) (f5 : Nat → Int32) (f7 : Nat → Int32) (f8 : Nat → Int32) (p0 : Int32) (p1 : Int32) (post : Int32 → ((Nat → Int32) × (Nat → Int32)) → Prop) (postX : String → ((Nat → Int32) × (Nat → Int32)) → Prop) (adS : Nat → Nat) (hw : wpX10_fewer post postX g2_ways f3 f4 f5 f7 f8 p0 p1) : vx_Met l yX10_fewer wsX10_fewer rmX10_fewer (va_Pc [.ref a0, .int p0, .int p1] (wPreX dC dI cyI cyB cyJ cyZ sz (ceX10_fewer cyI cyB cyJ cyZ a0 a1 a2 a3 a4 a5 a6 a7 a8 b0_tape b0_kept b0_draftGround b0_draftLaw b0_grid b0_pack b0_pieces b1_law b1_marks b1_stroll b2_walls g0_imageKept g0_wrongByte g1_drawSeed g2_wallCount g2_texts g2_ways f3 f4 f5 f7 f8) (txT adS))) (va_Qi post (fun u : (Nat → Int32) × (Nat → Int32) => wAt dC dI cyI cyB cyJ cyZ (va_A (ceX10_fewer cyI cyB cyJ cyZ a0 a1 a2 a3 a4 a5 a6 a7 a8 b0_tape b0_kept b0_draftGround b0_draftLaw b0_grid b0_pack b0_pieces b1_law b1_marks b1_stroll b2_walls g0_imageKept g0_wrongByte g1_drawSeed g2_wallCount g2_texts g2_ways f3 f4 f5 f7 f8) sz) (ceX10_fewer cyI cyB cyJ cyZ a0 a1 a2 a3 a4 a5 a6 a7 a8 b0_tape b0_kept b0_draftGround b0_draftLaw b0_grid b0_pack b0_pieces b1_law b1_marks b1_stroll b2_walls g0_imageKept g0_wrongByte g1_drawSeed g2_wallCount g2_texts g2_ways f3 f4 f5 u.1 u.2)) (va_A (ceX10_fewer cyI cyB cyJ cyZ a0 a1 a2 a3 a4 a5 a6 a7 a8 b0_tape b0_kept b0_draftGround b0_draftLaw b0_grid b0_pack b0_pieces b1_law b1_marks b1_stroll b2_walls g0_imageKept g0_wrongByte g1_drawSeed g2_wallCount g2_texts g2_ways f3 f4 f5 f7 f8) sz)) (vx_X (fun _ : (Nat → Int32) × (Nat → Int32) => True) (fun E (u : (Nat → Int32) × (Nat → Int32)) t => postX E u ∧ wAt dC dI cyI cyB cyJ cyZ (va_A (ceX10_fewer cyI cyB cyJ cyZ a0 a1 a2 a3 a4 a5 a6 a7 a8 b0_tape b0_kept b0_draftGround b0_draftLaw b0_grid b0_pack b0_pieces b1_law b1_marks b1_stroll b2_walls g0_imageKept g0_wrongByte g1_drawSeed g2_wallCount g2_texts g2_ways f3 f4 f5 f7 f8) sz) (ceX10_fewer cyI cyB cyJ cyZ a0 a1 a2 a3 a4 a5 a6 a7 a8 b0_tape b0_kept b0_draftGround b0_draftLaw b0_grid b0_pack b0_pieces b1_law b1_marks b1_stroll b2_walls g0_imageKept g0_wrongByte g1_drawSeed g2_wallCount g2_texts g2_ways f3 f4 f5 u.1 u.2) t) (va_A (ceX10_fewer cyI cyB cyJ cyZ a0 a1 a2 a3 a4 a5 a6 a7 a8 b0_tape b0_kept b0_draftGround b0_draftLaw b0_grid b0_pack b0_pieces b1_law b1_marks b1_stroll b2_walls g0_imageKept g0_wrongByte g1_drawSeed g2_wallCount g2_texts g2_ways f3 f4 f5 f7 f8) sz)) 2 12 (va_A (ceX10_fewer cyI cyB cyJ cyZ a0 a1 a2 a3 a4 a5 a6 a7 a8 b0_tape b0_kept b0_draftGround b0_draftLaw b0_grid b0_pack b0_pieces b1_law b1_marks b1_stroll b2_walls g0_imageKept g0_wrongByte g1_drawSeed g2_wallCount g2_texts g2_ways f3 f4 f5 f7 f8) sz) := by
  refine vx_ofW (cc := cX10_fewer) (maxL := 3) (ret := (some .int)) (by decide) rfl ?_
  intro p e s m args below meth c s₁ B hml hT hv
  obtain ⟨rfl, ⟨hsz, hP, hK, hD0, hN⟩, hXs⟩ := hv
  have hx := B.exec
  have hb := B.bytes
  have hr := B.returns
  have hts := atoms_spec (ws := wsX10_fewer) B.pre
  have hown : s.vm.findClass RX10 = some m.cls := findClass_of_methodNamed B.named
  have hlocks := B.notSynchronized
  subst hsz
  have hD := hD0.self (sz := s.heap.size)
  generalize hAe : va_A (ceX10_fewer cyI cyB cyJ cyZ a0 a1 a2 a3 a4 a5 a6 a7 a8 b0_tape b0_kept b0_draftGround b0_draftLaw b0_grid b0_pack b0_pieces b1_law b1_marks b1_stroll b2_walls g0_imageKept g0_wrongByte g1_drawSeed g2_wallCount g2_texts g2_ways f3 f4 f5 f7 f8) s.heap.size = A at hD hXs ⊢
  have hA : ∀ q : Nat, s.heap.size ≤ q → A q := fun q h => by rw [← hAe]; exact Or.inr h
  have hS : va_S A s.heap s.heap [] := va_S.rf
  have C0 : cxM p s m meth c _ wsX10_fewer RX10 cX10_fewer 3 (some .int) := ⟨hx, hb, hr, hml, hown, hts, hlocks⟩
  have hl := lv_entry ([.ref a0, .int p0, .int p1]) (n := 3) (Nat.le_of_ble_eq_true rfl)
  rw [lg_entry_eq]
  generalize (lg_sl ([.ref a0, .int p0, .int p1]) ++ List.replicate (3 - (lg_sl ([.ref a0, .int p0, .int p1])).length) Slot.unset).toArray = ls at hl ⊢
  have hl : lv_has ls 3 [(0, .ref a0), (1, .int p0), (2, .int p1)] := hl
  show W p l e rmX10_fewer s m _ below meth c _ _ _ _ _ _
  refine wq (fun Q hQ => ?_)
  refine lv_aload_n hx hb dX10_fewer_0 rfl (lv_at hl 0 rfl) ?_
  refine lv_iload_n hx hb dX10_fewer_1 rfl (lv_at hl 1 rfl) ?_
  have hPc := hP.sub (ws' := (ceX10_needWay cyI cyB cyJ cyZ a0 a1 a2 b0_tape b0_kept b0_draftGround b0_draftLaw b0_grid b0_pack b0_pieces a6 b1_law b1_marks b1_stroll a4 a5 a3 b2_walls g0_imageKept g0_wrongByte g1_drawSeed g2_wallCount g2_texts g2_ways)) [0, 1, 2] rfl
  have hDc := hD.sub (ws' := (ceX10_needWay cyI cyB cyJ cyZ a0 a1 a2 b0_tape b0_kept b0_draftGround b0_draftLaw b0_grid b0_pack b0_pieces a6 b1_law b1_marks b1_stroll a4 a5 a3 b2_walls g0_imageKept g0_wrongByte g1_drawSeed g2_wallCount g2_texts g2_ways)) [0, 1, 2] (by decide) rfl
  have hFc := va_free (wc := (ceX10_needWay cyI cyB cyJ cyZ a0 a1 a2 b0_tape b0_kept b0_draftGround b0_draftLaw b0_grid b0_pack b0_pieces a6 b1_law b1_marks b1_stroll a4 a5 a3 b2_walls g0_imageKept g0_wrongByte g1_drawSeed g2_wallCount g2_texts g2_ways)) hD hS hA [0, 1, 2] rfl
  refine vx_callv (vx_runV (As := [.int p0]) (rest := []) ⟨hx, hb, hml, hown, hts⟩ (ctX10_needWay l hl0 dC dI cyI cyB cyJ cyZ _ a0 a1 a2 b0_tape b0_kept b0_draftGround b0_draftLaw b0_grid b0_pack b0_pieces a6 b1_law b1_marks b1_stroll a4 a5 a3 b2_walls g0_imageKept g0_wrongByte g1_drawSeed g2_wallCount g2_texts g2_ways p0 _ _ adS hw) (cwV 1 hts gX10_fewer_X10_needWay rfl rfl rfl (by decide +kernel) ⟨Nat.le_of_ble_eq_true rfl, Nat.le_of_ble_eq_true rfl⟩) ⟨wPreX_blind (xOk_txT adS), va_recv hK hPc (ci := 10) (q0 := 0) rfl rfl, fun U hU hW => wPreX_of (xOk_txT adS) hPc hK hDc hN hXs hS hFc hU hW⟩ rfl rfl hl.1 rfl (lv_room (Nat.le_of_ble_eq_true rfl)) dX10_fewer_2 ⟨(by decide), (by decide)⟩) hS (fun q _ h => hFc q h) hFc (fun q _ h => hFc q h) (fun E ce q9 u1 t H1 locs ht hvm hpx hBX hz1 hk1 hS hce hcv hcl => ?_) (fun u1 t H1 locs ht hvm hw hB hz1 hk1 hS => ?_)
  · obtain ⟨hw, hP1, hK1, hD1⟩ := hBX
    rw [ht] at hP1
    obtain ⟨hP, hD⟩ := va_join (wr := pickW (ceX10_fewer cyI cyB cyJ cyZ a0 a1 a2 a3 a4 a5 a6 a7 a8 b0_tape b0_kept b0_draftGround b0_draftLaw b0_grid b0_pack b0_pieces b1_law b1_marks b1_stroll b2_walls g0_imageKept g0_wrongByte g1_drawSeed g2_wallCount g2_texts g2_ways f3 f4 f5 f7 f8) [3, 4, 5, 6, 7, 8]) (w1 := (ceX10_needWay cyI cyB cyJ cyZ a0 a1 a2 b0_tape b0_kept b0_draftGround b0_draftLaw b0_grid b0_pack b0_pieces a6 b1_law b1_marks b1_stroll a4 a5 a3 b2_walls g0_imageKept g0_wrongByte g1_drawSeed g2_wallCount g2_texts g2_ways)) hP hD [0, 1, 2] [3, 4, 5, 6, 7, 8] rfl rfl (by decide) (by decide) hk1 hFc hP1 hD1
    have hP := hP.sub (ws' := (ceX10_fewer cyI cyB cyJ cyZ a0 a1 a2 a3 a4 a5 a6 a7 a8 b0_tape b0_kept b0_draftGround b0_draftLaw b0_grid b0_pack b0_pieces b1_law b1_marks b1_stroll b2_walls g0_imageKept g0_wrongByte g1_drawSeed g2_wallCount g2_texts g2_ways f3 f4 f5 f7 f8)) [6, 7, 8, 0, 1, 2, 3, 4, 5] rfl
    have hD := hD.sub (ws' := (ceX10_fewer cyI cyB cyJ cyZ a0 a1 a2 a3 a4 a5 a6 a7 a8 b0_tape b0_kept b0_draftGround b0_draftLaw b0_grid b0_pack b0_pieces b1_law b1_marks b1_stroll b2_walls g0_imageKept g0_wrongByte g1_drawSeed g2_wallCount g2_texts g2_ways f3 f4 f5 f7 f8)) [6, 7, 8, 0, 1, 2, 3, 4, 5] (by decide) rfl
    rw [hQ]
    exact vx_widen (k := 2) (n := 12) (by decide) (by decide) (vx_out (fun x h => (hT x h).elim) hlocks hce hcv hcl (fun t9 ht9 hvm9 => ⟨(f7, f8), trivial, ⟨hw, by rw [ht9]; exact hP, va_K.moved hvm9 hK, hD⟩, hS.F ht9⟩) hS.2.2 (by decide) (by decide))
  -- returned
  obtain ⟨hP1, hK1, hD1⟩ := hB
  rw [ht] at hP1
  obtain ⟨hP, hD⟩ := va_join (wr := pickW (ceX10_fewer cyI cyB cyJ cyZ a0 a1 a2 a3 a4 a5 a6 a7 a8 b0_tape b0_kept b0_draftGround b0_draftLaw b0_grid b0_pack b0_pieces b1_law b1_marks b1_stroll b2_walls g0_imageKept g0_wrongByte g1_drawSeed g2_wallCount g2_texts g2_ways f3 f4 f5 f7 f8) [3, 4, 5, 6, 7, 8]) (w1 := (ceX10_needWay cyI cyB cyJ cyZ a0 a1 a2 b0_tape b0_kept b0_draftGround b0_draftLaw b0_grid b0_pack b0_pieces a6 b1_law b1_marks b1_stroll a4 a5 a3 b2_walls g0_imageKept g0_wrongByte g1_drawSeed g2_wallCount g2_texts g2_ways)) hP hD [0, 1, 2] [3, 4, 5, 6, 7, 8] rfl rfl (by decide) (by decide) hk1 hFc hP1 hD1
  have hP := hP.sub (ws' := (ceX10_fewer cyI cyB cyJ cyZ a0 a1 a2 a3 a4 a5 a6 a7 a8 b0_tape b0_kept b0_draftGround b0_draftLaw b0_grid b0_pack b0_pieces b1_law b1_marks b1_stroll b2_walls g0_imageKept g0_wrongByte g1_drawSeed g2_wallCount g2_texts g2_ways f3 f4 f5 f7 f8)) [6, 7, 8, 0, 1, 2, 3, 4, 5] rfl
  have hD := hD.sub (ws' := (ceX10_fewer cyI cyB cyJ cyZ a0 a1 a2 a3 a4 a5 a6 a7 a8 b0_tape b0_kept b0_draftGround b0_draftLaw b0_grid b0_pack b0_pieces b1_law b1_marks b1_stroll b2_walls g0_imageKept g0_wrongByte g1_drawSeed g2_wallCount g2_texts g2_ways f3 f4 f5 f7 f8)) [6, 7, 8, 0, 1, 2, 3, 4, 5] (by decide) rfl
  generalize H1 = H at hP hS ⊢
  refine W.widen (k := 1) (n := 6) (by decide) (by decide) ?_
  refine lv_iload_n hx hb dX10_fewer_5 rfl (lv_at hl 2 rfl) ?_
  refine lv_if_ge (tgt := 19) hx hb dX10_fewer_6 (by decide) (fun hc => ?_) (fun hc => ?_)
  · have hw := hw.1 hc
    refine lv_aload_n hx hb dX10_fewer_19 rfl (lv_at hl 0 rfl) ?_
    refine va_get (D := (dC, dI)) (ci := 10) (v := .ref a6) (C := RX10) (T := TX10) (N := 11) hx hb hts inX10_fewer_X10 hown hK hP 0 rfl rfl 8 (by decide) (hts (.fieldLink RX10 64 "LeadPark" "thinning" "LLeadPark$Thinning;") (List.mem_of_getElem? (i := 3) rfl)) (fun _ h9 => h9) rfl dX10_fewer_20 ?_
    refine lv_aload_n hx hb dX10_fewer_23 rfl (lv_at hl 0 rfl) ?_
    refine va_get (D := (dC, dI)) (ci := 10) (v := .ref a1) (C := RX10) (T := TX10) (N := 11) hx hb hts inX10_fewer_X10 hown hK hP 0 rfl rfl 1 (by decide) (hts (.fieldLink RX10 19 "LeadPark" "scene" "LLeadPark$Scene;") (List.mem_of_getElem? (i := 4) rfl)) (fun _ h9 => h9) rfl dX10_fewer_24 ?_
    refine va_getN (D := (dC, dI)) (ci := 6) (v := .ref a2) (C := RX6) (T := TX6) (N := 5) hx hb hts inX10_fewer_X6 hown hK hP 1 rfl rfl 0 (by decide) (va_Nw.use rfl (hN _ (List.mem_of_getElem? (i := 29) rfl))) (fun _ h9 => h9) rfl dX10_fewer_27 ?_
    refine lv_iload_n hx hb dX10_fewer_30 rfl (lv_at hl 1 rfl) ?_
    refine lv_iload_n hx hb dX10_fewer_31 rfl (lv_at hl 2 rfl) ?_
    have hPc := hP.sub (ws' := (ceX9_fewestCorners cyI cyB cyJ cyZ a6 a7 a8 a2 a3 a4 a5 b2_walls g2_ways g2_wallCount g2_texts f3 f4 f5 f7 f8)) [6, 7, 8, 2, 3, 4, 5] rfl
    have hDc := hD.sub (ws' := (ceX9_fewestCorners cyI cyB cyJ cyZ a6 a7 a8 a2 a3 a4 a5 b2_walls g2_ways g2_wallCount g2_texts f3 f4 f5 f7 f8)) [6, 7, 8, 2, 3, 4, 5] (by decide) rfl
    have hFc := va_free (wc := (ceX9_fewestCorners cyI cyB cyJ cyZ a6 a7 a8 a2 a3 a4 a5 b2_walls g2_ways g2_wallCount g2_texts f3 f4 f5 f7 f8)) hD hS hA [6, 7, 8, 2, 3, 4, 5] rfl
    refine va_calli (va_runV (As := [.ref a2, .int p0, .int p1]) (rest := []) ⟨hx, hb, hml, hown, hts⟩ (ctX9_fewestCorners l dC dI cyI cyB cyJ cyZ _ a6 a7 a8 a2 a3 a4 a5 b2_walls g2_ways g2_wallCount g2_texts f3 f4 f5 f7 f8 p0 p1 _ hw) (cwV 3 hts gX10_fewer_X9_fewestCorners rfl rfl rfl (by decide +kernel) ⟨Nat.le_of_ble_eq_true rfl, Nat.le_of_ble_eq_true rfl⟩) ⟨wPre_blind, va_recv hK hPc (ci := 9) (q0 := 0) rfl rfl, fun U hU hW => wPre_of hPc hK hDc hN hU hW⟩ rfl rfl hl.1 rfl (lv_room (Nat.le_of_ble_eq_true rfl)) dX10_fewer_32 ⟨(by decide), (by decide)⟩) hS (fun q _ h => hFc q h) hFc (fun r3 u2 t H1 locs ht hvm hw hB hz1 hk1 hS => ?_)
    obtain ⟨hP1, hK1, hD1⟩ := hB
    rw [ht] at hP1
    obtain ⟨hP, hD⟩ := va_join (wr := pickW (ceX10_fewer cyI cyB cyJ cyZ a0 a1 a2 a3 a4 a5 a6 a7 a8 b0_tape b0_kept b0_draftGround b0_draftLaw b0_grid b0_pack b0_pieces b1_law b1_marks b1_stroll b2_walls g0_imageKept g0_wrongByte g1_drawSeed g2_wallCount g2_texts g2_ways f3 f4 f5 f7 f8) [0, 1]) (w1 := (ceX9_fewestCorners cyI cyB cyJ cyZ a6 a7 a8 a2 a3 a4 a5 b2_walls g2_ways g2_wallCount g2_texts f3 f4 f5 u2.1 u2.2)) hP hD [6, 7, 8, 2, 3, 4, 5] [0, 1] rfl rfl (by decide) (by decide) hk1 hFc hP1 hD1
    have hP := hP.sub (ws' := (ceX10_fewer cyI cyB cyJ cyZ a0 a1 a2 a3 a4 a5 a6 a7 a8 b0_tape b0_kept b0_draftGround b0_draftLaw b0_grid b0_pack b0_pieces b1_law b1_marks b1_stroll b2_walls g0_imageKept g0_wrongByte g1_drawSeed g2_wallCount g2_texts g2_ways f3 f4 f5 u2.1 u2.2)) [0, 1, 5, 6, 7, 8, 2, 3, 4] rfl
    have hD := hD.sub (ws' := (ceX10_fewer cyI cyB cyJ cyZ a0 a1 a2 a3 a4 a5 a6 a7 a8 b0_tape b0_kept b0_draftGround b0_draftLaw b0_grid b0_pack b0_pieces b1_law b1_marks b1_stroll b2_walls g0_imageKept g0_wrongByte g1_drawSeed g2_wallCount g2_texts g2_ways f3 f4 f5 u2.1 u2.2)) [0, 1, 5, 6, 7, 8, 2, 3, 4] (by decide) rfl
    generalize H1 = H at hP hS ⊢
    rw [hQ]
    refine vx_ret ?_
    refine W.widen (k := 2) (n := 12) (by decide) (by decide) ?_
    exact W.iret (v := r3) hx hb hr (fun t ht hW => ⟨⟨r3, (u2.1, u2.2), rfl, hw, by rw [ht]; exact hP, va_K.moved hW.alike hK, hD⟩, hS.F ht⟩) hS.2.2 dX10_fewer_35
  · have hw := hw.2 hc
    rw [hQ]
    exact vx_throwS (cls := "java/lang/IllegalArgumentException") (names := ["java/lang/RuntimeException", "java/lang/Exception"]) (mc := 2) (ms := 12) hx hb hl0 hown (by decide +kernel) (by decide +kernel) (hts (.classLink RX10 102 "java/lang/IllegalArgumentException") (List.mem_of_getElem? (i := 1) rfl)) (hts (.initialized "java/lang/IllegalArgumentException") (List.mem_of_getElem? (i := 2) rfl)) (hXs.1.2 36 _ rfl).1 (hatX10_fewer_106 hts hXs.2.2.2) hgd_106 hXs.2.1 hXs.2.2.1 hS (hl.1.trans hml.symm) dX10_fewer_9 dX10_fewer_12 dX10_fewer_13 dX10_fewer_15 dX10_fewer_18 (fun x h => (hT x h).elim) (by decide) (by decide) (by decide) (by decide) hlocks (fun t hvm hz hk => thr_X (f7, f8) hw hP hK hD hS hvm hz hk) hS.2.2 (by decide) (by decide)
/-! LeadPark.greatestOfPairs (I)I -/
abbrev ceX10_greatestOfPairs (cyI cyB cyJ cyZ : ClassId) (a0 a1 a2 a3 a4 a5 a6 a7 a8 a9 a10 a11 a12 b0_tape b0_kept b0_draftGround b0_draftLaw b0_pack b0_pieces b0_thinning b1_marks b1_stroll : Nat) (g0_imageKept : Int32) (g0_wrongByte : Int32) (g1_drawSeed : Int32) (g2_texts : Int32) (g7_lines : Int32) (g2_ways : Int32) (g2_wallCount : Int32) (f3 : Nat → Int32) (f4 : Nat → Int32) (f5 : Nat → Int32) (f6 : Nat → Int32) (g7_size : Int32) (f9 : Nat → Int32) (f8 : Nat → Int32) (g10_rows : Int32) (g10_columns : Int32) (f11 : Nat → Int32) (f12 : Nat → Int32) : va_W := [(a0, .inr (10, [.ref b0_tape, .ref a1, .ref b0_kept, .ref b0_draftGround, .ref b0_draftLaw, .ref a10, .ref b0_pack, .ref b0_pieces, .ref b0_thinning, .int g0_imageKept, .int g0_wrongByte])), (a1, .inr (6, [.ref a2, .ref a7, .ref b1_marks, .ref b1_stroll, .int g1_drawSeed])), (a2, .inr (1, [.ref a4, .ref a5, .ref a3, .ref a6, .int g2_ways, .int g2_wallCount, .int g2_texts])), (a3, .inl (cyI, 12, .inl f3)), (a4, .inl (cyI, 360, .inl f4)), (a5, .inl (cyI, 360, .inl f5)), (a6, .inl (cyI, 32, .inl f6)), (a7, .inr (2, [.ref a9, .ref a8, .int g7_size, .int g7_lines])), (a8, .inl (cyI, 7, .inl f8)), (a9, .inl (cyI, 400, .inl f9)), (a10, .inr (0, [.ref a11, .ref a12, .int g10_rows, .int g10_columns])), (a11, .inl (cyI, 1089, .inl f11)), (a12, .inl (cyI, 1089, .inl f12))]

theorem inX10_greatestOfPairs_X1 : ∀ w ∈ wsX10, w ∈ wsX10_greatestOfPairs := fun _ h => List.mem_cons_of_mem _ (List.mem_append_left _ (List.mem_append_left _ (List.mem_append_right _ h)))
theorem inX10_greatestOfPairs_X10 : ∀ w ∈ wsX100, w ∈ wsX10_greatestOfPairs := fun _ h => List.mem_cons_of_mem _ (List.mem_append_left _ (List.mem_append_left _ (List.mem_append_left _ (List.mem_append_left _ (List.mem_append_right _ h)))))
theorem inX10_greatestOfPairs_X6 : ∀ w ∈ wsX60, w ∈ wsX10_greatestOfPairs := fun _ h => List.mem_cons_of_mem _ (List.mem_append_left _ (List.mem_append_left _ (List.mem_append_left _ (List.mem_append_right _ h))))
abbrev rmX10_greatestOfPairs : Room := { frames := 6, cells := 0, slots := 0, locals := 175 }
def wpX10_greatestOfPairs_82 (k23 : (Nat → Int32) → Int32 → Int32 → (Nat → Int32) → (Nat → Int32) → Int32 → Int32 → Int32 → Int32 → Prop) (k4 : (Nat → Int32) → Int32 → Int32 → (Nat → Int32) → (Nat → Int32) → Int32 → Int32 → Int32 → Prop) (post : Int32 → ((Nat → Int32) × Int32 × Int32 × (Nat → Int32) × (Nat → Int32)) → Prop) (g2_ways : Int32) (g2_wallCount : Int32) (f3 : Nat → Int32) (f4 : Nat → Int32) (f5 : Nat → Int32) (f6 : Nat → Int32) (g7_size : Int32) (f9 : Nat → Int32) (f8 : Nat → Int32) (g10_rows : Int32) (g10_columns : Int32) (f11 : Nat → Int32) (f12 : Nat → Int32) (x1 : Int32) (x2 : Int32) (x3 : Int32) (x4 : Int32) : Prop :=
  ∀ v1 : Int32, v1 = x4 + 1 →
  k23 f8 g10_rows g10_columns f11 f12 x1 x2 x3 v1
def wpX10_greatestOfPairs_23 (k4 : (Nat → Int32) → Int32 → Int32 → (Nat → Int32) → (Nat → Int32) → Int32 → Int32 → Int32 → Prop) (post : Int32 → ((Nat → Int32) × Int32 × Int32 × (Nat → Int32) × (Nat → Int32)) → Prop) (g2_ways : Int32) (g2_wallCount : Int32) (f3 : Nat → Int32) (f4 : Nat → Int32) (f5 : Nat → Int32) (f6 : Nat → Int32) (g7_size : Int32) (f9 : Nat → Int32) : Nat → (Nat → Int32) → Int32 → Int32 → (Nat → Int32) → (Nat → Int32) → Int32 → Int32 → Int32 → Int32 → Prop
  | 0, _, _, _, _, _, _, _, _, _ => False
  | n_23 + 1, f8, g10_rows, g10_columns, f11, f12, x1, x2, x3, x4 =>
    (g2_ways ≤ x4 →
     ∀ v1 : Int32, v1 = x3 + 1 →
     k4 f8 g10_rows g10_columns f11 f12 x1 x2 v1) ∧
    (¬ g2_ways ≤ x4 →
     wpX10_isIn (fun (r3 : Int32) (u2 : Unit) =>
      (r3 = 0 →
       wpX10_greatestOfPairs_82 (fun y0 y1 y2 y3 y4 y5 y6 y7 y8 => wpX10_greatestOfPairs_23 k4 post g2_ways g2_wallCount f3 f4 f5 f6 g7_size f9 n_23 y0 y1 y2 y3 y4 y5 y6 y7 y8) k4 post g2_ways g2_wallCount f3 f4 f5 f6 g7_size f9 f8 g10_rows g10_columns f11 f12 x1 x2 x3 x4) ∧
      (¬ r3 = 0 →
       wpX10_isIn (fun (r5 : Int32) (u4 : Unit) =>
        (¬ r5 = 0 →
         wpX10_shortest (fun (r7 : Int32) (u6 : Int32 × Int32 × (Nat → Int32) × (Nat → Int32) × (Nat → Int32)) =>
          (¬ r7 = (-1) →
           ∀ v8 : Int32, v8 = iMax x2 r7 →
           wpX10_greatestOfPairs_82 (fun y0 y1 y2 y3 y4 y5 y6 y7 y8 => wpX10_greatestOfPairs_23 k4 post g2_ways g2_wallCount f3 f4 f5 f6 g7_size f9 n_23 y0 y1 y2 y3 y4 y5 y6 y7 y8) k4 post g2_ways g2_wallCount f3 f4 f5 f6 g7_size f9 u6.2.2.2.2 u6.1 u6.2.1 u6.2.2.1 u6.2.2.2.1 x1 v8 x3 x4) ∧
          (r7 = (-1) →
           post (-1) (u6.2.2.2.2, u6.1, u6.2.1, u6.2.2.1, u6.2.2.2.1))) g2_wallCount f3 f4 f5 f6 g7_size f9 g10_rows g10_columns f11 f12 f8 x3 x4) ∧
        (r5 = 0 →
         wpX10_greatestOfPairs_82 (fun y0 y1 y2 y3 y4 y5 y6 y7 y8 => wpX10_greatestOfPairs_23 k4 post g2_ways g2_wallCount f3 f4 f5 f6 g7_size f9 n_23 y0 y1 y2 y3 y4 y5 y6 y7 y8) k4 post g2_ways g2_wallCount f3 f4 f5 f6 g7_size f9 f8 g10_rows g10_columns f11 f12 x1 x2 x3 x4)) x1 x4)) x1 x3)
def wpX10_greatestOfPairs_4 (post : Int32 → ((Nat → Int32) × Int32 × Int32 × (Nat → Int32) × (Nat → Int32)) → Prop) (g2_ways : Int32) (g2_wallCount : Int32) (f3 : Nat → Int32) (f4 : Nat → Int32) (f5 : Nat → Int32) (f6 : Nat → Int32) (g7_size : Int32) (f9 : Nat → Int32) : Nat → (Nat → Int32) → Int32 → Int32 → (Nat → Int32) → (Nat → Int32) → Int32 → Int32 → Int32 → Prop
  | 0, _, _, _, _, _, _, _, _ => False
  | n_4 + 1, f8, g10_rows, g10_columns, f11, f12, x1, x2, x3 =>
    (g2_ways ≤ x3 →
     post x2 (f8, g10_rows, g10_columns, f11, f12)) ∧
    (¬ g2_ways ≤ x3 →
     ∀ v1 : Int32, v1 = x3 + 1 →
     ∃ n_23 : Nat, wpX10_greatestOfPairs_23 (fun y0 y1 y2 y3 y4 y5 y6 y7 => wpX10_greatestOfPairs_4 post g2_ways g2_wallCount f3 f4 f5 f6 g7_size f9 n_4 y0 y1 y2 y3 y4 y5 y6 y7) post g2_ways g2_wallCount f3 f4 f5 f6 g7_size f9 n_23 f8 g10_rows g10_columns f11 f12 x1 x2 x3 v1)
def wpX10_greatestOfPairs (post : Int32 → ((Nat → Int32) × Int32 × Int32 × (Nat → Int32) × (Nat → Int32)) → Prop) (g2_ways : Int32) (g2_wallCount : Int32) (f3 : Nat → Int32) (f4 : Nat → Int32) (f5 : Nat → Int32) (f6 : Nat → Int32) (g7_size : Int32) (f9 : Nat → Int32) (f8 : Nat → Int32) (g10_rows : Int32) (g10_columns : Int32) (f11 : Nat → Int32) (f12 : Nat → Int32) (p0 : Int32) : Prop :=
  ∃ n_4 : Nat, wpX10_greatestOfPairs_4 post g2_ways g2_wallCount f3 f4 f5 f6 g7_size f9 n_4 f8 g10_rows g10_columns f11 f12 p0 0 0
set_option maxRecDepth 100000 in
set_option maxHeartbeats 4000000 in
theorem bX10_greatestOfPairs_82 {p : Program} {l : Launch} {e : Env} {s : State} {m : MethodId} {args : Array Value} {below : List Frame} {meth : Method} {c : Code} {dC : Nat → ClassId} {dI : Nat → Nat → Nat} {cyI cyB cyJ cyZ : ClassId} {A : Nat → Prop} {a0 a1 a2 a3 a4 a5 a6 a7 a8 a9 a10 a11 a12 b0_tape b0_kept b0_draftGround b0_draftLaw b0_pack b0_pieces b0_thinning b1_marks b1_stroll : Nat} {g0_imageKept : Int32} {g0_wrongByte : Int32} {g1_drawSeed : Int32} {g2_texts : Int32} {g7_lines : Int32} (C0 : cxM p s m meth c args wsX10_greatestOfPairs RX10 cX10_greatestOfPairs 6 (some .int)) (hK : va_K (dC, dI) vwCl (tyA cyI cyB cyJ cyZ) s) (hN : nwA s) (hA : ∀ q : Nat, s.heap.size ≤ q → A q) {post : Int32 → ((Nat → Int32) × Int32 × Int32 × (Nat → Int32) × (Nat → Int32)) → Prop} {g2_ways : Int32} {g2_wallCount : Int32} {f3 : Nat → Int32} {f4 : Nat → Int32} {f5 : Nat → Int32} {f6 : Nat → Int32} {g7_size : Int32} {f9 : Nat → Int32} {k23 : (Nat → Int32) → Int32 → Int32 → (Nat → Int32) → (Nat → Int32) → Int32 → Int32 → Int32 → Int32 → Prop} {k4 : (Nat → Int32) → Int32 → Int32 → (Nat → Int32) → (Nat → Int32) → Int32 → Int32 → Int32 → Prop} {Q : State → Prop} (hQ : Q = MQ below (va_Qi post (fun u : (Nat → Int32) × Int32 × Int32 × (Nat → Int32) × (Nat → Int32) => wAt dC dI cyI cyB cyJ cyZ A (ceX10_greatestOfPairs cyI cyB cyJ cyZ a0 a1 a2 a3 a4 a5 a6 a7 a8 a9 a10 a11 a12 b0_tape b0_kept b0_draftGround b0_draftLaw b0_pack b0_pieces b0_thinning b1_marks b1_stroll g0_imageKept g0_wrongByte g1_drawSeed g2_texts g7_lines g2_ways g2_wallCount f3 f4 f5 f6 g7_size f9 u.1 u.2.1 u.2.2.1 u.2.2.2.1 u.2.2.2.2)) A) args s 0 0 A) (hk23 : ∀ (f8 : Nat → Int32) (g10_rows : Int32) (g10_columns : Int32) (f11 : Nat → Int32) (f12 : Nat → Int32) (x1 : Int32) (x2 : Int32) (x3 : Int32) (x4 : Int32), k23 f8 g10_rows g10_columns f11 f12 x1 x2 x3 x4 → AtW p l e rmX10_greatestOfPairs s m args below meth c dC dI A Q 6 0 0 (ceX10_greatestOfPairs cyI cyB cyJ cyZ a0 a1 a2 a3 a4 a5 a6 a7 a8 a9 a10 a11 a12 b0_tape b0_kept b0_draftGround b0_draftLaw b0_pack b0_pieces b0_thinning b1_marks b1_stroll g0_imageKept g0_wrongByte g1_drawSeed g2_texts g7_lines g2_ways g2_wallCount f3 f4 f5 f6 g7_size f9 f8 g10_rows g10_columns f11 f12) [(0, .ref a0), (1, .int x1), (2, .int x2), (3, .int x3), (4, .int x4)] 23 []) (hk4 : ∀ (f8 : Nat → Int32) (g10_rows : Int32) (g10_columns : Int32) (f11 : Nat → Int32) (f12 : Nat → Int32) (x1 : Int32) (x2 : Int32) (x3 : Int32), k4 f8 g10_rows g10_columns f11 f12 x1 x2 x3 → AtW p l e rmX10_greatestOfPairs s m args below meth c dC dI A Q 6 0 0 (ceX10_greatestOfPairs cyI cyB cyJ cyZ a0 a1 a2 a3 a4 a5 a6 a7 a8 a9 a10 a11 a12 b0_tape b0_kept b0_draftGround b0_draftLaw b0_pack b0_pieces b0_thinning b1_marks b1_stroll g0_imageKept g0_wrongByte g1_drawSeed g2_texts g7_lines g2_ways g2_wallCount f3 f4 f5 f6 g7_size f9 f8 g10_rows g10_columns f11 f12) [(0, .ref a0), (1, .int x1), (2, .int x2), (3, .int x3)] 4 []) : ∀ (f8 : Nat → Int32) (g10_rows : Int32) (g10_columns : Int32) (f11 : Nat → Int32) (f12 : Nat → Int32) (x1 : Int32) (x2 : Int32) (x3 : Int32) (x4 : Int32), wpX10_greatestOfPairs_82 k23 k4 post g2_ways g2_wallCount f3 f4 f5 f6 g7_size f9 f8 g10_rows g10_columns f11 f12 x1 x2 x3 x4 → AtW p l e rmX10_greatestOfPairs s m args below meth c dC dI A Q 6 0 0 (ceX10_greatestOfPairs cyI cyB cyJ cyZ a0 a1 a2 a3 a4 a5 a6 a7 a8 a9 a10 a11 a12 b0_tape b0_kept b0_draftGround b0_draftLaw b0_pack b0_pieces b0_thinning b1_marks b1_stroll g0_imageKept g0_wrongByte g1_drawSeed g2_texts g7_lines g2_ways g2_wallCount f3 f4 f5 f6 g7_size f9 f8 g10_rows g10_columns f11 f12) [(0, .ref a0), (1, .int x1), (2, .int x2), (3, .int x3), (4, .int x4)] 82 [] := by
  intro f8 g10_rows g10_columns f11 f12 x1 x2 x3 x4 hw H locs hP hD hS ls hl
  have C1 := C0
  obtain ⟨hx, hb, hr, hml, hown, hts, hlocks⟩ := C1
  obtain ⟨v1, ev1⟩ : ∃ y : Int32, y = x4 + 1 := ⟨_, rfl⟩
  have hw := hw v1 ev1
  refine lv_iinc (v := v1) (lv' := [(4, .int v1), (0, .ref a0), (1, .int x1), (2, .int x2), (3, .int x3)]) hx hb dX10_greatestOfPairs_82 hl (k := 4) rfl (by rw [ev1]; rfl) (by decide) rfl (fun ls hl => ?_)
  refine lv_goto (tgt := 23) hx hb dX10_greatestOfPairs_85 (by decide) ?_
  exact hk23 f8 g10_rows g10_columns f11 f12 x1 x2 x3 v1 hw H locs hP hD hS ls (lv_sub hl [1, 2, 3, 4, 0] rfl)
set_option maxRecDepth 100000 in
set_option maxHeartbeats 4000000 in
theorem bX10_greatestOfPairs_23 {p : Program} {l : Launch} {e : Env} {s : State} {m : MethodId} {args : Array Value} {below : List Frame} {meth : Method} {c : Code} {dC : Nat → ClassId} {dI : Nat → Nat → Nat} {cyI cyB cyJ cyZ : ClassId} {A : Nat → Prop} {a0 a1 a2 a3 a4 a5 a6 a7 a8 a9 a10 a11 a12 b0_tape b0_kept b0_draftGround b0_draftLaw b0_pack b0_pieces b0_thinning b1_marks b1_stroll : Nat} {g0_imageKept : Int32} {g0_wrongByte : Int32} {g1_drawSeed : Int32} {g2_texts : Int32} {g7_lines : Int32} (C0 : cxM p s m meth c args wsX10_greatestOfPairs RX10 cX10_greatestOfPairs 6 (some .int)) (hK : va_K (dC, dI) vwCl (tyA cyI cyB cyJ cyZ) s) (hN : nwA s) (hA : ∀ q : Nat, s.heap.size ≤ q → A q) {post : Int32 → ((Nat → Int32) × Int32 × Int32 × (Nat → Int32) × (Nat → Int32)) → Prop} {g2_ways : Int32} {g2_wallCount : Int32} {f3 : Nat → Int32} {f4 : Nat → Int32} {f5 : Nat → Int32} {f6 : Nat → Int32} {g7_size : Int32} {f9 : Nat → Int32} {k4 : (Nat → Int32) → Int32 → Int32 → (Nat → Int32) → (Nat → Int32) → Int32 → Int32 → Int32 → Prop} {Q : State → Prop} (hQ : Q = MQ below (va_Qi post (fun u : (Nat → Int32) × Int32 × Int32 × (Nat → Int32) × (Nat → Int32) => wAt dC dI cyI cyB cyJ cyZ A (ceX10_greatestOfPairs cyI cyB cyJ cyZ a0 a1 a2 a3 a4 a5 a6 a7 a8 a9 a10 a11 a12 b0_tape b0_kept b0_draftGround b0_draftLaw b0_pack b0_pieces b0_thinning b1_marks b1_stroll g0_imageKept g0_wrongByte g1_drawSeed g2_texts g7_lines g2_ways g2_wallCount f3 f4 f5 f6 g7_size f9 u.1 u.2.1 u.2.2.1 u.2.2.2.1 u.2.2.2.2)) A) args s 0 0 A) (hk4 : ∀ (f8 : Nat → Int32) (g10_rows : Int32) (g10_columns : Int32) (f11 : Nat → Int32) (f12 : Nat → Int32) (x1 : Int32) (x2 : Int32) (x3 : Int32), k4 f8 g10_rows g10_columns f11 f12 x1 x2 x3 → AtW p l e rmX10_greatestOfPairs s m args below meth c dC dI A Q 6 0 0 (ceX10_greatestOfPairs cyI cyB cyJ cyZ a0 a1 a2 a3 a4 a5 a6 a7 a8 a9 a10 a11 a12 b0_tape b0_kept b0_draftGround b0_draftLaw b0_pack b0_pieces b0_thinning b1_marks b1_stroll g0_imageKept g0_wrongByte g1_drawSeed g2_texts g7_lines g2_ways g2_wallCount f3 f4 f5 f6 g7_size f9 f8 g10_rows g10_columns f11 f12) [(0, .ref a0), (1, .int x1), (2, .int x2), (3, .int x3)] 4 []) : ∀ (n : Nat) (f8 : Nat → Int32) (g10_rows : Int32) (g10_columns : Int32) (f11 : Nat → Int32) (f12 : Nat → Int32) (x1 : Int32) (x2 : Int32) (x3 : Int32) (x4 : Int32), wpX10_greatestOfPairs_23 k4 post g2_ways g2_wallCount f3 f4 f5 f6 g7_size f9 n f8 g10_rows g10_columns f11 f12 x1 x2 x3 x4 → AtW p l e rmX10_greatestOfPairs s m args below meth c dC dI A Q 6 0 0 (ceX10_greatestOfPairs cyI cyB cyJ cyZ a0 a1 a2 a3 a4 a5 a6 a7 a8 a9 a10 a11 a12 b0_tape b0_kept b0_draftGround b0_draftLaw b0_pack b0_pieces b0_thinning b1_marks b1_stroll g0_imageKept g0_wrongByte g1_drawSeed g2_texts g7_lines g2_ways g2_wallCount f3 f4 f5 f6 g7_size f9 f8 g10_rows g10_columns f11 f12) [(0, .ref a0), (1, .int x1), (2, .int x2), (3, .int x3), (4, .int x4)] 23 [] := by
  intro n
  induction n with
  | zero => intro f8 g10_rows g10_columns f11 f12 x1 x2 x3 x4 hw; exact False.elim hw
  | succ n ih =>
    intro f8 g10_rows g10_columns f11 f12 x1 x2 x3 x4 hw H locs hP hD hS ls hl
    have C1 := C0
    obtain ⟨hx, hb, hr, hml, hown, hts, hlocks⟩ := C1
    refine lv_iload hx hb dX10_greatestOfPairs_23 (lv_at hl 4 rfl) ?_
    refine lv_aload_n hx hb dX10_greatestOfPairs_25 rfl (lv_at hl 0 rfl) ?_
    refine va_get (D := (dC, dI)) (ci := 10) (v := .ref a1) (C := RX10) (T := TX10) (N := 11) hx hb hts inX10_greatestOfPairs_X10 hown hK hP 0 rfl rfl 1 (by decide) (hts (.fieldLink RX10 19 "LeadPark" "scene" "LLeadPark$Scene;") (List.mem_of_getElem? (i := 1) rfl)) (fun _ h9 => h9) rfl dX10_greatestOfPairs_26 ?_
    refine va_getN (D := (dC, dI)) (ci := 6) (v := .ref a2) (C := RX6) (T := TX6) (N := 5) hx hb hts inX10_greatestOfPairs_X6 hown hK hP 1 rfl rfl 0 (by decide) (va_Nw.use rfl (hN _ (List.mem_of_getElem? (i := 29) rfl))) (fun _ h9 => h9) rfl dX10_greatestOfPairs_29 ?_
    refine va_getN (D := (dC, dI)) (ci := 1) (v := .int g2_ways) (C := RX1) (T := TX1) (N := 7) hx hb hts inX10_greatestOfPairs_X1 hown hK hP 2 rfl rfl 4 (by decide) (va_Nw.use rfl (hN _ (List.mem_of_getElem? (i := 9) rfl))) (fun _ h9 => h9) rfl dX10_greatestOfPairs_32 ?_
    refine lv_icmp_ge (tgt := 88) hx hb dX10_greatestOfPairs_35 (by decide) (fun hc => ?_) (fun hc => ?_)
    · have hw := hw.1 hc
      obtain ⟨v1, ev1⟩ : ∃ y : Int32, y = x3 + 1 := ⟨_, rfl⟩
      have hw := hw v1 ev1
      refine lv_iinc (v := v1) (lv' := [(3, .int v1), (0, .ref a0), (1, .int x1), (2, .int x2), (4, .int x4)]) hx hb dX10_greatestOfPairs_88 hl (k := 3) rfl (by rw [ev1]; rfl) (by decide) rfl (fun ls hl => ?_)
      refine lv_goto (tgt := 4) hx hb dX10_greatestOfPairs_91 (by decide) ?_
      exact hk4 f8 g10_rows g10_columns f11 f12 x1 x2 v1 hw H locs hP hD hS ls (lv_sub hl [1, 2, 3, 0] rfl)
    · have hw := hw.2 hc
      refine lv_iload_n hx hb dX10_greatestOfPairs_38 rfl (lv_at hl 1 rfl) ?_
      refine lv_iload_n hx hb dX10_greatestOfPairs_39 rfl (lv_at hl 3 rfl) ?_
      have hPc := hP.sub (ws' := ([] : va_W)) [] rfl
      have hDc := hD.sub (ws' := ([] : va_W)) [] (by decide) rfl
      have hFc := va_free (wc := ([] : va_W)) hD hS hA [] rfl
      refine va_calli (va_runS (As := [.int x1, .int x3]) (rest := []) ⟨hx, hb, hml, hown, hts⟩ (ctX10_isIn l dC dI cyI cyB cyJ cyZ _ x1 x3 _ hw) (va_cwS 2 hts gX10_greatestOfPairs_X10_isIn rfl rfl rfl (by decide +kernel) ⟨Nat.le_of_ble_eq_true rfl, Nat.le_of_ble_eq_true rfl⟩) ⟨wPre_blind, fun U hU hW => wPre_of hPc hK hDc hN hU hW⟩ rfl rfl hl.1 rfl (lv_room (Nat.le_of_ble_eq_true rfl)) dX10_greatestOfPairs_40 ⟨(Nat.zero_le _), (Nat.zero_le _)⟩) hS (fun q _ h => hFc q h) hFc (fun r3 u2 t H1 locs ht hvm hw hB hz1 hk1 hS => ?_)
      obtain ⟨hP1, hK1, hD1⟩ := hB
      rw [ht] at hP1
      obtain ⟨hP, hD⟩ := va_join (wr := pickW (ceX10_greatestOfPairs cyI cyB cyJ cyZ a0 a1 a2 a3 a4 a5 a6 a7 a8 a9 a10 a11 a12 b0_tape b0_kept b0_draftGround b0_draftLaw b0_pack b0_pieces b0_thinning b1_marks b1_stroll g0_imageKept g0_wrongByte g1_drawSeed g2_texts g7_lines g2_ways g2_wallCount f3 f4 f5 f6 g7_size f9 f8 g10_rows g10_columns f11 f12) [0, 1, 2, 3, 4, 5, 6, 7, 8, 9, 10, 11, 12]) (w1 := ([] : va_W)) hP hD [] [0, 1, 2, 3, 4, 5, 6, 7, 8, 9, 10, 11, 12] rfl rfl (by decide) (by decide) hk1 hFc hP1 hD1
      have hP := hP.sub (ws' := (ceX10_greatestOfPairs cyI cyB cyJ cyZ a0 a1 a2 a3 a4 a5 a6 a7 a8 a9 a10 a11 a12 b0_tape b0_kept b0_draftGround b0_draftLaw b0_pack b0_pieces b0_thinning b1_marks b1_stroll g0_imageKept g0_wrongByte g1_drawSeed g2_texts g7_lines g2_ways g2_wallCount f3 f4 f5 f6 g7_size f9 f8 g10_rows g10_columns f11 f12)) [0, 1, 2, 3, 4, 5, 6, 7, 8, 9, 10, 11, 12] rfl
      have hD := hD.sub (ws' := (ceX10_greatestOfPairs cyI cyB cyJ cyZ a0 a1 a2 a3 a4 a5 a6 a7 a8 a9 a10 a11 a12 b0_tape b0_kept b0_draftGround b0_draftLaw b0_pack b0_pieces b0_thinning b1_marks b1_stroll g0_imageKept g0_wrongByte g1_drawSeed g2_texts g7_lines g2_ways g2_wallCount f3 f4 f5 f6 g7_size f9 f8 g10_rows g10_columns f11 f12)) [0, 1, 2, 3, 4, 5, 6, 7, 8, 9, 10, 11, 12] (by decide) rfl
      generalize H1 = H at hP hS ⊢
      refine lv_if_eq (tgt := 82) hx hb dX10_greatestOfPairs_43 (by decide) (fun hc => ?_) (fun hc => ?_)
      · have hw := hw.1 hc
        exact bX10_greatestOfPairs_82 C0 hK hN hA hQ ih hk4 f8 g10_rows g10_columns f11 f12 x1 x2 x3 x4 hw _ _ hP hD hS ls (lv_sub hl [0, 1, 2, 3, 4] rfl)
      · have hw := hw.2 hc
        refine lv_iload_n hx hb dX10_greatestOfPairs_46 rfl (lv_at hl 1 rfl) ?_
        refine lv_iload hx hb dX10_greatestOfPairs_47 (lv_at hl 4 rfl) ?_
        have hPc := hP.sub (ws' := ([] : va_W)) [] rfl
        have hDc := hD.sub (ws' := ([] : va_W)) [] (by decide) rfl
        have hFc := va_free (wc := ([] : va_W)) hD hS hA [] rfl
        refine va_calli (va_runS (As := [.int x1, .int x4]) (rest := []) ⟨hx, hb, hml, hown, hts⟩ (ctX10_isIn l dC dI cyI cyB cyJ cyZ _ x1 x4 _ hw) (va_cwS 2 hts gX10_greatestOfPairs_X10_isIn rfl rfl rfl (by decide +kernel) ⟨Nat.le_of_ble_eq_true rfl, Nat.le_of_ble_eq_true rfl⟩) ⟨wPre_blind, fun U hU hW => wPre_of hPc hK hDc hN hU hW⟩ rfl rfl hl.1 rfl (lv_room (Nat.le_of_ble_eq_true rfl)) dX10_greatestOfPairs_49 ⟨(Nat.zero_le _), (Nat.zero_le _)⟩) hS (fun q _ h => hFc q h) hFc (fun r5 u4 t H1 locs ht hvm hw hB hz1 hk1 hS => ?_)
        obtain ⟨hP1, hK1, hD1⟩ := hB
        rw [ht] at hP1
        obtain ⟨hP, hD⟩ := va_join (wr := pickW (ceX10_greatestOfPairs cyI cyB cyJ cyZ a0 a1 a2 a3 a4 a5 a6 a7 a8 a9 a10 a11 a12 b0_tape b0_kept b0_draftGround b0_draftLaw b0_pack b0_pieces b0_thinning b1_marks b1_stroll g0_imageKept g0_wrongByte g1_drawSeed g2_texts g7_lines g2_ways g2_wallCount f3 f4 f5 f6 g7_size f9 f8 g10_rows g10_columns f11 f12) [0, 1, 2, 3, 4, 5, 6, 7, 8, 9, 10, 11, 12]) (w1 := ([] : va_W)) hP hD [] [0, 1, 2, 3, 4, 5, 6, 7, 8, 9, 10, 11, 12] rfl rfl (by decide) (by decide) hk1 hFc hP1 hD1
        have hP := hP.sub (ws' := (ceX10_greatestOfPairs cyI cyB cyJ cyZ a0 a1 a2 a3 a4 a5 a6 a7 a8 a9 a10 a11 a12 b0_tape b0_kept b0_draftGround b0_draftLaw b0_pack b0_pieces b0_thinning b1_marks b1_stroll g0_imageKept g0_wrongByte g1_drawSeed g2_texts g7_lines g2_ways g2_wallCount f3 f4 f5 f6 g7_size f9 f8 g10_rows g10_columns f11 f12)) [0, 1, 2, 3, 4, 5, 6, 7, 8, 9, 10, 11, 12] rfl
        have hD := hD.sub (ws' := (ceX10_greatestOfPairs cyI cyB cyJ cyZ a0 a1 a2 a3 a4 a5 a6 a7 a8 a9 a10 a11 a12 b0_tape b0_kept b0_draftGround b0_draftLaw b0_pack b0_pieces b0_thinning b1_marks b1_stroll g0_imageKept g0_wrongByte g1_drawSeed g2_texts g7_lines g2_ways g2_wallCount f3 f4 f5 f6 g7_size f9 f8 g10_rows g10_columns f11 f12)) [0, 1, 2, 3, 4, 5, 6, 7, 8, 9, 10, 11, 12] (by decide) rfl
        generalize H1 = H at hP hS ⊢
        refine lv_if_ne (tgt := 58) hx hb dX10_greatestOfPairs_52 (by decide) (fun hc => ?_) (fun hc => ?_)
        · have hw := hw.1 hc
          refine lv_aload_n hx hb dX10_greatestOfPairs_58 rfl (lv_at hl 0 rfl) ?_
          refine lv_iload_n hx hb dX10_greatestOfPairs_59 rfl (lv_at hl 3 rfl) ?_
          refine lv_iload hx hb dX10_greatestOfPairs_60 (lv_at hl 4 rfl) ?_
          have hPc := hP.sub (ws' := (ceX10_shortest cyI cyB cyJ cyZ a0 a10 a11 a12 a1 a2 a3 a4 a5 a6 a7 a8 a9 b0_tape b0_kept b0_draftGround b0_draftLaw b0_pack b0_pieces b0_thinning b1_marks b1_stroll g0_imageKept g0_wrongByte g1_drawSeed g2_ways g2_texts g7_lines g2_wallCount f3 f4 f5 f6 g7_size f9 g10_rows g10_columns f11 f12 f8)) [0, 10, 11, 12, 1, 2, 3, 4, 5, 6, 7, 8, 9] rfl
          have hDc := hD.sub (ws' := (ceX10_shortest cyI cyB cyJ cyZ a0 a10 a11 a12 a1 a2 a3 a4 a5 a6 a7 a8 a9 b0_tape b0_kept b0_draftGround b0_draftLaw b0_pack b0_pieces b0_thinning b1_marks b1_stroll g0_imageKept g0_wrongByte g1_drawSeed g2_ways g2_texts g7_lines g2_wallCount f3 f4 f5 f6 g7_size f9 g10_rows g10_columns f11 f12 f8)) [0, 10, 11, 12, 1, 2, 3, 4, 5, 6, 7, 8, 9] (by decide) rfl
          have hFc := va_free (wc := (ceX10_shortest cyI cyB cyJ cyZ a0 a10 a11 a12 a1 a2 a3 a4 a5 a6 a7 a8 a9 b0_tape b0_kept b0_draftGround b0_draftLaw b0_pack b0_pieces b0_thinning b1_marks b1_stroll g0_imageKept g0_wrongByte g1_drawSeed g2_ways g2_texts g7_lines g2_wallCount f3 f4 f5 f6 g7_size f9 g10_rows g10_columns f11 f12 f8)) hD hS hA [0, 10, 11, 12, 1, 2, 3, 4, 5, 6, 7, 8, 9] rfl
          refine va_calli (va_runV (As := [.int x3, .int x4]) (rest := []) ⟨hx, hb, hml, hown, hts⟩ (ctX10_shortest l dC dI cyI cyB cyJ cyZ _ a0 a10 a11 a12 a1 a2 a3 a4 a5 a6 a7 a8 a9 b0_tape b0_kept b0_draftGround b0_draftLaw b0_pack b0_pieces b0_thinning b1_marks b1_stroll g0_imageKept g0_wrongByte g1_drawSeed g2_ways g2_texts g7_lines g2_wallCount f3 f4 f5 f6 g7_size f9 g10_rows g10_columns f11 f12 f8 x3 x4 _ hw) (cwV 2 hts gX10_greatestOfPairs_X10_shortest rfl rfl rfl (by decide +kernel) ⟨Nat.le_of_ble_eq_true rfl, Nat.le_of_ble_eq_true rfl⟩) ⟨wPre_blind, va_recv hK hPc (ci := 10) (q0 := 0) rfl rfl, fun U hU hW => wPre_of hPc hK hDc hN hU hW⟩ rfl rfl hl.1 rfl (lv_room (Nat.le_of_ble_eq_true rfl)) dX10_greatestOfPairs_62 ⟨(Nat.zero_le _), (Nat.zero_le _)⟩) hS (fun q _ h => hFc q h) hFc (fun r7 u6 t H1 locs ht hvm hw hB hz1 hk1 hS => ?_)
          obtain ⟨hP1, hK1, hD1⟩ := hB
          rw [ht] at hP1
          obtain ⟨hP, hD⟩ := va_join (wr := pickW (ceX10_greatestOfPairs cyI cyB cyJ cyZ a0 a1 a2 a3 a4 a5 a6 a7 a8 a9 a10 a11 a12 b0_tape b0_kept b0_draftGround b0_draftLaw b0_pack b0_pieces b0_thinning b1_marks b1_stroll g0_imageKept g0_wrongByte g1_drawSeed g2_texts g7_lines g2_ways g2_wallCount f3 f4 f5 f6 g7_size f9 f8 g10_rows g10_columns f11 f12) []) (w1 := (ceX10_shortest cyI cyB cyJ cyZ a0 a10 a11 a12 a1 a2 a3 a4 a5 a6 a7 a8 a9 b0_tape b0_kept b0_draftGround b0_draftLaw b0_pack b0_pieces b0_thinning b1_marks b1_stroll g0_imageKept g0_wrongByte g1_drawSeed g2_ways g2_texts g7_lines g2_wallCount f3 f4 f5 f6 g7_size f9 u6.1 u6.2.1 u6.2.2.1 u6.2.2.2.1 u6.2.2.2.2)) hP hD [0, 10, 11, 12, 1, 2, 3, 4, 5, 6, 7, 8, 9] [] rfl rfl (by decide) (by decide) hk1 hFc hP1 hD1
          have hP := hP.sub (ws' := (ceX10_greatestOfPairs cyI cyB cyJ cyZ a0 a1 a2 a3 a4 a5 a6 a7 a8 a9 a10 a11 a12 b0_tape b0_kept b0_draftGround b0_draftLaw b0_pack b0_pieces b0_thinning b1_marks b1_stroll g0_imageKept g0_wrongByte g1_drawSeed g2_texts g7_lines g2_ways g2_wallCount f3 f4 f5 f6 g7_size f9 u6.2.2.2.2 u6.1 u6.2.1 u6.2.2.1 u6.2.2.2.1)) [0, 4, 5, 6, 7, 8, 9, 10, 11, 12, 1, 2, 3] rfl
          have hD := hD.sub (ws' := (ceX10_greatestOfPairs cyI cyB cyJ cyZ a0 a1 a2 a3 a4 a5 a6 a7 a8 a9 a10 a11 a12 b0_tape b0_kept b0_draftGround b0_draftLaw b0_pack b0_pieces b0_thinning b1_marks b1_stroll g0_imageKept g0_wrongByte g1_drawSeed g2_texts g7_lines g2_ways g2_wallCount f3 f4 f5 f6 g7_size f9 u6.2.2.2.2 u6.1 u6.2.1 u6.2.2.1 u6.2.2.2.1)) [0, 4, 5, 6, 7, 8, 9, 10, 11, 12, 1, 2, 3] (by decide) rfl
          generalize H1 = H at hP hS ⊢
          refine lv_istore (lv' := [(5, .int r7), (0, .ref a0), (1, .int x1), (2, .int x2), (3, .int x3), (4, .int x4)]) hx hb dX10_greatestOfPairs_65 hl (by decide) rfl (fun ls hl => ?_)
          refine lv_iload hx hb dX10_greatestOfPairs_67 (lv_at hl 0 rfl) ?_
          refine lv_iconst (v := (-1)) hx hb dX10_greatestOfPairs_69 (by decide) ?_
          refine lv_icmp_ne (tgt := 75) hx hb dX10_greatestOfPairs_70 (by decide) (fun hc => ?_) (fun hc => ?_)
          · have hw := hw.1 hc
            refine lv_iload_n hx hb dX10_greatestOfPairs_75 rfl (lv_at hl 3 rfl) ?_
            refine lv_iload hx hb dX10_greatestOfPairs_76 (lv_at hl 0 rfl) ?_
            refine va_mmax hx hb (hml.trans hl.1.symm) hown (hts (.methodLink RX10 337 Lib.Math.max.name) (List.mem_of_getElem? (i := 2) rfl)) (hts (.static Lib.Math.max.name) (List.mem_of_getElem? (i := 3) rfl)) (hts (.initialized "java/lang/Math") (List.mem_of_getElem? (i := 4) rfl)) (hts (.code Lib.Math.max.name Lib.Math.max.code 2 (some .int)) (List.mem_of_getElem? (i := 5) rfl)) (Nat.le_of_ble_eq_true rfl) (Nat.le_of_ble_eq_true rfl) (by decide) (by decide) dX10_greatestOfPairs_78 ?_
            refine lv_topi (fun v8 ev8 => ?_)
            have hw := hw v8 ev8
            refine lv_istore_n (lv' := [(2, .int v8), (5, .int r7), (0, .ref a0), (1, .int x1), (3, .int x3), (4, .int x4)]) hx hb dX10_greatestOfPairs_81 rfl hl (by decide) rfl (fun ls hl => ?_)
            exact bX10_greatestOfPairs_82 C0 hK hN hA hQ ih hk4 u6.2.2.2.2 u6.1 u6.2.1 u6.2.2.1 u6.2.2.2.1 x1 v8 x3 x4 hw _ _ hP hD hS ls (lv_sub hl [2, 3, 0, 4, 5] rfl)
          · have hw := hw.2 hc
            refine lv_iconst (v := (-1)) hx hb dX10_greatestOfPairs_73 (by decide) ?_
            rw [hQ]
            exact W.iret (v := (-1)) hx hb hr (fun t ht hW => ⟨⟨(-1), (u6.2.2.2.2, u6.1, u6.2.1, u6.2.2.1, u6.2.2.2.1), rfl, hw, by rw [ht]; exact hP, va_K.moved hW.alike hK, hD⟩, hS.F ht⟩) hS.2.2 dX10_greatestOfPairs_74
        · have hw := hw.2 hc
          refine lv_goto (tgt := 82) hx hb dX10_greatestOfPairs_55 (by decide) ?_
          exact bX10_greatestOfPairs_82 C0 hK hN hA hQ ih hk4 f8 g10_rows g10_columns f11 f12 x1 x2 x3 x4 hw _ _ hP hD hS ls (lv_sub hl [0, 1, 2, 3, 4] rfl)
set_option maxRecDepth 100000 in
set_option maxHeartbeats 4000000 in
theorem bX10_greatestOfPairs_4 {p : Program} {l : Launch} {e : Env} {s : State} {m : MethodId} {args : Array Value} {below : List Frame} {meth : Method} {c : Code} {dC : Nat → ClassId} {dI : Nat → Nat → Nat} {cyI cyB cyJ cyZ : ClassId} {A : Nat → Prop} {a0 a1 a2 a3 a4 a5 a6 a7 a8 a9 a10 a11 a12 b0_tape b0_kept b0_draftGround b0_draftLaw b0_pack b0_pieces b0_thinning b1_marks b1_stroll : Nat} {g0_imageKept : Int32} {g0_wrongByte : Int32} {g1_drawSeed : Int32} {g2_texts : Int32} {g7_lines : Int32} (C0 : cxM p s m meth c args wsX10_greatestOfPairs RX10 cX10_greatestOfPairs 6 (some .int)) (hK : va_K (dC, dI) vwCl (tyA cyI cyB cyJ cyZ) s) (hN : nwA s) (hA : ∀ q : Nat, s.heap.size ≤ q → A q) {post : Int32 → ((Nat → Int32) × Int32 × Int32 × (Nat → Int32) × (Nat → Int32)) → Prop} {g2_ways : Int32} {g2_wallCount : Int32} {f3 : Nat → Int32} {f4 : Nat → Int32} {f5 : Nat → Int32} {f6 : Nat → Int32} {g7_size : Int32} {f9 : Nat → Int32} {Q : State → Prop} (hQ : Q = MQ below (va_Qi post (fun u : (Nat → Int32) × Int32 × Int32 × (Nat → Int32) × (Nat → Int32) => wAt dC dI cyI cyB cyJ cyZ A (ceX10_greatestOfPairs cyI cyB cyJ cyZ a0 a1 a2 a3 a4 a5 a6 a7 a8 a9 a10 a11 a12 b0_tape b0_kept b0_draftGround b0_draftLaw b0_pack b0_pieces b0_thinning b1_marks b1_stroll g0_imageKept g0_wrongByte g1_drawSeed g2_texts g7_lines g2_ways g2_wallCount f3 f4 f5 f6 g7_size f9 u.1 u.2.1 u.2.2.1 u.2.2.2.1 u.2.2.2.2)) A) args s 0 0 A) : ∀ (n : Nat) (f8 : Nat → Int32) (g10_rows : Int32) (g10_columns : Int32) (f11 : Nat → Int32) (f12 : Nat → Int32) (x1 : Int32) (x2 : Int32) (x3 : Int32), wpX10_greatestOfPairs_4 post g2_ways g2_wallCount f3 f4 f5 f6 g7_size f9 n f8 g10_rows g10_columns f11 f12 x1 x2 x3 → AtW p l e rmX10_greatestOfPairs s m args below meth c dC dI A Q 6 0 0 (ceX10_greatestOfPairs cyI cyB cyJ cyZ a0 a1 a2 a3 a4 a5 a6 a7 a8 a9 a10 a11 a12 b0_tape b0_kept b0_draftGround b0_draftLaw b0_pack b0_pieces b0_thinning b1_marks b1_stroll g0_imageKept g0_wrongByte g1_drawSeed g2_texts g7_lines g2_ways g2_wallCount f3 f4 f5 f6 g7_size f9 f8 g10_rows g10_columns f11 f12) [(0, .ref a0), (1, .int x1), (2, .int x2), (3, .int x3)] 4 [] := by
  intro n
  induction n with
  | zero => intro f8 g10_rows g10_columns f11 f12 x1 x2 x3 hw; exact False.elim hw
  | succ n ih =>
    intro f8 g10_rows g10_columns f11 f12 x1 x2 x3 hw H locs hP hD hS ls hl
    have C1 := C0
    obtain ⟨hx, hb, hr, hml, hown, hts, hlocks⟩ := C1
    refine lv_iload_n hx hb dX10_greatestOfPairs_4 rfl (lv_at hl 3 rfl) ?_
    refine lv_aload_n hx hb dX10_greatestOfPairs_5 rfl (lv_at hl 0 rfl) ?_
    refine va_get (D := (dC, dI)) (ci := 10) (v := .ref a1) (C := RX10) (T := TX10) (N := 11) hx hb hts inX10_greatestOfPairs_X10 hown hK hP 0 rfl rfl 1 (by decide) (hts (.fieldLink RX10 19 "LeadPark" "scene" "LLeadPark$Scene;") (List.mem_of_getElem? (i := 1) rfl)) (fun _ h9 => h9) rfl dX10_greatestOfPairs_6 ?_
    refine va_getN (D := (dC, dI)) (ci := 6) (v := .ref a2) (C := RX6) (T := TX6) (N := 5) hx hb hts inX10_greatestOfPairs_X6 hown hK hP 1 rfl rfl 0 (by decide) (va_Nw.use rfl (hN _ (List.mem_of_getElem? (i := 29) rfl))) (fun _ h9 => h9) rfl dX10_greatestOfPairs_9 ?_
    refine va_getN (D := (dC, dI)) (ci := 1) (v := .int g2_ways) (C := RX1) (T := TX1) (N := 7) hx hb hts inX10_greatestOfPairs_X1 hown hK hP 2 rfl rfl 4 (by decide) (va_Nw.use rfl (hN _ (List.mem_of_getElem? (i := 9) rfl))) (fun _ h9 => h9) rfl dX10_greatestOfPairs_12 ?_
    refine lv_icmp_ge (tgt := 94) hx hb dX10_greatestOfPairs_15 (by decide) (fun hc => ?_) (fun hc => ?_)
    · have hw := hw.1 hc
      refine lv_iload_n hx hb dX10_greatestOfPairs_94 rfl (lv_at hl 2 rfl) ?_
      rw [hQ]
      exact W.iret (v := x2) hx hb hr (fun t ht hW => ⟨⟨x2, (f8, g10_rows, g10_columns, f11, f12), rfl, hw, by rw [ht]; exact hP, va_K.moved hW.alike hK, hD⟩, hS.F ht⟩) hS.2.2 dX10_greatestOfPairs_95
    · have hw := hw.2 hc
      refine lv_iload_n hx hb dX10_greatestOfPairs_18 rfl (lv_at hl 3 rfl) ?_
      refine lv_iconst (v := 1) hx hb dX10_greatestOfPairs_19 (by decide) ?_
      refine lv_iadd hx hb dX10_greatestOfPairs_20 ?_
      refine lv_topi (fun v1 ev1 => ?_)
      have hw := hw v1 ev1
      refine lv_istore (lv' := [(4, .int v1), (0, .ref a0), (1, .int x1), (2, .int x2), (3, .int x3)]) hx hb dX10_greatestOfPairs_21 hl (by decide) rfl (fun ls hl => ?_)
      obtain ⟨nn, hw⟩ := hw
      exact bX10_greatestOfPairs_23 C0 hK hN hA hQ ih nn f8 g10_rows g10_columns f11 f12 x1 x2 x3 v1 hw _ _ hP hD hS ls (lv_sub hl [1, 2, 3, 4, 0] rfl)
set_option maxRecDepth 100000 in
set_option maxHeartbeats 4000000 in
theorem ctX10_greatestOfPairs (l : Launch) (dC : Nat → ClassId) (dI : Nat → Nat → Nat) (cyI cyB cyJ cyZ : ClassId) (sz : Nat) (a0 a1 a2 a3 a4 a5 a6 a7 a8 a9 a10 a11 a12 b0_tape b0_kept b0_draftGround b0_draftLaw b0_pack b0_pieces b0_thinning b1_marks b1_stroll : Nat) (g0_imageKept : Int32) (g0_wrongByte : Int32) (g1_drawSeed : Int32) (g2_texts : Int32) (g7_lines : Int32) (g2_ways : Int32) (g2_wallCount : Int32) (f3 : Nat → Int32) (f4 : Nat → Int32) (f5 : Nat → Int32) (f6 : Nat → Int32) (g7_size : Int32) (f9 : Nat → Int32) (f8 : Nat → Int32) (g10_rows : Int32) (g10_columns : Int32) (f11 : Nat → Int32) (f12 : Nat → Int32) (p0 : Int32) (post : Int32 → ((Nat → Int32) × Int32 × Int32 × (Nat → Int32) × (Nat → Int32)) → Prop) (hw : wpX10_greatestOfPairs post g2_ways g2_wallCount f3 f4 f5 f6 g7_size f9 f8 g10_rows g10_columns f11 f12 p0) : Met l yX10_greatestOfPairs wsX10_greatestOfPairs rmX10_greatestOfPairs (va_Pc [.ref a0, .int p0] (wPre dC dI cyI cyB cyJ cyZ sz (ceX10_greatestOfPairs cyI cyB cyJ cyZ a0 a1 a2 a3 a4 a5 a6 a7 a8 a9 a10 a11 a12 b0_tape b0_kept b0_draftGround b0_draftLaw b0_pack b0_pieces b0_thinning b1_marks b1_stroll g0_imageKept g0_wrongByte g1_drawSeed g2_texts g7_lines g2_ways g2_wallCount f3 f4 f5 f6 g7_size f9 f8 g10_rows g10_columns f11 f12))) (va_Qi post (fun u : (Nat → Int32) × Int32 × Int32 × (Nat → Int32) × (Nat → Int32) => wAt dC dI cyI cyB cyJ cyZ (va_A (ceX10_greatestOfPairs cyI cyB cyJ cyZ a0 a1 a2 a3 a4 a5 a6 a7 a8 a9 a10 a11 a12 b0_tape b0_kept b0_draftGround b0_draftLaw b0_pack b0_pieces b0_thinning b1_marks b1_stroll g0_imageKept g0_wrongByte g1_drawSeed g2_texts g7_lines g2_ways g2_wallCount f3 f4 f5 f6 g7_size f9 f8 g10_rows g10_columns f11 f12) sz) (ceX10_greatestOfPairs cyI cyB cyJ cyZ a0 a1 a2 a3 a4 a5 a6 a7 a8 a9 a10 a11 a12 b0_tape b0_kept b0_draftGround b0_draftLaw b0_pack b0_pieces b0_thinning b1_marks b1_stroll g0_imageKept g0_wrongByte g1_drawSeed g2_texts g7_lines g2_ways g2_wallCount f3 f4 f5 f6 g7_size f9 u.1 u.2.1 u.2.2.1 u.2.2.2.1 u.2.2.2.2)) (va_A (ceX10_greatestOfPairs cyI cyB cyJ cyZ a0 a1 a2 a3 a4 a5 a6 a7 a8 a9 a10 a11 a12 b0_tape b0_kept b0_draftGround b0_draftLaw b0_pack b0_pieces b0_thinning b1_marks b1_stroll g0_imageKept g0_wrongByte g1_drawSeed g2_texts g7_lines g2_ways g2_wallCount f3 f4 f5 f6 g7_size f9 f8 g10_rows g10_columns f11 f12) sz)) 0 0 (va_A (ceX10_greatestOfPairs cyI cyB cyJ cyZ a0 a1 a2 a3 a4 a5 a6 a7 a8 a9 a10 a11 a12 b0_tape b0_kept b0_draftGround b0_draftLaw b0_pack b0_pieces b0_thinning b1_marks b1_stroll g0_imageKept g0_wrongByte g1_drawSeed g2_texts g7_lines g2_ways g2_wallCount f3 f4 f5 f6 g7_size f9 f8 g10_rows g10_columns f11 f12) sz) := by
  refine Met.ofW (cc := cX10_greatestOfPairs) (maxL := 6) (ret := (some .int)) (by decide) rfl ?_
  intro p e s m args below meth c s₁ B hml hv
  obtain ⟨rfl, hsz, hP, hK, hD0, hN⟩ := hv
  have hx := B.exec
  have hb := B.bytes
  have hr := B.returns
  have hts := atoms_spec (ws := wsX10_greatestOfPairs) B.pre
  have hown : s.vm.findClass RX10 = some m.cls := findClass_of_methodNamed B.named
  have hlocks := B.notSynchronized
  subst hsz
  have hD := hD0.self (sz := s.heap.size)
  generalize hAe : va_A (ceX10_greatestOfPairs cyI cyB cyJ cyZ a0 a1 a2 a3 a4 a5 a6 a7 a8 a9 a10 a11 a12 b0_tape b0_kept b0_draftGround b0_draftLaw b0_pack b0_pieces b0_thinning b1_marks b1_stroll g0_imageKept g0_wrongByte g1_drawSeed g2_texts g7_lines g2_ways g2_wallCount f3 f4 f5 f6 g7_size f9 f8 g10_rows g10_columns f11 f12) s.heap.size = A at hD ⊢
  have hA : ∀ q : Nat, s.heap.size ≤ q → A q := fun q h => by rw [← hAe]; exact Or.inr h
  have hS : va_S A s.heap s.heap [] := va_S.rf
  have C0 : cxM p s m meth c _ wsX10_greatestOfPairs RX10 cX10_greatestOfPairs 6 (some .int) := ⟨hx, hb, hr, hml, hown, hts, hlocks⟩
  have hl := lv_entry ([.ref a0, .int p0]) (n := 6) (Nat.le_of_ble_eq_true rfl)
  rw [lg_entry_eq]
  generalize (lg_sl ([.ref a0, .int p0]) ++ List.replicate (6 - (lg_sl ([.ref a0, .int p0])).length) Slot.unset).toArray = ls at hl ⊢
  have hl : lv_has ls 6 [(0, .ref a0), (1, .int p0)] := hl
  show W p l e rmX10_greatestOfPairs s m _ below meth c _ _ _ _ _ _
  refine wq (fun Q hQ => ?_)
  refine lv_iconst (v := 0) hx hb dX10_greatestOfPairs_0 (by decide) ?_
  refine lv_istore_n (lv' := [(2, .int 0), (0, .ref a0), (1, .int p0)]) hx hb dX10_greatestOfPairs_1 rfl hl (by decide) rfl (fun ls hl => ?_)
  refine lv_iconst (v := 0) hx hb dX10_greatestOfPairs_2 (by decide) ?_
  refine lv_istore_n (lv' := [(3, .int 0), (2, .int 0), (0, .ref a0), (1, .int p0)]) hx hb dX10_greatestOfPairs_3 rfl hl (by decide) rfl (fun ls hl => ?_)
  obtain ⟨nn, hw⟩ := hw
  exact bX10_greatestOfPairs_4 C0 hK hN hA hQ nn f8 g10_rows g10_columns f11 f12 p0 0 0 hw _ _ hP hD hS ls (lv_sub hl [2, 3, 1, 0] rfl)
/-! LeadPark.own (I)I -/
abbrev ceX10_own (cyI cyB cyJ cyZ : ClassId) (a0 a1 a2 a3 a4 a5 a6 a7 a8 a9 a10 a11 a12 b0_tape b0_kept b0_draftGround b0_draftLaw b0_pack b0_pieces b0_thinning b1_marks b1_stroll : Nat) (g0_imageKept : Int32) (g0_wrongByte : Int32) (g1_drawSeed : Int32) (g2_texts : Int32) (g7_lines : Int32) (g2_ways : Int32) (g2_wallCount : Int32) (f3 : Nat → Int32) (f4 : Nat → Int32) (f5 : Nat → Int32) (f6 : Nat → Int32) (g7_size : Int32) (f9 : Nat → Int32) (f8 : Nat → Int32) (g10_rows : Int32) (g10_columns : Int32) (f11 : Nat → Int32) (f12 : Nat → Int32) : va_W := [(a0, .inr (10, [.ref b0_tape, .ref a1, .ref b0_kept, .ref b0_draftGround, .ref b0_draftLaw, .ref a10, .ref b0_pack, .ref b0_pieces, .ref b0_thinning, .int g0_imageKept, .int g0_wrongByte])), (a1, .inr (6, [.ref a2, .ref a7, .ref b1_marks, .ref b1_stroll, .int g1_drawSeed])), (a2, .inr (1, [.ref a4, .ref a5, .ref a3, .ref a6, .int g2_ways, .int g2_wallCount, .int g2_texts])), (a3, .inl (cyI, 12, .inl f3)), (a4, .inl (cyI, 360, .inl f4)), (a5, .inl (cyI, 360, .inl f5)), (a6, .inl (cyI, 32, .inl f6)), (a7, .inr (2, [.ref a9, .ref a8, .int g7_size, .int g7_lines])), (a8, .inl (cyI, 7, .inl f8)), (a9, .inl (cyI, 400, .inl f9)), (a10, .inr (0, [.ref a11, .ref a12, .int g10_rows, .int g10_columns])), (a11, .inl (cyI, 1089, .inl f11)), (a12, .inl (cyI, 1089, .inl f12))]

abbrev rmX10_own : Room := { frames := 7, cells := 0, slots := 0, locals := 200 }
def wpX10_own (post : Int32 → ((Nat → Int32) × Int32 × Int32 × (Nat → Int32) × (Nat → Int32)) → Prop) (g2_ways : Int32) (g2_wallCount : Int32) (f3 : Nat → Int32) (f4 : Nat → Int32) (f5 : Nat → Int32) (f6 : Nat → Int32) (g7_size : Int32) (f9 : Nat → Int32) (f8 : Nat → Int32) (g10_rows : Int32) (g10_columns : Int32) (f11 : Nat → Int32) (f12 : Nat → Int32) (p0 : Int32) : Prop :=
  wpX10_greatestOfPairs (fun (r2 : Int32) (u1 : (Nat → Int32) × Int32 × Int32 × (Nat → Int32) × (Nat → Int32)) =>
   post r2 (u1.1, u1.2.1, u1.2.2.1, u1.2.2.2.1, u1.2.2.2.2)) g2_ways g2_wallCount f3 f4 f5 f6 g7_size f9 f8 g10_rows g10_columns f11 f12 p0
set_option maxRecDepth 100000 in
set_option maxHeartbeats 4000000 in
theorem ctX10_own (l : Launch) (dC : Nat → ClassId) (dI : Nat → Nat → Nat) (cyI cyB cyJ cyZ : ClassId) (sz : Nat) (a0 a1 a2 a3 a4 a5 a6 a7 a8 a9 a10 a11 a12 b0_tape b0_kept b0_draftGround b0_draftLaw b0_pack b0_pieces b0_thinning b1_marks b1_stroll : Nat) (g0_imageKept : Int32) (g0_wrongByte : Int32) (g1_drawSeed : Int32) (g2_texts : Int32) (g7_lines : Int32) (g2_ways : Int32) (g2_wallCount : Int32) (f3 : Nat → Int32) (f4 : Nat → Int32) (f5 : Nat → Int32) (f6 : Nat → Int32) (g7_size : Int32) (f9 : Nat → Int32) (f8 : Nat → Int32) (g10_rows : Int32) (g10_columns : Int32) (f11 : Nat → Int32) (f12 : Nat → Int32) (p0 : Int32) (post : Int32 → ((Nat → Int32) × Int32 × Int32 × (Nat → Int32) × (Nat → Int32)) → Prop) (hw : wpX10_own post g2_ways g2_wallCount f3 f4 f5 f6 g7_size f9 f8 g10_rows g10_columns f11 f12 p0) : Met l yX10_own wsX10_own rmX10_own (va_Pc [.ref a0, .int p0] (wPre dC dI cyI cyB cyJ cyZ sz (ceX10_own cyI cyB cyJ cyZ a0 a1 a2 a3 a4 a5 a6 a7 a8 a9 a10 a11 a12 b0_tape b0_kept b0_draftGround b0_draftLaw b0_pack b0_pieces b0_thinning b1_marks b1_stroll g0_imageKept g0_wrongByte g1_drawSeed g2_texts g7_lines g2_ways g2_wallCount f3 f4 f5 f6 g7_size f9 f8 g10_rows g10_columns f11 f12))) (va_Qi post (fun u : (Nat → Int32) × Int32 × Int32 × (Nat → Int32) × (Nat → Int32) => wAt dC dI cyI cyB cyJ cyZ (va_A (ceX10_own cyI cyB cyJ cyZ a0 a1 a2 a3 a4 a5 a6 a7 a8 a9 a10 a11 a12 b0_tape b0_kept b0_draftGround b0_draftLaw b0_pack b0_pieces b0_thinning b1_marks b1_stroll g0_imageKept g0_wrongByte g1_drawSeed g2_texts g7_lines g2_ways g2_wallCount f3 f4 f5 f6 g7_size f9 f8 g10_rows g10_columns f11 f12) sz) (ceX10_own cyI cyB cyJ cyZ a0 a1 a2 a3 a4 a5 a6 a7 a8 a9 a10 a11 a12 b0_tape b0_kept b0_draftGround b0_draftLaw b0_pack b0_pieces b0_thinning b1_marks b1_stroll g0_imageKept g0_wrongByte g1_drawSeed g2_texts g7_lines g2_ways g2_wallCount f3 f4 f5 f6 g7_size f9 u.1 u.2.1 u.2.2.1 u.2.2.2.1 u.2.2.2.2)) (va_A (ceX10_own cyI cyB cyJ cyZ a0 a1 a2 a3 a4 a5 a6 a7 a8 a9 a10 a11 a12 b0_tape b0_kept b0_draftGround b0_draftLaw b0_pack b0_pieces b0_thinning b1_marks b1_stroll g0_imageKept g0_wrongByte g1_drawSeed g2_texts g7_lines g2_ways g2_wallCount f3 f4 f5 f6 g7_size f9 f8 g10_rows g10_columns f11 f12) sz)) 0 0 (va_A (ceX10_own cyI cyB cyJ cyZ a0 a1 a2 a3 a4 a5 a6 a7 a8 a9 a10 a11 a12 b0_tape b0_kept b0_draftGround b0_draftLaw b0_pack b0_pieces b0_thinning b1_marks b1_stroll g0_imageKept g0_wrongByte g1_drawSeed g2_texts g7_lines g2_ways g2_wallCount f3 f4 f5 f6 g7_size f9 f8 g10_rows g10_columns f11 f12) sz) := by
  refine Met.ofW (cc := cX10_own) (maxL := 2) (ret := (some .int)) (by decide) rfl ?_
  intro p e s m args below meth c s₁ B hml hv
  obtain ⟨rfl, hsz, hP, hK, hD0, hN⟩ := hv
  have hx := B.exec
  have hb := B.bytes
  have hr := B.returns
  have hts := atoms_spec (ws := wsX10_own) B.pre
  have hown : s.vm.findClass RX10 = some m.cls := findClass_of_methodNamed B.named
  have hlocks := B.notSynchronized
  subst hsz
  have hD := hD0.self (sz := s.heap.size)
  generalize hAe : va_A (ceX10_own cyI cyB cyJ cyZ a0 a1 a2 a3 a4 a5 a6 a7 a8 a9 a10 a11 a12 b0_tape b0_kept b0_draftGround b0_draftLaw b0_pack b0_pieces b0_thinning b1_marks b1_stroll g0_imageKept g0_wrongByte g1_drawSeed g2_texts g7_lines g2_ways g2_wallCount f3 f4 f5 f6 g7_size f9 f8 g10_rows g10_columns f11 f12) s.heap.size = A at hD ⊢
  have hA : ∀ q : Nat, s.heap.size ≤ q → A q := fun q h => by rw [← hAe]; exact Or.inr h
  have hS : va_S A s.heap s.heap [] := va_S.rf
  have C0 : cxM p s m meth c _ wsX10_own RX10 cX10_own 2 (some .int) := ⟨hx, hb, hr, hml, hown, hts, hlocks⟩
  have hl := lv_entry ([.ref a0, .int p0]) (n := 2) (Nat.le_of_ble_eq_true rfl)
  rw [lg_entry_eq]
  generalize (lg_sl ([.ref a0, .int p0]) ++ List.replicate (2 - (lg_sl ([.ref a0, .int p0])).length) Slot.unset).toArray = ls at hl ⊢
  have hl : lv_has ls 2 [(0, .ref a0), (1, .int p0)] := hl
  show W p l e rmX10_own s m _ below meth c _ _ _ _ _ _
  refine wq (fun Q hQ => ?_)
  refine lv_aload_n hx hb dX10_own_0 rfl (lv_at hl 0 rfl) ?_
  refine lv_iload_n hx hb dX10_own_1 rfl (lv_at hl 1 rfl) ?_
  have hPc := hP.sub (ws' := (ceX10_greatestOfPairs cyI cyB cyJ cyZ a0 a1 a2 a3 a4 a5 a6 a7 a8 a9 a10 a11 a12 b0_tape b0_kept b0_draftGround b0_draftLaw b0_pack b0_pieces b0_thinning b1_marks b1_stroll g0_imageKept g0_wrongByte g1_drawSeed g2_texts g7_lines g2_ways g2_wallCount f3 f4 f5 f6 g7_size f9 f8 g10_rows g10_columns f11 f12)) [0, 1, 2, 3, 4, 5, 6, 7, 8, 9, 10, 11, 12] rfl
  have hDc := hD.sub (ws' := (ceX10_greatestOfPairs cyI cyB cyJ cyZ a0 a1 a2 a3 a4 a5 a6 a7 a8 a9 a10 a11 a12 b0_tape b0_kept b0_draftGround b0_draftLaw b0_pack b0_pieces b0_thinning b1_marks b1_stroll g0_imageKept g0_wrongByte g1_drawSeed g2_texts g7_lines g2_ways g2_wallCount f3 f4 f5 f6 g7_size f9 f8 g10_rows g10_columns f11 f12)) [0, 1, 2, 3, 4, 5, 6, 7, 8, 9, 10, 11, 12] (by decide) rfl
  have hFc := va_free (wc := (ceX10_greatestOfPairs cyI cyB cyJ cyZ a0 a1 a2 a3 a4 a5 a6 a7 a8 a9 a10 a11 a12 b0_tape b0_kept b0_draftGround b0_draftLaw b0_pack b0_pieces b0_thinning b1_marks b1_stroll g0_imageKept g0_wrongByte g1_drawSeed g2_texts g7_lines g2_ways g2_wallCount f3 f4 f5 f6 g7_size f9 f8 g10_rows g10_columns f11 f12)) hD hS hA [0, 1, 2, 3, 4, 5, 6, 7, 8, 9, 10, 11, 12] rfl
  refine va_calli (va_runV (As := [.int p0]) (rest := []) ⟨hx, hb, hml, hown, hts⟩ (ctX10_greatestOfPairs l dC dI cyI cyB cyJ cyZ _ a0 a1 a2 a3 a4 a5 a6 a7 a8 a9 a10 a11 a12 b0_tape b0_kept b0_draftGround b0_draftLaw b0_pack b0_pieces b0_thinning b1_marks b1_stroll g0_imageKept g0_wrongByte g1_drawSeed g2_texts g7_lines g2_ways g2_wallCount f3 f4 f5 f6 g7_size f9 f8 g10_rows g10_columns f11 f12 p0 _ hw) (cwV 1 hts gX10_own_X10_greatestOfPairs rfl rfl rfl (by decide +kernel) ⟨Nat.le_of_ble_eq_true rfl, Nat.le_of_ble_eq_true rfl⟩) ⟨wPre_blind, va_recv hK hPc (ci := 10) (q0 := 0) rfl rfl, fun U hU hW => wPre_of hPc hK hDc hN hU hW⟩ rfl rfl hl.1 rfl (lv_room (Nat.le_of_ble_eq_true rfl)) dX10_own_2 ⟨(Nat.zero_le _), (Nat.zero_le _)⟩) hS (fun q _ h => hFc q h) hFc (fun r2 u1 t H1 locs ht hvm hw hB hz1 hk1 hS => ?_)
  obtain ⟨hP1, hK1, hD1⟩ := hB
  rw [ht] at hP1
  obtain ⟨hP, hD⟩ := va_join (wr := pickW (ceX10_own cyI cyB cyJ cyZ a0 a1 a2 a3 a4 a5 a6 a7 a8 a9 a10 a11 a12 b0_tape b0_kept b0_draftGround b0_draftLaw b0_pack b0_pieces b0_thinning b1_marks b1_stroll g0_imageKept g0_wrongByte g1_drawSeed g2_texts g7_lines g2_ways g2_wallCount f3 f4 f5 f6 g7_size f9 f8 g10_rows g10_columns f11 f12) []) (w1 := (ceX10_greatestOfPairs cyI cyB cyJ cyZ a0 a1 a2 a3 a4 a5 a6 a7 a8 a9 a10 a11 a12 b0_tape b0_kept b0_draftGround b0_draftLaw b0_pack b0_pieces b0_thinning b1_marks b1_stroll g0_imageKept g0_wrongByte g1_drawSeed g2_texts g7_lines g2_ways g2_wallCount f3 f4 f5 f6 g7_size f9 u1.1 u1.2.1 u1.2.2.1 u1.2.2.2.1 u1.2.2.2.2)) hP hD [0, 1, 2, 3, 4, 5, 6, 7, 8, 9, 10, 11, 12] [] rfl rfl (by decide) (by decide) hk1 hFc hP1 hD1
  have hP := hP.sub (ws' := (ceX10_own cyI cyB cyJ cyZ a0 a1 a2 a3 a4 a5 a6 a7 a8 a9 a10 a11 a12 b0_tape b0_kept b0_draftGround b0_draftLaw b0_pack b0_pieces b0_thinning b1_marks b1_stroll g0_imageKept g0_wrongByte g1_drawSeed g2_texts g7_lines g2_ways g2_wallCount f3 f4 f5 f6 g7_size f9 u1.1 u1.2.1 u1.2.2.1 u1.2.2.2.1 u1.2.2.2.2)) [0, 1, 2, 3, 4, 5, 6, 7, 8, 9, 10, 11, 12] rfl
  have hD := hD.sub (ws' := (ceX10_own cyI cyB cyJ cyZ a0 a1 a2 a3 a4 a5 a6 a7 a8 a9 a10 a11 a12 b0_tape b0_kept b0_draftGround b0_draftLaw b0_pack b0_pieces b0_thinning b1_marks b1_stroll g0_imageKept g0_wrongByte g1_drawSeed g2_texts g7_lines g2_ways g2_wallCount f3 f4 f5 f6 g7_size f9 u1.1 u1.2.1 u1.2.2.1 u1.2.2.2.1 u1.2.2.2.2)) [0, 1, 2, 3, 4, 5, 6, 7, 8, 9, 10, 11, 12] (by decide) rfl
  generalize H1 = H at hP hS ⊢
  rw [hQ]
  exact W.iret (v := r2) hx hb hr (fun t ht hW => ⟨⟨r2, (u1.1, u1.2.1, u1.2.2.1, u1.2.2.2.1, u1.2.2.2.2), rfl, hw, by rw [ht]; exact hP, va_K.moved hW.alike hK, hD⟩, hS.F ht⟩) hS.2.2 dX10_own_5
/-! LeadPark.forged (II)Z -/
abbrev ceX10_forged (cyI cyB cyJ cyZ : ClassId) (a0 a1 a2 a3 a4 a5 a6 a7 a8 a9 a10 a11 a12 b0_tape b0_kept b0_draftGround b0_draftLaw b0_pack b0_pieces b0_thinning b1_marks b1_stroll : Nat) (g0_imageKept : Int32) (g0_wrongByte : Int32) (g1_drawSeed : Int32) (g2_texts : Int32) (g7_lines : Int32) (g2_ways : Int32) (g2_wallCount : Int32) (f3 : Nat → Int32) (f4 : Nat → Int32) (f5 : Nat → Int32) (f6 : Nat → Int32) (g7_size : Int32) (f9 : Nat → Int32) (f8 : Nat → Int32) (g10_rows : Int32) (g10_columns : Int32) (f11 : Nat → Int32) (f12 : Nat → Int32) : va_W := [(a0, .inr (10, [.ref b0_tape, .ref a1, .ref b0_kept, .ref b0_draftGround, .ref b0_draftLaw, .ref a10, .ref b0_pack, .ref b0_pieces, .ref b0_thinning, .int g0_imageKept, .int g0_wrongByte])), (a1, .inr (6, [.ref a2, .ref a7, .ref b1_marks, .ref b1_stroll, .int g1_drawSeed])), (a2, .inr (1, [.ref a4, .ref a5, .ref a3, .ref a6, .int g2_ways, .int g2_wallCount, .int g2_texts])), (a3, .inl (cyI, 12, .inl f3)), (a4, .inl (cyI, 360, .inl f4)), (a5, .inl (cyI, 360, .inl f5)), (a6, .inl (cyI, 32, .inl f6)), (a7, .inr (2, [.ref a9, .ref a8, .int g7_size, .int g7_lines])), (a8, .inl (cyI, 7, .inl f8)), (a9, .inl (cyI, 400, .inl f9)), (a10, .inr (0, [.ref a11, .ref a12, .int g10_rows, .int g10_columns])), (a11, .inl (cyI, 1089, .inl f11)), (a12, .inl (cyI, 1089, .inl f12))]

abbrev rmX10_forged : Room := { frames := 7, cells := 1, slots := 6, locals := 201 }
def wpX10_forged (post : Int32 → ((Nat → Int32) × Int32 × Int32 × (Nat → Int32) × (Nat → Int32)) → Prop) (postX : String → ((Nat → Int32) × Int32 × Int32 × (Nat → Int32) × (Nat → Int32)) → Prop) (g2_ways : Int32) (g2_wallCount : Int32) (f3 : Nat → Int32) (f4 : Nat → Int32) (f5 : Nat → Int32) (f6 : Nat → Int32) (g7_size : Int32) (f9 : Nat → Int32) (f8 : Nat → Int32) (g10_rows : Int32) (g10_columns : Int32) (f11 : Nat → Int32) (f12 : Nat → Int32) (p0 : Int32) (p1 : Int32) : Prop :=
  wpX10_needWay (fun (u1 : Unit) =>
   wpX10_greatestOfPairs (fun (r3 : Int32) (u2 : (Nat → Int32) × Int32 × Int32 × (Nat → Int32) × (Nat → Int32)) =>
    wpX10_nearestOf (fun (r5 : Int32) (u4 : (Nat → Int32) × Int32 × Int32 × (Nat → Int32) × (Nat → Int32)) =>
     (r3 = (-1) →
      post 1 (u4.1, u4.2.1, u4.2.2.1, u4.2.2.2.1, u4.2.2.2.2)) ∧
     (¬ r3 = (-1) →
      (r5 = (-1) →
       post 1 (u4.1, u4.2.1, u4.2.2.1, u4.2.2.2.1, u4.2.2.2.2)) ∧
      (¬ r5 = (-1) →
       wpX10_shortest (fun (r7 : Int32) (u6 : Int32 × Int32 × (Nat → Int32) × (Nat → Int32) × (Nat → Int32)) =>
        (r7 ≤ r3 →
         post 0 (u6.2.2.2.2, u6.1, u6.2.1, u6.2.2.1, u6.2.2.2.1)) ∧
        (¬ r7 ≤ r3 →
         post 1 (u6.2.2.2.2, u6.1, u6.2.1, u6.2.2.1, u6.2.2.2.1))) g2_wallCount f3 f4 f5 f6 g7_size f9 u4.2.1 u4.2.2.1 u4.2.2.2.1 u4.2.2.2.2 u4.1 p0 r5))) g2_ways g2_wallCount f3 f4 f5 f6 g7_size f9 u2.1 u2.2.1 u2.2.2.1 u2.2.2.2.1 u2.2.2.2.2 p0 p1) g2_ways g2_wallCount f3 f4 f5 f6 g7_size f9 f8 g10_rows g10_columns f11 f12 p1) (fun (E : String) (u1 : Unit) => postX E (f8, g10_rows, g10_columns, f11, f12)) g2_ways p0
set_option maxRecDepth 100000 in
set_option maxHeartbeats 4000000 in
theorem ctX10_forged (l : Launch) (hl0 : l.stackTraces = false) (dC : Nat → ClassId) (dI : Nat → Nat → Nat) (cyI cyB cyJ cyZ : ClassId) (sz : Nat) (a0 a1 a2 a3 a4 a5 a6 a7 a8 a9 a10 a11 a12 b0_tape b0_kept b0_draftGround b0_draftLaw b0_pack b0_pieces b0_thinning b1_marks b1_stroll : Nat) (g0_imageKept : Int32) (g0_wrongByte : Int32) (g1_drawSeed : Int32) (g2_texts : Int32) (g7_lines : Int32) (g2_ways : Int32) (g2_wallCount : Int32) (f3 : Nat → Int32) (f4 : Nat → Int32) (f5 : Nat → Int32) (f6 : Nat → Int32) (g7_size : Int32) (f9 : Nat → Int32) (f8 : Nat → Int32) (g10_rows : Int32) (g10_columns : Int32) (f11 : Nat → Int32) (f12 : Nat → Int32) (p0 : Int32) (p1 : Int32) (post : Int32 → ((Nat → Int32) × Int32 × Int32 × (Nat → Int32) × (Nat → Int32)) → Prop) (postX : String → ((Nat → Int32) × Int32 × Int32 × (Nat → Int32) × (Nat → Int32)) → Prop) (adS : Nat → Nat) (hw : wpX10_forged post postX g2_ways g2_wallCount f3 f4 f5 f6 g7_size f9 f8 g10_rows g10_columns f11 f12 p0 p1) : vx_Met l yX10_forged wsX10_forged rmX10_forged (va_Pc [.ref a0, .int p0, .int p1] (wPreX dC dI cyI cyB cyJ cyZ sz (ceX10_forged cyI cyB cyJ cyZ a0 a1 a2 a3 a4 a5 a6 a7 a8 a9 a10 a11 a12 b0_tape b0_kept b0_draftGround b0_draftLaw b0_pack b0_pieces b0_thinning b1_marks b1_stroll g0_imageKept g0_wrongByte g1_drawSeed g2_texts g7_lines g2_ways g2_wallCount f3 f4 f5 f6 g7_size f9 f8 g10_rows g10_columns f11 f12) (txT adS))) (va_Qi post (fun u : (Nat → Int32) × Int32 × Int32 × (Nat → Int32) × (Nat → Int32) => wAt dC dI cyI cyB cyJ cyZ (va_A (ceX10_forged cyI cyB cyJ cyZ a0 a1 a2 a3 a4 a5 a6 a7 a8 a9 a10 a11 a12 b0_tape b0_kept b0_draftGround b0_draftLaw b0_pack b0_pieces b0_thinning b1_marks b1_stroll g0_imageKept g0_wrongByte g1_drawSeed g2_texts g7_lines g2_ways g2_wallCount f3 f4 f5 f6 g7_size f9 f8 g10_rows g10_columns f11 f12) sz) (ceX10_forged cyI cyB cyJ cyZ a0 a1 a2 a3 a4 a5 a6 a7 a8 a9 a10 a11 a12 b0_tape b0_kept b0_draftGround b0_draftLaw b0_pack b0_pieces b0_thinning b1_marks b1_stroll g0_imageKept g0_wrongByte g1_drawSeed g2_texts g7_lines g2_ways g2_wallCount f3 f4 f5 f6 g7_size f9 u.1 u.2.1 u.2.2.1 u.2.2.2.1 u.2.2.2.2)) (va_A (ceX10_forged cyI cyB cyJ cyZ a0 a1 a2 a3 a4 a5 a6 a7 a8 a9 a10 a11 a12 b0_tape b0_kept b0_draftGround b0_draftLaw b0_pack b0_pieces b0_thinning b1_marks b1_stroll g0_imageKept g0_wrongByte g1_drawSeed g2_texts g7_lines g2_ways g2_wallCount f3 f4 f5 f6 g7_size f9 f8 g10_rows g10_columns f11 f12) sz)) (vx_X (fun _ : (Nat → Int32) × Int32 × Int32 × (Nat → Int32) × (Nat → Int32) => True) (fun E (u : (Nat → Int32) × Int32 × Int32 × (Nat → Int32) × (Nat → Int32)) t => postX E u ∧ wAt dC dI cyI cyB cyJ cyZ (va_A (ceX10_forged cyI cyB cyJ cyZ a0 a1 a2 a3 a4 a5 a6 a7 a8 a9 a10 a11 a12 b0_tape b0_kept b0_draftGround b0_draftLaw b0_pack b0_pieces b0_thinning b1_marks b1_stroll g0_imageKept g0_wrongByte g1_drawSeed g2_texts g7_lines g2_ways g2_wallCount f3 f4 f5 f6 g7_size f9 f8 g10_rows g10_columns f11 f12) sz) (ceX10_forged cyI cyB cyJ cyZ a0 a1 a2 a3 a4 a5 a6 a7 a8 a9 a10 a11 a12 b0_tape b0_kept b0_draftGround b0_draftLaw b0_pack b0_pieces b0_thinning b1_marks b1_stroll g0_imageKept g0_wrongByte g1_drawSeed g2_texts g7_lines g2_ways g2_wallCount f3 f4 f5 f6 g7_size f9 u.1 u.2.1 u.2.2.1 u.2.2.2.1 u.2.2.2.2) t) (va_A (ceX10_forged cyI cyB cyJ cyZ a0 a1 a2 a3 a4 a5 a6 a7 a8 a9 a10 a11 a12 b0_tape b0_kept b0_draftGround b0_draftLaw b0_pack b0_pieces b0_thinning b1_marks b1_stroll g0_imageKept g0_wrongByte g1_drawSeed g2_texts g7_lines g2_ways g2_wallCount f3 f4 f5 f6 g7_size f9 f8 g10_rows g10_columns f11 f12) sz)) 1 6 (va_A (ceX10_forged cyI cyB cyJ cyZ a0 a1 a2 a3 a4 a5 a6 a7 a8 a9 a10 a11 a12 b0_tape b0_kept b0_draftGround b0_draftLaw b0_pack b0_pieces b0_thinning b1_marks b1_stroll g0_imageKept g0_wrongByte g1_drawSeed g2_texts g7_lines g2_ways g2_wallCount f3 f4 f5 f6 g7_size f9 f8 g10_rows g10_columns f11 f12) sz) := by
  refine vx_ofW (cc := cX10_forged) (maxL := 5) (ret := (some .boolean)) (by decide) rfl ?_
  intro p e s m args below meth c s₁ B hml hT hv
  obtain ⟨rfl, ⟨hsz, hP, hK, hD0, hN⟩, hXs⟩ := hv
  have hx := B.exec
  have hb := B.bytes
  have hr := B.returns
  have hts := atoms_spec (ws := wsX10_forged) B.pre
  have hown : s.vm.findClass RX10 = some m.cls := findClass_of_methodNamed B.named
  have hlocks := B.notSynchronized
  subst hsz
  have hD := hD0.self (sz := s.heap.size)
  generalize hAe : va_A (ceX10_forged cyI cyB cyJ cyZ a0 a1 a2 a3 a4 a5 a6 a7 a8 a9 a10 a11 a12 b0_tape b0_kept b0_draftGround b0_draftLaw b0_pack b0_pieces b0_thinning b1_marks b1_stroll g0_imageKept g0_wrongByte g1_drawSeed g2_texts g7_lines g2_ways g2_wallCount f3 f4 f5 f6 g7_size f9 f8 g10_rows g10_columns f11 f12) s.heap.size = A at hD hXs ⊢
  have hA : ∀ q : Nat, s.heap.size ≤ q → A q := fun q h => by rw [← hAe]; exact Or.inr h
  have hS : va_S A s.heap s.heap [] := va_S.rf
  have C0 : cxM p s m meth c _ wsX10_forged RX10 cX10_forged 5 (some .boolean) := ⟨hx, hb, hr, hml, hown, hts, hlocks⟩
  have hl := lv_entry ([.ref a0, .int p0, .int p1]) (n := 5) (Nat.le_of_ble_eq_true rfl)
  rw [lg_entry_eq]
  generalize (lg_sl ([.ref a0, .int p0, .int p1]) ++ List.replicate (5 - (lg_sl ([.ref a0, .int p0, .int p1])).length) Slot.unset).toArray = ls at hl ⊢
  have hl : lv_has ls 5 [(0, .ref a0), (1, .int p0), (2, .int p1)] := hl
  show W p l e rmX10_forged s m _ below meth c _ _ _ _ _ _
  refine wq (fun Q hQ => ?_)
  refine lv_aload_n hx hb dX10_forged_0 rfl (lv_at hl 0 rfl) ?_
  refine lv_iload_n hx hb dX10_forged_1 rfl (lv_at hl 1 rfl) ?_
  have hPc := hP.sub (ws' := (ceX10_needWay cyI cyB cyJ cyZ a0 a1 a2 b0_tape b0_kept b0_draftGround b0_draftLaw a10 b0_pack b0_pieces b0_thinning a7 b1_marks b1_stroll a4 a5 a3 a6 g0_imageKept g0_wrongByte g1_drawSeed g2_wallCount g2_texts g2_ways)) [0, 1, 2] rfl
  have hDc := hD.sub (ws' := (ceX10_needWay cyI cyB cyJ cyZ a0 a1 a2 b0_tape b0_kept b0_draftGround b0_draftLaw a10 b0_pack b0_pieces b0_thinning a7 b1_marks b1_stroll a4 a5 a3 a6 g0_imageKept g0_wrongByte g1_drawSeed g2_wallCount g2_texts g2_ways)) [0, 1, 2] (by decide) rfl
  have hFc := va_free (wc := (ceX10_needWay cyI cyB cyJ cyZ a0 a1 a2 b0_tape b0_kept b0_draftGround b0_draftLaw a10 b0_pack b0_pieces b0_thinning a7 b1_marks b1_stroll a4 a5 a3 a6 g0_imageKept g0_wrongByte g1_drawSeed g2_wallCount g2_texts g2_ways)) hD hS hA [0, 1, 2] rfl
  refine vx_callv (vx_runV (As := [.int p0]) (rest := []) ⟨hx, hb, hml, hown, hts⟩ (ctX10_needWay l hl0 dC dI cyI cyB cyJ cyZ _ a0 a1 a2 b0_tape b0_kept b0_draftGround b0_draftLaw a10 b0_pack b0_pieces b0_thinning a7 b1_marks b1_stroll a4 a5 a3 a6 g0_imageKept g0_wrongByte g1_drawSeed g2_wallCount g2_texts g2_ways p0 _ _ adS hw) (cwV 1 hts gX10_forged_X10_needWay rfl rfl rfl (by decide +kernel) ⟨Nat.le_of_ble_eq_true rfl, Nat.le_of_ble_eq_true rfl⟩) ⟨wPreX_blind (xOk_txT adS), va_recv hK hPc (ci := 10) (q0 := 0) rfl rfl, fun U hU hW => wPreX_of (xOk_txT adS) hPc hK hDc hN hXs hS hFc hU hW⟩ rfl rfl hl.1 rfl (lv_room (Nat.le_of_ble_eq_true rfl)) dX10_forged_2 ⟨(by decide), (by decide)⟩) hS (fun q _ h => hFc q h) hFc (fun q _ h => hFc q h) (fun E ce q9 u1 t H1 locs ht hvm hpx hBX hz1 hk1 hS hce hcv hcl => ?_) (fun u1 t H1 locs ht hvm hw hB hz1 hk1 hS => ?_)
  · obtain ⟨hw, hP1, hK1, hD1⟩ := hBX
    rw [ht] at hP1
    obtain ⟨hP, hD⟩ := va_join (wr := pickW (ceX10_forged cyI cyB cyJ cyZ a0 a1 a2 a3 a4 a5 a6 a7 a8 a9 a10 a11 a12 b0_tape b0_kept b0_draftGround b0_draftLaw b0_pack b0_pieces b0_thinning b1_marks b1_stroll g0_imageKept g0_wrongByte g1_drawSeed g2_texts g7_lines g2_ways g2_wallCount f3 f4 f5 f6 g7_size f9 f8 g10_rows g10_columns f11 f12) [3, 4, 5, 6, 7, 8, 9, 10, 11, 12]) (w1 := (ceX10_needWay cyI cyB cyJ cyZ a0 a1 a2 b0_tape b0_kept b0_draftGround b0_draftLaw a10 b0_pack b0_pieces b0_thinning a7 b1_marks b1_stroll a4 a5 a3 a6 g0_imageKept g0_wrongByte g1_drawSeed g2_wallCount g2_texts g2_ways)) hP hD [0, 1, 2] [3, 4, 5, 6, 7, 8, 9, 10, 11, 12] rfl rfl (by decide) (by decide) hk1 hFc hP1 hD1
    have hP := hP.sub (ws' := (ceX10_forged cyI cyB cyJ cyZ a0 a1 a2 a3 a4 a5 a6 a7 a8 a9 a10 a11 a12 b0_tape b0_kept b0_draftGround b0_draftLaw b0_pack b0_pieces b0_thinning b1_marks b1_stroll g0_imageKept g0_wrongByte g1_drawSeed g2_texts g7_lines g2_ways g2_wallCount f3 f4 f5 f6 g7_size f9 f8 g10_rows g10_columns f11 f12)) [10, 11, 12, 0, 1, 2, 3, 4, 5, 6, 7, 8, 9] rfl
    have hD := hD.sub (ws' := (ceX10_forged cyI cyB cyJ cyZ a0 a1 a2 a3 a4 a5 a6 a7 a8 a9 a10 a11 a12 b0_tape b0_kept b0_draftGround b0_draftLaw b0_pack b0_pieces b0_thinning b1_marks b1_stroll g0_imageKept g0_wrongByte g1_drawSeed g2_texts g7_lines g2_ways g2_wallCount f3 f4 f5 f6 g7_size f9 f8 g10_rows g10_columns f11 f12)) [10, 11, 12, 0, 1, 2, 3, 4, 5, 6, 7, 8, 9] (by decide) rfl
    rw [hQ]
    exact vx_widen (k := 1) (n := 6) (by decide) (by decide) (vx_out (fun x h => (hT x h).elim) hlocks hce hcv hcl (fun t9 ht9 hvm9 => ⟨(f8, g10_rows, g10_columns, f11, f12), trivial, ⟨hw, by rw [ht9]; exact hP, va_K.moved hvm9 hK, hD⟩, hS.F ht9⟩) hS.2.2 (by decide) (by decide))
  -- returned
  obtain ⟨hP1, hK1, hD1⟩ := hB
  rw [ht] at hP1
  obtain ⟨hP, hD⟩ := va_join (wr := pickW (ceX10_forged cyI cyB cyJ cyZ a0 a1 a2 a3 a4 a5 a6 a7 a8 a9 a10 a11 a12 b0_tape b0_kept b0_draftGround b0_draftLaw b0_pack b0_pieces b0_thinning b1_marks b1_stroll g0_imageKept g0_wrongByte g1_drawSeed g2_texts g7_lines g2_ways g2_wallCount f3 f4 f5 f6 g7_size f9 f8 g10_rows g10_columns f11 f12) [3, 4, 5, 6, 7, 8, 9, 10, 11, 12]) (w1 := (ceX10_needWay cyI cyB cyJ cyZ a0 a1 a2 b0_tape b0_kept b0_draftGround b0_draftLaw a10 b0_pack b0_pieces b0_thinning a7 b1_marks b1_stroll a4 a5 a3 a6 g0_imageKept g0_wrongByte g1_drawSeed g2_wallCount g2_texts g2_ways)) hP hD [0, 1, 2] [3, 4, 5, 6, 7, 8, 9, 10, 11, 12] rfl rfl (by decide) (by decide) hk1 hFc hP1 hD1
  have hP := hP.sub (ws' := (ceX10_forged cyI cyB cyJ cyZ a0 a1 a2 a3 a4 a5 a6 a7 a8 a9 a10 a11 a12 b0_tape b0_kept b0_draftGround b0_draftLaw b0_pack b0_pieces b0_thinning b1_marks b1_stroll g0_imageKept g0_wrongByte g1_drawSeed g2_texts g7_lines g2_ways g2_wallCount f3 f4 f5 f6 g7_size f9 f8 g10_rows g10_columns f11 f12)) [10, 11, 12, 0, 1, 2, 3, 4, 5, 6, 7, 8, 9] rfl
  have hD := hD.sub (ws' := (ceX10_forged cyI cyB cyJ cyZ a0 a1 a2 a3 a4 a5 a6 a7 a8 a9 a10 a11 a12 b0_tape b0_kept b0_draftGround b0_draftLaw b0_pack b0_pieces b0_thinning b1_marks b1_stroll g0_imageKept g0_wrongByte g1_drawSeed g2_texts g7_lines g2_ways g2_wallCount f3 f4 f5 f6 g7_size f9 f8 g10_rows g10_columns f11 f12)) [10, 11, 12, 0, 1, 2, 3, 4, 5, 6, 7, 8, 9] (by decide) rfl
  generalize H1 = H at hP hS ⊢
  refine W.widen (k := 1) (n := 6) (by decide) (by decide) ?_
  refine lv_aload_n hx hb dX10_forged_5 rfl (lv_at hl 0 rfl) ?_
  refine lv_iload_n hx hb dX10_forged_6 rfl (lv_at hl 2 rfl) ?_
  have hPc := hP.sub (ws' := (ceX10_greatestOfPairs cyI cyB cyJ cyZ a0 a1 a2 a3 a4 a5 a6 a7 a8 a9 a10 a11 a12 b0_tape b0_kept b0_draftGround b0_draftLaw b0_pack b0_pieces b0_thinning b1_marks b1_stroll g0_imageKept g0_wrongByte g1_drawSeed g2_texts g7_lines g2_ways g2_wallCount f3 f4 f5 f6 g7_size f9 f8 g10_rows g10_columns f11 f12)) [0, 1, 2, 3, 4, 5, 6, 7, 8, 9, 10, 11, 12] rfl
  have hDc := hD.sub (ws' := (ceX10_greatestOfPairs cyI cyB cyJ cyZ a0 a1 a2 a3 a4 a5 a6 a7 a8 a9 a10 a11 a12 b0_tape b0_kept b0_draftGround b0_draftLaw b0_pack b0_pieces b0_thinning b1_marks b1_stroll g0_imageKept g0_wrongByte g1_drawSeed g2_texts g7_lines g2_ways g2_wallCount f3 f4 f5 f6 g7_size f9 f8 g10_rows g10_columns f11 f12)) [0, 1, 2, 3, 4, 5, 6, 7, 8, 9, 10, 11, 12] (by decide) rfl
  have hFc := va_free (wc := (ceX10_greatestOfPairs cyI cyB cyJ cyZ a0 a1 a2 a3 a4 a5 a6 a7 a8 a9 a10 a11 a12 b0_tape b0_kept b0_draftGround b0_draftLaw b0_pack b0_pieces b0_thinning b1_marks b1_stroll g0_imageKept g0_wrongByte g1_drawSeed g2_texts g7_lines g2_ways g2_wallCount f3 f4 f5 f6 g7_size f9 f8 g10_rows g10_columns f11 f12)) hD hS hA [0, 1, 2, 3, 4, 5, 6, 7, 8, 9, 10, 11, 12] rfl
  refine va_calli (va_runV (As := [.int p1]) (rest := []) ⟨hx, hb, hml, hown, hts⟩ (ctX10_greatestOfPairs l dC dI cyI cyB cyJ cyZ _ a0 a1 a2 a3 a4 a5 a6 a7 a8 a9 a10 a11 a12 b0_tape b0_kept b0_draftGround b0_draftLaw b0_pack b0_pieces b0_thinning b1_marks b1_stroll g0_imageKept g0_wrongByte g1_drawSeed g2_texts g7_lines g2_ways g2_wallCount f3 f4 f5 f6 g7_size f9 f8 g10_rows g10_columns f11 f12 p1 _ hw) (cwV 1 hts gX10_forged_X10_greatestOfPairs rfl rfl rfl (by decide +kernel) ⟨Nat.le_of_ble_eq_true rfl, Nat.le_of_ble_eq_true rfl⟩) ⟨wPre_blind, va_recv hK hPc (ci := 10) (q0 := 0) rfl rfl, fun U hU hW => wPre_of hPc hK hDc hN hU hW⟩ rfl rfl hl.1 rfl (lv_room (Nat.le_of_ble_eq_true rfl)) dX10_forged_7 ⟨(by decide), (by decide)⟩) hS (fun q _ h => hFc q h) hFc (fun r3 u2 t H1 locs ht hvm hw hB hz1 hk1 hS => ?_)
  obtain ⟨hP1, hK1, hD1⟩ := hB
  rw [ht] at hP1
  obtain ⟨hP, hD⟩ := va_join (wr := pickW (ceX10_forged cyI cyB cyJ cyZ a0 a1 a2 a3 a4 a5 a6 a7 a8 a9 a10 a11 a12 b0_tape b0_kept b0_draftGround b0_draftLaw b0_pack b0_pieces b0_thinning b1_marks b1_stroll g0_imageKept g0_wrongByte g1_drawSeed g2_texts g7_lines g2_ways g2_wallCount f3 f4 f5 f6 g7_size f9 f8 g10_rows g10_columns f11 f12) []) (w1 := (ceX10_greatestOfPairs cyI cyB cyJ cyZ a0 a1 a2 a3 a4 a5 a6 a7 a8 a9 a10 a11 a12 b0_tape b0_kept b0_draftGround b0_draftLaw b0_pack b0_pieces b0_thinning b1_marks b1_stroll g0_imageKept g0_wrongByte g1_drawSeed g2_texts g7_lines g2_ways g2_wallCount f3 f4 f5 f6 g7_size f9 u2.1 u2.2.1 u2.2.2.1 u2.2.2.2.1 u2.2.2.2.2)) hP hD [0, 1, 2, 3, 4, 5, 6, 7, 8, 9, 10, 11, 12] [] rfl rfl (by decide) (by decide) hk1 hFc hP1 hD1
  have hP := hP.sub (ws' := (ceX10_forged cyI cyB cyJ cyZ a0 a1 a2 a3 a4 a5 a6 a7 a8 a9 a10 a11 a12 b0_tape b0_kept b0_draftGround b0_draftLaw b0_pack b0_pieces b0_thinning b1_marks b1_stroll g0_imageKept g0_wrongByte g1_drawSeed g2_texts g7_lines g2_ways g2_wallCount f3 f4 f5 f6 g7_size f9 u2.1 u2.2.1 u2.2.2.1 u2.2.2.2.1 u2.2.2.2.2)) [0, 1, 2, 3, 4, 5, 6, 7, 8, 9, 10, 11, 12] rfl
  have hD := hD.sub (ws' := (ceX10_forged cyI cyB cyJ cyZ a0 a1 a2 a3 a4 a5 a6 a7 a8 a9 a10 a11 a12 b0_tape b0_kept b0_draftGround b0_draftLaw b0_pack b0_pieces b0_thinning b1_marks b1_stroll g0_imageKept g0_wrongByte g1_drawSeed g2_texts g7_lines g2_ways g2_wallCount f3 f4 f5 f6 g7_size f9 u2.1 u2.2.1 u2.2.2.1 u2.2.2.2.1 u2.2.2.2.2)) [0, 1, 2, 3, 4, 5, 6, 7, 8, 9, 10, 11, 12] (by decide) rfl
  generalize H1 = H at hP hS ⊢
  refine lv_istore_n (lv' := [(3, .int r3), (0, .ref a0), (1, .int p0), (2, .int p1)]) hx hb dX10_forged_10 rfl hl (by decide) rfl (fun ls hl => ?_)
  refine lv_aload_n hx hb dX10_forged_11 rfl (lv_at hl 1 rfl) ?_
  refine lv_iload_n hx hb dX10_forged_12 rfl (lv_at hl 2 rfl) ?_
  refine lv_iload_n hx hb dX10_forged_13 rfl (lv_at hl 3 rfl) ?_
  have hPc := hP.sub (ws' := (ceX10_nearestOf cyI cyB cyJ cyZ a0 a1 a2 a3 a4 a5 a6 a7 a8 a9 a10 a11 a12 b0_tape b0_kept b0_draftGround b0_draftLaw b0_pack b0_pieces b0_thinning b1_marks b1_stroll g0_imageKept g0_wrongByte g1_drawSeed g2_texts g7_lines g2_ways g2_wallCount f3 f4 f5 f6 g7_size f9 u2.1 u2.2.1 u2.2.2.1 u2.2.2.2.1 u2.2.2.2.2)) [0, 1, 2, 3, 4, 5, 6, 7, 8, 9, 10, 11, 12] rfl
  have hDc := hD.sub (ws' := (ceX10_nearestOf cyI cyB cyJ cyZ a0 a1 a2 a3 a4 a5 a6 a7 a8 a9 a10 a11 a12 b0_tape b0_kept b0_draftGround b0_draftLaw b0_pack b0_pieces b0_thinning b1_marks b1_stroll g0_imageKept g0_wrongByte g1_drawSeed g2_texts g7_lines g2_ways g2_wallCount f3 f4 f5 f6 g7_size f9 u2.1 u2.2.1 u2.2.2.1 u2.2.2.2.1 u2.2.2.2.2)) [0, 1, 2, 3, 4, 5, 6, 7, 8, 9, 10, 11, 12] (by decide) rfl
  have hFc := va_free (wc := (ceX10_nearestOf cyI cyB cyJ cyZ a0 a1 a2 a3 a4 a5 a6 a7 a8 a9 a10 a11 a12 b0_tape b0_kept b0_draftGround b0_draftLaw b0_pack b0_pieces b0_thinning b1_marks b1_stroll g0_imageKept g0_wrongByte g1_drawSeed g2_texts g7_lines g2_ways g2_wallCount f3 f4 f5 f6 g7_size f9 u2.1 u2.2.1 u2.2.2.1 u2.2.2.2.1 u2.2.2.2.2)) hD hS hA [0, 1, 2, 3, 4, 5, 6, 7, 8, 9, 10, 11, 12] rfl
  refine va_calli (va_runV (As := [.int p0, .int p1]) (rest := []) ⟨hx, hb, hml, hown, hts⟩ (ctX10_nearestOf l dC dI cyI cyB cyJ cyZ _ a0 a1 a2 a3 a4 a5 a6 a7 a8 a9 a10 a11 a12 b0_tape b0_kept b0_draftGround b0_draftLaw b0_pack b0_pieces b0_thinning b1_marks b1_stroll g0_imageKept g0_wrongByte g1_drawSeed g2_texts g7_lines g2_ways g2_wallCount f3 f4 f5 f6 g7_size f9 u2.1 u2.2.1 u2.2.2.1 u2.2.2.2.1 u2.2.2.2.2 p0 p1 _ hw) (cwV 2 hts gX10_forged_X10_nearestOf rfl rfl rfl (by decide +kernel) ⟨Nat.le_of_ble_eq_true rfl, Nat.le_of_ble_eq_true rfl⟩) ⟨wPre_blind, va_recv hK hPc (ci := 10) (q0 := 0) rfl rfl, fun U hU hW => wPre_of hPc hK hDc hN hU hW⟩ rfl rfl hl.1 rfl (lv_room (Nat.le_of_ble_eq_true rfl)) dX10_forged_14 ⟨(by decide), (by decide)⟩) hS (fun q _ h => hFc q h) hFc (fun r5 u4 t H1 locs ht hvm hw hB hz1 hk1 hS => ?_)
  obtain ⟨hP1, hK1, hD1⟩ := hB
  rw [ht] at hP1
  obtain ⟨hP, hD⟩ := va_join (wr := pickW (ceX10_forged cyI cyB cyJ cyZ a0 a1 a2 a3 a4 a5 a6 a7 a8 a9 a10 a11 a12 b0_tape b0_kept b0_draftGround b0_draftLaw b0_pack b0_pieces b0_thinning b1_marks b1_stroll g0_imageKept g0_wrongByte g1_drawSeed g2_texts g7_lines g2_ways g2_wallCount f3 f4 f5 f6 g7_size f9 u2.1 u2.2.1 u2.2.2.1 u2.2.2.2.1 u2.2.2.2.2) []) (w1 := (ceX10_nearestOf cyI cyB cyJ cyZ a0 a1 a2 a3 a4 a5 a6 a7 a8 a9 a10 a11 a12 b0_tape b0_kept b0_draftGround b0_draftLaw b0_pack b0_pieces b0_thinning b1_marks b1_stroll g0_imageKept g0_wrongByte g1_drawSeed g2_texts g7_lines g2_ways g2_wallCount f3 f4 f5 f6 g7_size f9 u4.1 u4.2.1 u4.2.2.1 u4.2.2.2.1 u4.2.2.2.2)) hP hD [0, 1, 2, 3, 4, 5, 6, 7, 8, 9, 10, 11, 12] [] rfl rfl (by decide) (by decide) hk1 hFc hP1 hD1
  have hP := hP.sub (ws' := (ceX10_forged cyI cyB cyJ cyZ a0 a1 a2 a3 a4 a5 a6 a7 a8 a9 a10 a11 a12 b0_tape b0_kept b0_draftGround b0_draftLaw b0_pack b0_pieces b0_thinning b1_marks b1_stroll g0_imageKept g0_wrongByte g1_drawSeed g2_texts g7_lines g2_ways g2_wallCount f3 f4 f5 f6 g7_size f9 u4.1 u4.2.1 u4.2.2.1 u4.2.2.2.1 u4.2.2.2.2)) [0, 1, 2, 3, 4, 5, 6, 7, 8, 9, 10, 11, 12] rfl
  have hD := hD.sub (ws' := (ceX10_forged cyI cyB cyJ cyZ a0 a1 a2 a3 a4 a5 a6 a7 a8 a9 a10 a11 a12 b0_tape b0_kept b0_draftGround b0_draftLaw b0_pack b0_pieces b0_thinning b1_marks b1_stroll g0_imageKept g0_wrongByte g1_drawSeed g2_texts g7_lines g2_ways g2_wallCount f3 f4 f5 f6 g7_size f9 u4.1 u4.2.1 u4.2.2.1 u4.2.2.2.1 u4.2.2.2.2)) [0, 1, 2, 3, 4, 5, 6, 7, 8, 9, 10, 11, 12] (by decide) rfl
  generalize H1 = H at hP hS ⊢
  refine lv_istore (lv' := [(4, .int r5), (3, .int r3), (0, .ref a0), (1, .int p0), (2, .int p1)]) hx hb dX10_forged_17 hl (by decide) rfl (fun ls hl => ?_)
  refine lv_iload_n hx hb dX10_forged_19 rfl (lv_at hl 1 rfl) ?_
  refine lv_iconst (v := (-1)) hx hb dX10_forged_20 (by decide) ?_
  refine lv_icmp_eq (tgt := 41) hx hb dX10_forged_21 (by decide) (fun hc => ?_) (fun hc => ?_)
  · have hw := hw.1 hc
    refine lv_iconst (v := 1) hx hb dX10_forged_41 (by decide) ?_
    refine lv_goto (tgt := 46) hx hb dX10_forged_42 (by decide) ?_
    rw [hQ]
    refine vx_ret ?_
    refine W.widen (k := 1) (n := 6) (by decide) (by decide) ?_
    exact W.zret (v := 1) (ty := .boolean) hx hb hr rfl (fun t ht hW => ⟨⟨1, (u4.1, u4.2.1, u4.2.2.1, u4.2.2.2.1, u4.2.2.2.2), rfl, hw, by rw [ht]; exact hP, va_K.moved hW.alike hK, hD⟩, hS.F ht⟩) hS.2.2 dX10_forged_46
  · have hw := hw.2 hc
    refine lv_iload hx hb dX10_forged_24 (lv_at hl 0 rfl) ?_
    refine lv_iconst (v := (-1)) hx hb dX10_forged_26 (by decide) ?_
    refine lv_icmp_eq (tgt := 41) hx hb dX10_forged_27 (by decide) (fun hc => ?_) (fun hc => ?_)
    · have hw := hw.1 hc
      refine lv_iconst (v := 1) hx hb dX10_forged_41 (by decide) ?_
      refine lv_goto (tgt := 46) hx hb dX10_forged_42 (by decide) ?_
      rw [hQ]
      refine vx_ret ?_
      refine W.widen (k := 1) (n := 6) (by decide) (by decide) ?_
      exact W.zret (v := 1) (ty := .boolean) hx hb hr rfl (fun t ht hW => ⟨⟨1, (u4.1, u4.2.1, u4.2.2.1, u4.2.2.2.1, u4.2.2.2.2), rfl, hw, by rw [ht]; exact hP, va_K.moved hW.alike hK, hD⟩, hS.F ht⟩) hS.2.2 dX10_forged_46
    · have hw := hw.2 hc
      refine lv_aload_n hx hb dX10_forged_30 rfl (lv_at hl 2 rfl) ?_
      refine lv_iload_n hx hb dX10_forged_31 rfl (lv_at hl 3 rfl) ?_
      refine lv_iload hx hb dX10_forged_32 (lv_at hl 0 rfl) ?_
      have hPc := hP.sub (ws' := (ceX10_shortest cyI cyB cyJ cyZ a0 a10 a11 a12 a1 a2 a3 a4 a5 a6 a7 a8 a9 b0_tape b0_kept b0_draftGround b0_draftLaw b0_pack b0_pieces b0_thinning b1_marks b1_stroll g0_imageKept g0_wrongByte g1_drawSeed g2_ways g2_texts g7_lines g2_wallCount f3 f4 f5 f6 g7_size f9 u4.2.1 u4.2.2.1 u4.2.2.2.1 u4.2.2.2.2 u4.1)) [0, 10, 11, 12, 1, 2, 3, 4, 5, 6, 7, 8, 9] rfl
      have hDc := hD.sub (ws' := (ceX10_shortest cyI cyB cyJ cyZ a0 a10 a11 a12 a1 a2 a3 a4 a5 a6 a7 a8 a9 b0_tape b0_kept b0_draftGround b0_draftLaw b0_pack b0_pieces b0_thinning b1_marks b1_stroll g0_imageKept g0_wrongByte g1_drawSeed g2_ways g2_texts g7_lines g2_wallCount f3 f4 f5 f6 g7_size f9 u4.2.1 u4.2.2.1 u4.2.2.2.1 u4.2.2.2.2 u4.1)) [0, 10, 11, 12, 1, 2, 3, 4, 5, 6, 7, 8, 9] (by decide) rfl
      have hFc := va_free (wc := (ceX10_shortest cyI cyB cyJ cyZ a0 a10 a11 a12 a1 a2 a3 a4 a5 a6 a7 a8 a9 b0_tape b0_kept b0_draftGround b0_draftLaw b0_pack b0_pieces b0_thinning b1_marks b1_stroll g0_imageKept g0_wrongByte g1_drawSeed g2_ways g2_texts g7_lines g2_wallCount f3 f4 f5 f6 g7_size f9 u4.2.1 u4.2.2.1 u4.2.2.2.1 u4.2.2.2.2 u4.1)) hD hS hA [0, 10, 11, 12, 1, 2, 3, 4, 5, 6, 7, 8, 9] rfl
      refine va_calli (va_runV (As := [.int p0, .int r5]) (rest := []) ⟨hx, hb, hml, hown, hts⟩ (ctX10_shortest l dC dI cyI cyB cyJ cyZ _ a0 a10 a11 a12 a1 a2 a3 a4 a5 a6 a7 a8 a9 b0_tape b0_kept b0_draftGround b0_draftLaw b0_pack b0_pieces b0_thinning b1_marks b1_stroll g0_imageKept g0_wrongByte g1_drawSeed g2_ways g2_texts g7_lines g2_wallCount f3 f4 f5 f6 g7_size f9 u4.2.1 u4.2.2.1 u4.2.2.2.1 u4.2.2.2.2 u4.1 p0 r5 _ hw) (cwV 2 hts gX10_forged_X10_shortest rfl rfl rfl (by decide +kernel) ⟨Nat.le_of_ble_eq_true rfl, Nat.le_of_ble_eq_true rfl⟩) ⟨wPre_blind, va_recv hK hPc (ci := 10) (q0 := 0) rfl rfl, fun U hU hW => wPre_of hPc hK hDc hN hU hW⟩ rfl rfl hl.1 rfl (lv_room (Nat.le_of_ble_eq_true rfl)) dX10_forged_34 ⟨(by decide), (by decide)⟩) hS (fun q _ h => hFc q h) hFc (fun r7 u6 t H1 locs ht hvm hw hB hz1 hk1 hS => ?_)
      obtain ⟨hP1, hK1, hD1⟩ := hB
      rw [ht] at hP1
      obtain ⟨hP, hD⟩ := va_join (wr := pickW (ceX10_forged cyI cyB cyJ cyZ a0 a1 a2 a3 a4 a5 a6 a7 a8 a9 a10 a11 a12 b0_tape b0_kept b0_draftGround b0_draftLaw b0_pack b0_pieces b0_thinning b1_marks b1_stroll g0_imageKept g0_wrongByte g1_drawSeed g2_texts g7_lines g2_ways g2_wallCount f3 f4 f5 f6 g7_size f9 u4.1 u4.2.1 u4.2.2.1 u4.2.2.2.1 u4.2.2.2.2) []) (w1 := (ceX10_shortest cyI cyB cyJ cyZ a0 a10 a11 a12 a1 a2 a3 a4 a5 a6 a7 a8 a9 b0_tape b0_kept b0_draftGround b0_draftLaw b0_pack b0_pieces b0_thinning b1_marks b1_stroll g0_imageKept g0_wrongByte g1_drawSeed g2_ways g2_texts g7_lines g2_wallCount f3 f4 f5 f6 g7_size f9 u6.1 u6.2.1 u6.2.2.1 u6.2.2.2.1 u6.2.2.2.2)) hP hD [0, 10, 11, 12, 1, 2, 3, 4, 5, 6, 7, 8, 9] [] rfl rfl (by decide) (by decide) hk1 hFc hP1 hD1
      have hP := hP.sub (ws' := (ceX10_forged cyI cyB cyJ cyZ a0 a1 a2 a3 a4 a5 a6 a7 a8 a9 a10 a11 a12 b0_tape b0_kept b0_draftGround b0_draftLaw b0_pack b0_pieces b0_thinning b1_marks b1_stroll g0_imageKept g0_wrongByte g1_drawSeed g2_texts g7_lines g2_ways g2_wallCount f3 f4 f5 f6 g7_size f9 u6.2.2.2.2 u6.1 u6.2.1 u6.2.2.1 u6.2.2.2.1)) [0, 4, 5, 6, 7, 8, 9, 10, 11, 12, 1, 2, 3] rfl
      have hD := hD.sub (ws' := (ceX10_forged cyI cyB cyJ cyZ a0 a1 a2 a3 a4 a5 a6 a7 a8 a9 a10 a11 a12 b0_tape b0_kept b0_draftGround b0_draftLaw b0_pack b0_pieces b0_thinning b1_marks b1_stroll g0_imageKept g0_wrongByte g1_drawSeed g2_texts g7_lines g2_ways g2_wallCount f3 f4 f5 f6 g7_size f9 u6.2.2.2.2 u6.1 u6.2.1 u6.2.2.1 u6.2.2.2.1)) [0, 4, 5, 6, 7, 8, 9, 10, 11, 12, 1, 2, 3] (by decide) rfl
      generalize H1 = H at hP hS ⊢
      refine lv_iload_n hx hb dX10_forged_37 rfl (lv_at hl 1 rfl) ?_
      refine lv_icmp_le (tgt := 45) hx hb dX10_forged_38 (by decide) (fun hc => ?_) (fun hc => ?_)
      · have hw := hw.1 hc
        refine lv_iconst (v := 0) hx hb dX10_forged_45 (by decide) ?_
        rw [hQ]
        refine vx_ret ?_
        refine W.widen (k := 1) (n := 6) (by decide) (by decide) ?_
        exact W.zret (v := 0) (ty := .boolean) hx hb hr rfl (fun t ht hW => ⟨⟨0, (u6.2.2.2.2, u6.1, u6.2.1, u6.2.2.1, u6.2.2.2.1), rfl, hw, by rw [ht]; exact hP, va_K.moved hW.alike hK, hD⟩, hS.F ht⟩) hS.2.2 dX10_forged_46
      · have hw := hw.2 hc
        refine lv_iconst (v := 1) hx hb dX10_forged_41 (by decide) ?_
        refine lv_goto (tgt := 46) hx hb dX10_forged_42 (by decide) ?_
        rw [hQ]
        refine vx_ret ?_
        refine W.widen (k := 1) (n := 6) (by decide) (by decide) ?_
        exact W.zret (v := 1) (ty := .boolean) hx hb hr rfl (fun t ht hW => ⟨⟨1, (u6.2.2.2.2, u6.1, u6.2.1, u6.2.2.1, u6.2.2.2.1), rfl, hw, by rw [ht]; exact hP, va_K.moved hW.alike hK, hD⟩, hS.F ht⟩) hS.2.2 dX10_forged_46
