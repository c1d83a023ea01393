/-! LeadParkModel.back (II)I -/
abbrev ceX11_back (cyI cyB cyJ cyZ : ClassId) (a0 a1 a2 a3 a4 b0_image b0_before b0_taken b0_tape b0_five b0_walk b0_ends b0_manX b0_manY b0_dogX b0_dogY b0_row b0_round b0_farOne b0_leads b0_drags b0_from b0_near : Nat) (g0_hasImage : Int32) (g0_remembered : Int32) (g0_taped : Int32) (g0_point : Int32) (g0_end : Int32) (g0_begin : Int32) (g0_deep : Int32) (g0_faultAt : Int32) (g0_steps : Int32) (f1 : Nat → Int32) (g0_thrown : Int32) (g0_men : Int32) (g0_dogs : Int32) (f2 : Nat → Int32) (f3 : Nat → Int32) (f4 : Nat → Int32) : va_W := [(a0, .inr (11, [.int g0_thrown, .ref a1, .ref b0_image, .ref b0_before, .int g0_hasImage, .ref b0_taken, .int g0_remembered, .ref b0_tape, .int g0_taped, .int g0_point, .int g0_end, .int g0_begin, .int g0_deep, .int g0_faultAt, .ref b0_five, .int g0_steps, .ref a2, .ref a3, .int g0_men, .int g0_dogs, .ref a4, .ref b0_walk, .ref b0_ends, .ref b0_manX, .ref b0_manY, .ref b0_dogX, .ref b0_dogY, .ref b0_row, .ref b0_round, .ref b0_farOne, .ref b0_leads, .ref b0_drags, .ref b0_from, .ref b0_near])), (a1, .inl (cyI, 2508, .inl f1)), (a2, .inl (cyI, 400, .inl f2)), (a3, .inl (cyI, 900, .inl f3)), (a4, .inl (cyI, 900, .inl f4))]

theorem inX11_back_X11 : ∀ w ∈ wsX110, w ∈ wsX11_back := fun _ h => List.mem_cons_of_mem _ (List.mem_append_right _ h)
abbrev rmX11_back : Room := { frames := 6, cells := 0, slots := 0, locals := 166 }
set_option maxRecDepth 100000 in
set_option maxHeartbeats 4000000 in
theorem bX11_back_218 {p : Program} {l : Launch} {e : Env} {s : State} {m : MethodId} {args : Array Value} {below : List Frame} {meth : Method} {c : Code} {dC : Nat → ClassId} {dI : Nat → Nat → Nat} {cyI cyB cyJ cyZ : ClassId} {A : Nat → Prop} {a0 a1 a2 a3 a4 b0_image b0_before b0_taken b0_tape b0_five b0_walk b0_ends b0_manX b0_manY b0_dogX b0_dogY b0_row b0_round b0_farOne b0_leads b0_drags b0_from b0_near : Nat} {g0_hasImage : Int32} {g0_remembered : Int32} {g0_taped : Int32} {g0_point : Int32} {g0_end : Int32} {g0_begin : Int32} {g0_deep : Int32} {g0_faultAt : Int32} {g0_steps : Int32} (C0 : cxM p s m meth c args wsX11_back RX11 cX11_back 8 (some .int)) (hK : va_K (dC, dI) vwCl (tyA cyI cyB cyJ cyZ) s) (hN : nwA s) (hA : ∀ q : Nat, s.heap.size ≤ q → A q) {post : Int32 → (Int32 × Int32 × Int32 × (Nat → Int32) × (Nat → Int32) × (Nat → Int32)) → Prop} {f1 : Nat → Int32} {k101 : Int32 → Int32 → Int32 → (Nat → Int32) → (Nat → Int32) → (Nat → Int32) → Int32 → Int32 → Int32 → Prop} {k89 : Int32 → Int32 → Int32 → (Nat → Int32) → (Nat → Int32) → (Nat → Int32) → Int32 → Int32 → Prop} {k80 : Int32 → Int32 → Int32 → (Nat → Int32) → (Nat → Int32) → (Nat → Int32) → Int32 → Prop} {Q : State → Prop} (hQ : Q = MQ below (va_Qi post (fun u : Int32 × Int32 × Int32 × (Nat → Int32) × (Nat → Int32) × (Nat → Int32) => wAt dC dI cyI cyB cyJ cyZ A (ceX11_back cyI cyB cyJ cyZ a0 a1 a2 a3 a4 b0_image b0_before b0_taken b0_tape b0_five b0_walk b0_ends b0_manX b0_manY b0_dogX b0_dogY b0_row b0_round b0_farOne b0_leads b0_drags b0_from b0_near g0_hasImage g0_remembered g0_taped g0_point g0_end g0_begin g0_deep g0_faultAt g0_steps f1 u.1 u.2.1 u.2.2.1 u.2.2.2.1 u.2.2.2.2.1 u.2.2.2.2.2)) A) args s 0 0 A) (hk101 : ∀ (g0_thrown : Int32) (g0_men : Int32) (g0_dogs : Int32) (f2 : Nat → Int32) (f3 : Nat → Int32) (f4 : Nat → Int32) (x3 : Int32) (x4 : Int32) (x5 : Int32), k101 g0_thrown g0_men g0_dogs f2 f3 f4 x3 x4 x5 → AtW p l e rmX11_back s m args below meth c dC dI A Q 8 0 0 (ceX11_back cyI cyB cyJ cyZ a0 a1 a2 a3 a4 b0_image b0_before b0_taken b0_tape b0_five b0_walk b0_ends b0_manX b0_manY b0_dogX b0_dogY b0_row b0_round b0_farOne b0_leads b0_drags b0_from b0_near g0_hasImage g0_remembered g0_taped g0_point g0_end g0_begin g0_deep g0_faultAt g0_steps f1 g0_thrown g0_men g0_dogs f2 f3 f4) [(0, .ref a0), (3, .int x3), (4, .int x4), (5, .int x5)] 101 []) (hk89 : ∀ (g0_thrown : Int32) (g0_men : Int32) (g0_dogs : Int32) (f2 : Nat → Int32) (f3 : Nat → Int32) (f4 : Nat → Int32) (x3 : Int32) (x4 : Int32), k89 g0_thrown g0_men g0_dogs f2 f3 f4 x3 x4 → AtW p l e rmX11_back s m args below meth c dC dI A Q 8 0 0 (ceX11_back cyI cyB cyJ cyZ a0 a1 a2 a3 a4 b0_image b0_before b0_taken b0_tape b0_five b0_walk b0_ends b0_manX b0_manY b0_dogX b0_dogY b0_row b0_round b0_farOne b0_leads b0_drags b0_from b0_near g0_hasImage g0_remembered g0_taped g0_point g0_end g0_begin g0_deep g0_faultAt g0_steps f1 g0_thrown g0_men g0_dogs f2 f3 f4) [(0, .ref a0), (3, .int x3), (4, .int x4)] 89 []) (hk80 : ∀ (g0_thrown : Int32) (g0_men : Int32) (g0_dogs : Int32) (f2 : Nat → Int32) (f3 : Nat → Int32) (f4 : Nat → Int32) (x3 : Int32), k80 g0_thrown g0_men g0_dogs f2 f3 f4 x3 → AtW p l e rmX11_back s m args below meth c dC dI A Q 8 0 0 (ceX11_back cyI cyB cyJ cyZ a0 a1 a2 a3 a4 b0_image b0_before b0_taken b0_tape b0_five b0_walk b0_ends b0_manX b0_manY b0_dogX b0_dogY b0_row b0_round b0_farOne b0_leads b0_drags b0_from b0_near g0_hasImage g0_remembered g0_taped g0_point g0_end g0_begin g0_deep g0_faultAt g0_steps f1 g0_thrown g0_men g0_dogs f2 f3 f4) [(0, .ref a0), (3, .int x3)] 80 []) : ∀ (g0_thrown : Int32) (g0_men : Int32) (g0_dogs : Int32) (f2 : Nat → Int32) (f3 : Nat → Int32) (f4 : Nat → Int32) (x3 : Int32) (x4 : Int32) (x5 : Int32), wpX11_back_218 k101 k89 k80 post f1 g0_thrown g0_men g0_dogs f2 f3 f4 x3 x4 x5 → AtW p l e rmX11_back s m args below meth c dC dI A Q 8 0 0 (ceX11_back cyI cyB cyJ cyZ a0 a1 a2 a3 a4 b0_image b0_before b0_taken b0_tape b0_five b0_walk b0_ends b0_manX b0_manY b0_dogX b0_dogY b0_row b0_round b0_farOne b0_leads b0_drags b0_from b0_near g0_hasImage g0_remembered g0_taped g0_point g0_end g0_begin g0_deep g0_faultAt g0_steps f1 g0_thrown g0_men g0_dogs f2 f3 f4) [(0, .ref a0), (3, .int x3), (4, .int x4), (5, .int x5)] 218 [] := by
  intro g0_thrown g0_men g0_dogs f2 f3 f4 x3 x4 x5 hw H locs hP hD hS ls hl
  have C1 := C0
  obtain ⟨hx, hb, hr, hml, hown, hts, hlocks⟩ := C1
  obtain ⟨v1, ev1⟩ : ∃ y : Int32, y = x5 + 1 := ⟨_, rfl⟩
  have hw := hw v1 ev1
  refine lv_iinc (v := v1) (lv' := [(5, .int v1), (0, .ref a0), (3, .int x3), (4, .int x4)]) hx hb dX11_back_218 hl (k := 3) rfl (by rw [ev1]; rfl) (by decide) rfl (fun ls hl => ?_)
  refine lv_goto (tgt := 101) hx hb dX11_back_221 (by decide) ?_
  exact hk101 g0_thrown g0_men g0_dogs f2 f3 f4 x3 x4 v1 hw H locs hP hD hS ls (lv_sub hl [1, 2, 3, 0] rfl)
set_option maxRecDepth 100000 in
set_option maxHeartbeats 4000000 in
theorem bX11_back_118 {p : Program} {l : Launch} {e : Env} {s : State} {m : MethodId} {args : Array Value} {below : List Frame} {meth : Method} {c : Code} {dC : Nat → ClassId} {dI : Nat → Nat → Nat} {cyI cyB cyJ cyZ : ClassId} {A : Nat → Prop} {a0 a1 a2 a3 a4 b0_image b0_before b0_taken b0_tape b0_five b0_walk b0_ends b0_manX b0_manY b0_dogX b0_dogY b0_row b0_round b0_farOne b0_leads b0_drags b0_from b0_near : Nat} {g0_hasImage : Int32} {g0_remembered : Int32} {g0_taped : Int32} {g0_point : Int32} {g0_end : Int32} {g0_begin : Int32} {g0_deep : Int32} {g0_faultAt : Int32} {g0_steps : Int32} (C0 : cxM p s m meth c args wsX11_back RX11 cX11_back 8 (some .int)) (hK : va_K (dC, dI) vwCl (tyA cyI cyB cyJ cyZ) s) (hN : nwA s) (hA : ∀ q : Nat, s.heap.size ≤ q → A q) {post : Int32 → (Int32 × Int32 × Int32 × (Nat → Int32) × (Nat → Int32) × (Nat → Int32)) → Prop} {f1 : Nat → Int32} {k101 : Int32 → Int32 → Int32 → (Nat → Int32) → (Nat → Int32) → (Nat → Int32) → Int32 → Int32 → Int32 → Prop} {k89 : Int32 → Int32 → Int32 → (Nat → Int32) → (Nat → Int32) → (Nat → Int32) → Int32 → Int32 → Prop} {k80 : Int32 → Int32 → Int32 → (Nat → Int32) → (Nat → Int32) → (Nat → Int32) → Int32 → Prop} {Q : State → Prop} (hQ : Q = MQ below (va_Qi post (fun u : Int32 × Int32 × Int32 × (Nat → Int32) × (Nat → Int32) × (Nat → Int32) => wAt dC dI cyI cyB cyJ cyZ A (ceX11_back cyI cyB cyJ cyZ a0 a1 a2 a3 a4 b0_image b0_before b0_taken b0_tape b0_five b0_walk b0_ends b0_manX b0_manY b0_dogX b0_dogY b0_row b0_round b0_farOne b0_leads b0_drags b0_from b0_near g0_hasImage g0_remembered g0_taped g0_point g0_end g0_begin g0_deep g0_faultAt g0_steps f1 u.1 u.2.1 u.2.2.1 u.2.2.2.1 u.2.2.2.2.1 u.2.2.2.2.2)) A) args s 0 0 A) (hk101 : ∀ (g0_thrown : Int32) (g0_men : Int32) (g0_dogs : Int32) (f2 : Nat → Int32) (f3 : Nat → Int32) (f4 : Nat → Int32) (x3 : Int32) (x4 : Int32) (x5 : Int32), k101 g0_thrown g0_men g0_dogs f2 f3 f4 x3 x4 x5 → AtW p l e rmX11_back s m args below meth c dC dI A Q 8 0 0 (ceX11_back cyI cyB cyJ cyZ a0 a1 a2 a3 a4 b0_image b0_before b0_taken b0_tape b0_five b0_walk b0_ends b0_manX b0_manY b0_dogX b0_dogY b0_row b0_round b0_farOne b0_leads b0_drags b0_from b0_near g0_hasImage g0_remembered g0_taped g0_point g0_end g0_begin g0_deep g0_faultAt g0_steps f1 g0_thrown g0_men g0_dogs f2 f3 f4) [(0, .ref a0), (3, .int x3), (4, .int x4), (5, .int x5)] 101 []) (hk89 : ∀ (g0_thrown : Int32) (g0_men : Int32) (g0_dogs : Int32) (f2 : Nat → Int32) (f3 : Nat → Int32) (f4 : Nat → Int32) (x3 : Int32) (x4 : Int32), k89 g0_thrown g0_men g0_dogs f2 f3 f4 x3 x4 → AtW p l e rmX11_back s m args below meth c dC dI A Q 8 0 0 (ceX11_back cyI cyB cyJ cyZ a0 a1 a2 a3 a4 b0_image b0_before b0_taken b0_tape b0_five b0_walk b0_ends b0_manX b0_manY b0_dogX b0_dogY b0_row b0_round b0_farOne b0_leads b0_drags b0_from b0_near g0_hasImage g0_remembered g0_taped g0_point g0_end g0_begin g0_deep g0_faultAt g0_steps f1 g0_thrown g0_men g0_dogs f2 f3 f4) [(0, .ref a0), (3, .int x3), (4, .int x4)] 89 []) (hk80 : ∀ (g0_thrown : Int32) (g0_men : Int32) (g0_dogs : Int32) (f2 : Nat → Int32) (f3 : Nat → Int32) (f4 : Nat → Int32) (x3 : Int32), k80 g0_thrown g0_men g0_dogs f2 f3 f4 x3 → AtW p l e rmX11_back s m args below meth c dC dI A Q 8 0 0 (ceX11_back cyI cyB cyJ cyZ a0 a1 a2 a3 a4 b0_image b0_before b0_taken b0_tape b0_five b0_walk b0_ends b0_manX b0_manY b0_dogX b0_dogY b0_row b0_round b0_farOne b0_leads b0_drags b0_from b0_near g0_hasImage g0_remembered g0_taped g0_point g0_end g0_begin g0_deep g0_faultAt g0_steps f1 g0_thrown g0_men g0_dogs f2 f3 f4) [(0, .ref a0), (3, .int x3)] 80 []) : ∀ (n : Nat) (g0_thrown : Int32) (g0_men : Int32) (g0_dogs : Int32) (f2 : Nat → Int32) (f3 : Nat → Int32) (f4 : Nat → Int32) (x3 : Int32) (x4 : Int32) (x5 : Int32) (x6 : Int32) (x7 : Int32), wpX11_back_118 k101 k89 k80 post f1 n g0_thrown g0_men g0_dogs f2 f3 f4 x3 x4 x5 x6 x7 → AtW p l e rmX11_back s m args below meth c dC dI A Q 8 0 0 (ceX11_back cyI cyB cyJ cyZ a0 a1 a2 a3 a4 b0_image b0_before b0_taken b0_tape b0_five b0_walk b0_ends b0_manX b0_manY b0_dogX b0_dogY b0_row b0_round b0_farOne b0_leads b0_drags b0_from b0_near g0_hasImage g0_remembered g0_taped g0_point g0_end g0_begin g0_deep g0_faultAt g0_steps f1 g0_thrown g0_men g0_dogs f2 f3 f4) [(0, .ref a0), (3, .int x3), (4, .int x4), (5, .int x5), (6, .int x6), (7, .int x7)] 118 [] := by
  intro n
  induction n with
  | zero => intro g0_thrown g0_men g0_dogs f2 f3 f4 x3 x4 x5 x6 x7 hw; exact False.elim hw
  | succ n ih =>
    intro g0_thrown g0_men g0_dogs f2 f3 f4 x3 x4 x5 x6 x7 hw H locs hP hD hS ls hl
    have C1 := C0
    obtain ⟨hx, hb, hr, hml, hown, hts, hlocks⟩ := C1
    refine lv_iload hx hb dX11_back_118 (lv_at hl 5 rfl) ?_
    refine lv_bipush (v := 9) hx hb dX11_back_120 (by decide) ?_
    refine lv_icmp_ge (tgt := 160) hx hb dX11_back_122 (by decide) (fun hc => ?_) (fun hc => ?_)
    · have hw := hw.1 hc
      refine lv_aload_n hx hb dX11_back_160 rfl (lv_at hl 0 rfl) ?_
      refine va_get (D := (dC, dI)) (ci := 11) (v := .ref a3) (C := RX11) (T := TX11) (N := 34) hx hb hts inX11_back_X11 hown hK hP 0 rfl rfl 17 (by decide) (hts (.fieldLink RX11 39 "LeadParkModel" "far" "[I") (List.mem_of_getElem? (i := 4) rfl)) (fun _ h9 => h9) rfl dX11_back_161 ?_
      refine lv_bipush (v := 30) hx hb dX11_back_164 (by decide) ?_
      refine lv_iload hx hb dX11_back_166 (lv_at hl 2 rfl) ?_
      refine lv_imul hx hb dX11_back_168 ?_
      refine lv_iload hx hb dX11_back_169 (lv_at hl 3 rfl) ?_
      refine lv_iadd hx hb dX11_back_171 ?_
      obtain ⟨hi, hw⟩ := hw
      refine va_iald hx hb hK hP 3 0 rfl rfl hi dX11_back_172 ?_
      refine lv_iload hx hb dX11_back_173 (lv_at hl 4 rfl) ?_
      refine va_mmax hx hb (hml.trans hl.1.symm) hown (hts (.methodLink RX11 273 Lib.Math.max.name) (List.mem_of_getElem? (i := 11) rfl)) (hts (.static Lib.Math.max.name) (List.mem_of_getElem? (i := 12) rfl)) (hts (.initialized "java/lang/Math") (List.mem_of_getElem? (i := 9) rfl)) (hts (.code Lib.Math.max.name Lib.Math.max.code 2 (some .int)) (List.mem_of_getElem? (i := 13) rfl)) (Nat.le_of_ble_eq_true rfl) (Nat.le_of_ble_eq_true rfl) (by decide) (by decide) dX11_back_175 ?_
      refine lv_topi (fun v1 ev1 => ?_)
      have hw := hw v1 ev1
      refine lv_istore (lv' := [(7, .int v1), (0, .ref a0), (3, .int x3), (4, .int x4), (5, .int x5), (6, .int x6)]) hx hb dX11_back_178 hl (by decide) rfl (fun ls hl => ?_)
      refine lv_iload hx hb dX11_back_180 (lv_at hl 0 rfl) ?_
      refine lv_aload_n hx hb dX11_back_182 rfl (lv_at hl 1 rfl) ?_
      refine va_get (D := (dC, dI)) (ci := 11) (v := .ref a4) (C := RX11) (T := TX11) (N := 34) hx hb hts inX11_back_X11 hown hK hP 0 rfl rfl 20 (by decide) (hts (.fieldLink RX11 42 "LeadParkModel" "lead" "[I") (List.mem_of_getElem? (i := 2) rfl)) (fun _ h9 => h9) rfl dX11_back_183 ?_
      refine lv_bipush (v := 30) hx hb dX11_back_186 (by decide) ?_
      refine lv_iload hx hb dX11_back_188 (lv_at hl 3 rfl) ?_
      refine lv_imul hx hb dX11_back_190 ?_
      refine lv_iload hx hb dX11_back_191 (lv_at hl 4 rfl) ?_
      refine lv_iadd hx hb dX11_back_193 ?_
      obtain ⟨hi, hw⟩ := hw
      refine va_iald hx hb hK hP 4 0 rfl rfl hi dX11_back_194 ?_
      refine lv_icmp_lt (tgt := 201) hx hb dX11_back_195 (by decide) (fun hc => ?_) (fun hc => ?_)
      · have hw := hw.1 hc
        refine lv_aload_n hx hb dX11_back_201 rfl (lv_at hl 1 rfl) ?_
        refine va_get (D := (dC, dI)) (ci := 11) (v := .ref a4) (C := RX11) (T := TX11) (N := 34) hx hb hts inX11_back_X11 hown hK hP 0 rfl rfl 20 (by decide) (hts (.fieldLink RX11 42 "LeadParkModel" "lead" "[I") (List.mem_of_getElem? (i := 2) rfl)) (fun _ h9 => h9) rfl dX11_back_202 ?_
        refine lv_bipush (v := 30) hx hb dX11_back_205 (by decide) ?_
        refine lv_iload hx hb dX11_back_207 (lv_at hl 3 rfl) ?_
        refine lv_imul hx hb dX11_back_209 ?_
        refine lv_iload hx hb dX11_back_210 (lv_at hl 4 rfl) ?_
        refine lv_iadd hx hb dX11_back_212 ?_
        refine lv_iload hx hb dX11_back_213 (lv_at hl 0 rfl) ?_
        obtain ⟨hi, hw⟩ := hw
        refine va_iast hx hb hK hP hD hS 4 0 rfl rfl hi dX11_back_215 (fun H locs hP hD hS => ?_)
        have hP : va_P (dC, dI) vwCl (ceX11_back cyI cyB cyJ cyZ a0 a1 a2 a3 a4 b0_image b0_before b0_taken b0_tape b0_five b0_walk b0_ends b0_manX b0_manY b0_dogX b0_dogY b0_row b0_round b0_farOne b0_leads b0_drags b0_from b0_near g0_hasImage g0_remembered g0_taped g0_point g0_end g0_begin g0_deep g0_faultAt g0_steps f1 g0_thrown g0_men g0_dogs f2 f3 (upd f4 ((30 * x4) + x5).toNatClampNeg v1)) H := hP
        have hD : va_D A (ceX11_back cyI cyB cyJ cyZ a0 a1 a2 a3 a4 b0_image b0_before b0_taken b0_tape b0_five b0_walk b0_ends b0_manX b0_manY b0_dogX b0_dogY b0_row b0_round b0_farOne b0_leads b0_drags b0_from b0_near g0_hasImage g0_remembered g0_taped g0_point g0_end g0_begin g0_deep g0_faultAt g0_steps f1 g0_thrown g0_men g0_dogs f2 f3 (upd f4 ((30 * x4) + x5).toNatClampNeg v1)) := hD
        refine lv_iconst (v := 1) hx hb dX11_back_216 (by decide) ?_
        refine lv_istore_n (lv' := [(3, .int 1), (7, .int v1), (0, .ref a0), (4, .int x4), (5, .int x5), (6, .int x6)]) hx hb dX11_back_217 rfl hl (by decide) rfl (fun ls hl => ?_)
        exact bX11_back_218 C0 hK hN hA hQ hk101 hk89 hk80 g0_thrown g0_men g0_dogs f2 f3 (upd f4 ((30 * x4) + x5).toNatClampNeg v1) 1 x4 x5 hw _ _ hP hD hS ls (lv_sub hl [2, 0, 3, 4] rfl)
      · have hw := hw.2 hc
        refine lv_goto (tgt := 218) hx hb dX11_back_198 (by decide) ?_
        exact bX11_back_218 C0 hK hN hA hQ hk101 hk89 hk80 g0_thrown g0_men g0_dogs f2 f3 f4 x3 x4 x5 hw _ _ hP hD hS ls (lv_sub hl [1, 2, 3, 4] rfl)
    · have hw := hw.2 hc
      refine lv_iload hx hb dX11_back_125 (lv_at hl 4 rfl) ?_
      refine lv_aload_n hx hb dX11_back_127 rfl (lv_at hl 0 rfl) ?_
      refine lv_iload hx hb dX11_back_128 (lv_at hl 2 rfl) ?_
      refine lv_iload hx hb dX11_back_130 (lv_at hl 5 rfl) ?_
      refine lv_iconst (v := 3) hx hb dX11_back_132 (by decide) ?_
      refine lv_idiv hx hb dX11_back_133 (by decide) ?_
      refine lv_iadd hx hb dX11_back_134 ?_
      refine lv_iconst (v := 1) hx hb dX11_back_135 (by decide) ?_
      refine lv_isub hx hb dX11_back_136 ?_
      refine lv_iload hx hb dX11_back_137 (lv_at hl 3 rfl) ?_
      refine lv_iload hx hb dX11_back_139 (lv_at hl 5 rfl) ?_
      refine lv_iconst (v := 3) hx hb dX11_back_141 (by decide) ?_
      refine lv_irem hx hb dX11_back_142 (by decide) ?_
      refine lv_iadd hx hb dX11_back_143 ?_
      refine lv_iconst (v := 1) hx hb dX11_back_144 (by decide) ?_
      refine lv_isub hx hb dX11_back_145 ?_
      have hPc := hP.sub (ws' := (ceX11_backLead cyI cyB cyJ cyZ a0 a4 a1 b0_image b0_before b0_taken b0_tape b0_five a2 a3 b0_walk b0_ends b0_manX b0_manY b0_dogX b0_dogY b0_row b0_round b0_farOne b0_leads b0_drags b0_from b0_near g0_thrown g0_hasImage g0_remembered g0_taped g0_point g0_end g0_begin g0_deep g0_faultAt g0_steps g0_men g0_dogs f4)) [0, 4] rfl
      have hDc := hD.sub (ws' := (ceX11_backLead cyI cyB cyJ cyZ a0 a4 a1 b0_image b0_before b0_taken b0_tape b0_five a2 a3 b0_walk b0_ends b0_manX b0_manY b0_dogX b0_dogY b0_row b0_round b0_farOne b0_leads b0_drags b0_from b0_near g0_thrown g0_hasImage g0_remembered g0_taped g0_point g0_end g0_begin g0_deep g0_faultAt g0_steps g0_men g0_dogs f4)) [0, 4] (by decide) rfl
      have hFc := va_free (wc := (ceX11_backLead cyI cyB cyJ cyZ a0 a4 a1 b0_image b0_before b0_taken b0_tape b0_five a2 a3 b0_walk b0_ends b0_manX b0_manY b0_dogX b0_dogY b0_row b0_round b0_farOne b0_leads b0_drags b0_from b0_near g0_thrown g0_hasImage g0_remembered g0_taped g0_point g0_end g0_begin g0_deep g0_faultAt g0_steps g0_men g0_dogs f4)) hD hS hA [0, 4] rfl
      refine va_calli (va_runV (As := [.int ((x4 + (x7 / 3)) - 1), .int ((x5 + (x7 - x7 / 3 * 3)) - 1)]) (rest := [.int x6]) ⟨hx, hb, hml, hown, hts⟩ (ctX11_backLead l dC dI cyI cyB cyJ cyZ _ a0 a4 a1 b0_image b0_before b0_taken b0_tape b0_five a2 a3 b0_walk b0_ends b0_manX b0_manY b0_dogX b0_dogY b0_row b0_round b0_farOne b0_leads b0_drags b0_from b0_near g0_thrown g0_hasImage g0_remembered g0_taped g0_point g0_end g0_begin g0_deep g0_faultAt g0_steps g0_men g0_dogs f4 ((x4 + (x7 / 3)) - 1) ((x5 + (x7 - x7 / 3 * 3)) - 1) _ hw) (cwV 2 hts gX11_back_X11_backLead rfl rfl rfl (by decide +kernel) ⟨Nat.le_of_ble_eq_true rfl, Nat.le_of_ble_eq_true rfl⟩) ⟨wPre_blind, va_recv hK hPc (ci := 11) (q0 := 0) rfl rfl, fun U hU hW => wPre_of hPc hK hDc hN hU hW⟩ rfl rfl hl.1 rfl (lv_room (Nat.le_of_ble_eq_true rfl)) dX11_back_146 ⟨(Nat.zero_le _), (Nat.zero_le _)⟩) hS (fun q _ h => hFc q h) hFc (fun r3 u2 t H1 locs ht hvm hw hB hz1 hk1 hS => ?_)
      obtain ⟨hP1, hK1, hD1⟩ := hB
      rw [ht] at hP1
      obtain ⟨hP, hD⟩ := va_join (wr := pickW (ceX11_back cyI cyB cyJ cyZ a0 a1 a2 a3 a4 b0_image b0_before b0_taken b0_tape b0_five b0_walk b0_ends b0_manX b0_manY b0_dogX b0_dogY b0_row b0_round b0_farOne b0_leads b0_drags b0_from b0_near g0_hasImage g0_remembered g0_taped g0_point g0_end g0_begin g0_deep g0_faultAt g0_steps f1 g0_thrown g0_men g0_dogs f2 f3 f4) [1, 2, 3]) (w1 := (ceX11_backLead cyI cyB cyJ cyZ a0 a4 a1 b0_image b0_before b0_taken b0_tape b0_five a2 a3 b0_walk b0_ends b0_manX b0_manY b0_dogX b0_dogY b0_row b0_round b0_farOne b0_leads b0_drags b0_from b0_near g0_thrown g0_hasImage g0_remembered g0_taped g0_point g0_end g0_begin g0_deep g0_faultAt g0_steps g0_men g0_dogs f4)) hP hD [0, 4] [1, 2, 3] rfl rfl (by decide) (by decide) hk1 hFc hP1 hD1
      have hP := hP.sub (ws' := (ceX11_back cyI cyB cyJ cyZ a0 a1 a2 a3 a4 b0_image b0_before b0_taken b0_tape b0_five b0_walk b0_ends b0_manX b0_manY b0_dogX b0_dogY b0_row b0_round b0_farOne b0_leads b0_drags b0_from b0_near g0_hasImage g0_remembered g0_taped g0_point g0_end g0_begin g0_deep g0_faultAt g0_steps f1 g0_thrown g0_men g0_dogs f2 f3 f4)) [3, 0, 1, 2, 4] rfl
      have hD := hD.sub (ws' := (ceX11_back cyI cyB cyJ cyZ a0 a1 a2 a3 a4 b0_image b0_before b0_taken b0_tape b0_five b0_walk b0_ends b0_manX b0_manY b0_dogX b0_dogY b0_row b0_round b0_farOne b0_leads b0_drags b0_from b0_near g0_hasImage g0_remembered g0_taped g0_point g0_end g0_begin g0_deep g0_faultAt g0_steps f1 g0_thrown g0_men g0_dogs f2 f3 f4)) [3, 0, 1, 2, 4] (by decide) rfl
      generalize H1 = H at hP hS ⊢
      refine va_mmin hx hb (hml.trans hl.1.symm) hown (hts (.methodLink RX11 268 Lib.Math.min.name) (List.mem_of_getElem? (i := 7) rfl)) (hts (.static Lib.Math.min.name) (List.mem_of_getElem? (i := 8) rfl)) (hts (.initialized "java/lang/Math") (List.mem_of_getElem? (i := 9) rfl)) (hts (.code Lib.Math.min.name Lib.Math.min.code 2 (some .int)) (List.mem_of_getElem? (i := 10) rfl)) (Nat.le_of_ble_eq_true rfl) (Nat.le_of_ble_eq_true rfl) (by decide) (by decide) dX11_back_149 ?_
      refine lv_topi (fun v4 ev4 => ?_)
      have hw := hw v4 ev4
      refine lv_istore (lv' := [(6, .int v4), (0, .ref a0), (3, .int x3), (4, .int x4), (5, .int x5), (7, .int x7)]) hx hb dX11_back_152 hl (by decide) rfl (fun ls hl => ?_)
      obtain ⟨v5, ev5⟩ : ∃ y : Int32, y = x7 + 1 := ⟨_, rfl⟩
      have hw := hw v5 ev5
      refine lv_iinc (v := v5) (lv' := [(7, .int v5), (6, .int v4), (0, .ref a0), (3, .int x3), (4, .int x4), (5, .int x5)]) hx hb dX11_back_154 hl (k := 5) rfl (by rw [ev5]; rfl) (by decide) rfl (fun ls hl => ?_)
      refine lv_goto (tgt := 118) hx hb dX11_back_157 (by decide) ?_
      exact ih g0_thrown g0_men g0_dogs f2 f3 f4 x3 x4 x5 v4 v5 hw H locs hP hD hS ls (lv_sub hl [2, 3, 4, 5, 1, 0] rfl)
set_option maxRecDepth 100000 in
set_option maxHeartbeats 4000000 in
theorem bX11_back_101 {p : Program} {l : Launch} {e : Env} {s : State} {m : MethodId} {args : Array Value} {below : List Frame} {meth : Method} {c : Code} {dC : Nat → ClassId} {dI : Nat → Nat → Nat} {cyI cyB cyJ cyZ : ClassId} {A : Nat → Prop} {a0 a1 a2 a3 a4 b0_image b0_before b0_taken b0_tape b0_five b0_walk b0_ends b0_manX b0_manY b0_dogX b0_dogY b0_row b0_round b0_farOne b0_leads b0_drags b0_from b0_near : Nat} {g0_hasImage : Int32} {g0_remembered : Int32} {g0_taped : Int32} {g0_point : Int32} {g0_end : Int32} {g0_begin : Int32} {g0_deep : Int32} {g0_faultAt : Int32} {g0_steps : Int32} (C0 : cxM p s m meth c args wsX11_back RX11 cX11_back 8 (some .int)) (hK : va_K (dC, dI) vwCl (tyA cyI cyB cyJ cyZ) s) (hN : nwA s) (hA : ∀ q : Nat, s.heap.size ≤ q → A q) {post : Int32 → (Int32 × Int32 × Int32 × (Nat → Int32) × (Nat → Int32) × (Nat → Int32)) → Prop} {f1 : Nat → Int32} {k89 : Int32 → Int32 → Int32 → (Nat → Int32) → (Nat → Int32) → (Nat → Int32) → Int32 → Int32 → Prop} {k80 : Int32 → Int32 → Int32 → (Nat → Int32) → (Nat → Int32) → (Nat → Int32) → Int32 → Prop} {Q : State → Prop} (hQ : Q = MQ below (va_Qi post (fun u : Int32 × Int32 × Int32 × (Nat → Int32) × (Nat → Int32) × (Nat → Int32) => wAt dC dI cyI cyB cyJ cyZ A (ceX11_back cyI cyB cyJ cyZ a0 a1 a2 a3 a4 b0_image b0_before b0_taken b0_tape b0_five b0_walk b0_ends b0_manX b0_manY b0_dogX b0_dogY b0_row b0_round b0_farOne b0_leads b0_drags b0_from b0_near g0_hasImage g0_remembered g0_taped g0_point g0_end g0_begin g0_deep g0_faultAt g0_steps f1 u.1 u.2.1 u.2.2.1 u.2.2.2.1 u.2.2.2.2.1 u.2.2.2.2.2)) A) args s 0 0 A) (hk89 : ∀ (g0_thrown : Int32) (g0_men : Int32) (g0_dogs : Int32) (f2 : Nat → Int32) (f3 : Nat → Int32) (f4 : Nat → Int32) (x3 : Int32) (x4 : Int32), k89 g0_thrown g0_men g0_dogs f2 f3 f4 x3 x4 → AtW p l e rmX11_back s m args below meth c dC dI A Q 8 0 0 (ceX11_back cyI cyB cyJ cyZ a0 a1 a2 a3 a4 b0_image b0_before b0_taken b0_tape b0_five b0_walk b0_ends b0_manX b0_manY b0_dogX b0_dogY b0_row b0_round b0_farOne b0_leads b0_drags b0_from b0_near g0_hasImage g0_remembered g0_taped g0_point g0_end g0_begin g0_deep g0_faultAt g0_steps f1 g0_thrown g0_men g0_dogs f2 f3 f4) [(0, .ref a0), (3, .int x3), (4, .int x4)] 89 []) (hk80 : ∀ (g0_thrown : Int32) (g0_men : Int32) (g0_dogs : Int32) (f2 : Nat → Int32) (f3 : Nat → Int32) (f4 : Nat → Int32) (x3 : Int32), k80 g0_thrown g0_men g0_dogs f2 f3 f4 x3 → AtW p l e rmX11_back s m args below meth c dC dI A Q 8 0 0 (ceX11_back cyI cyB cyJ cyZ a0 a1 a2 a3 a4 b0_image b0_before b0_taken b0_tape b0_five b0_walk b0_ends b0_manX b0_manY b0_dogX b0_dogY b0_row b0_round b0_farOne b0_leads b0_drags b0_from b0_near g0_hasImage g0_remembered g0_taped g0_point g0_end g0_begin g0_deep g0_faultAt g0_steps f1 g0_thrown g0_men g0_dogs f2 f3 f4) [(0, .ref a0), (3, .int x3)] 80 []) : ∀ (n : Nat) (g0_thrown : Int32) (g0_men : Int32) (g0_dogs : Int32) (f2 : Nat → Int32) (f3 : Nat → Int32) (f4 : Nat → Int32) (x3 : Int32) (x4 : Int32) (x5 : Int32), wpX11_back_101 k89 k80 post f1 n g0_thrown g0_men g0_dogs f2 f3 f4 x3 x4 x5 → AtW p l e rmX11_back s m args below meth c dC dI A Q 8 0 0 (ceX11_back cyI cyB cyJ cyZ a0 a1 a2 a3 a4 b0_image b0_before b0_taken b0_tape b0_five b0_walk b0_ends b0_manX b0_manY b0_dogX b0_dogY b0_row b0_round b0_farOne b0_leads b0_drags b0_from b0_near g0_hasImage g0_remembered g0_taped g0_point g0_end g0_begin g0_deep g0_faultAt g0_steps f1 g0_thrown g0_men g0_dogs f2 f3 f4) [(0, .ref a0), (3, .int x3), (4, .int x4), (5, .int x5)] 101 [] := by
  intro n
  induction n with
  | zero => intro g0_thrown g0_men g0_dogs f2 f3 f4 x3 x4 x5 hw; exact False.elim hw
  | succ n ih =>
    intro g0_thrown g0_men g0_dogs f2 f3 f4 x3 x4 x5 hw H locs hP hD hS ls hl
    have C1 := C0
    obtain ⟨hx, hb, hr, hml, hown, hts, hlocks⟩ := C1
    refine lv_iload hx hb dX11_back_101 (lv_at hl 3 rfl) ?_
    refine lv_aload_n hx hb dX11_back_103 rfl (lv_at hl 0 rfl) ?_
    refine va_get (D := (dC, dI)) (ci := 11) (v := .int g0_dogs) (C := RX11) (T := TX11) (N := 34) hx hb hts inX11_back_X11 hown hK hP 0 rfl rfl 19 (by decide) (hts (.fieldLink RX11 303 "LeadParkModel" "dogs" "I") (List.mem_of_getElem? (i := 6) rfl)) (fun _ h9 => h9) rfl dX11_back_104 ?_
    refine lv_icmp_ge (tgt := 224) hx hb dX11_back_107 (by decide) (fun hc => ?_) (fun hc => ?_)
    · have hw := hw.1 hc
      obtain ⟨v1, ev1⟩ : ∃ y : Int32, y = x4 + 1 := ⟨_, rfl⟩
      have hw := hw v1 ev1
      refine lv_iinc (v := v1) (lv' := [(4, .int v1), (0, .ref a0), (3, .int x3), (5, .int x5)]) hx hb dX11_back_224 hl (k := 2) rfl (by rw [ev1]; rfl) (by decide) rfl (fun ls hl => ?_)
      refine lv_goto (tgt := 89) hx hb dX11_back_227 (by decide) ?_
      exact hk89 g0_thrown g0_men g0_dogs f2 f3 f4 x3 v1 hw H locs hP hD hS ls (lv_sub hl [1, 2, 0] rfl)
    · have hw := hw.2 hc
      refine lv_ldcw (v := 2000000000) hx hb hown (hts (.constant RX11 306 (2000000000)) (List.mem_of_getElem? (i := 3) rfl)) dX11_back_110 ?_
      refine lv_istore (lv' := [(6, .int 2000000000), (0, .ref a0), (3, .int x3), (4, .int x4), (5, .int x5)]) hx hb dX11_back_113 hl (by decide) rfl (fun ls hl => ?_)
      refine lv_iconst (v := 0) hx hb dX11_back_115 (by decide) ?_
      refine lv_istore (lv' := [(7, .int 0), (6, .int 2000000000), (0, .ref a0), (3, .int x3), (4, .int x4), (5, .int x5)]) hx hb dX11_back_116 hl (by decide) rfl (fun ls hl => ?_)
      obtain ⟨nn, hw⟩ := hw
      exact bX11_back_118 C0 hK hN hA hQ ih hk89 hk80 nn g0_thrown g0_men g0_dogs f2 f3 f4 x3 x4 x5 2000000000 0 hw _ _ hP hD hS ls (lv_sub hl [2, 3, 4, 5, 1, 0] rfl)
set_option maxRecDepth 100000 in
set_option maxHeartbeats 4000000 in
theorem bX11_back_89 {p : Program} {l : Launch} {e : Env} {s : State} {m : MethodId} {args : Array Value} {below : List Frame} {meth : Method} {c : Code} {dC : Nat → ClassId} {dI : Nat → Nat → Nat} {cyI cyB cyJ cyZ : ClassId} {A : Nat → Prop} {a0 a1 a2 a3 a4 b0_image b0_before b0_taken b0_tape b0_five b0_walk b0_ends b0_manX b0_manY b0_dogX b0_dogY b0_row b0_round b0_farOne b0_leads b0_drags b0_from b0_near : Nat} {g0_hasImage : Int32} {g0_remembered : Int32} {g0_taped : Int32} {g0_point : Int32} {g0_end : Int32} {g0_begin : Int32} {g0_deep : Int32} {g0_faultAt : Int32} {g0_steps : Int32} (C0 : cxM p s m meth c args wsX11_back RX11 cX11_back 8 (some .int)) (hK : va_K (dC, dI) vwCl (tyA cyI cyB cyJ cyZ) s) (hN : nwA s) (hA : ∀ q : Nat, s.heap.size ≤ q → A q) {post : Int32 → (Int32 × Int32 × Int32 × (Nat → Int32) × (Nat → Int32) × (Nat → Int32)) → Prop} {f1 : Nat → Int32} {k80 : Int32 → Int32 → Int32 → (Nat → Int32) → (Nat → Int32) → (Nat → Int32) → Int32 → Prop} {Q : State → Prop} (hQ : Q = MQ below (va_Qi post (fun u : Int32 × Int32 × Int32 × (Nat → Int32) × (Nat → Int32) × (Nat → Int32) => wAt dC dI cyI cyB cyJ cyZ A (ceX11_back cyI cyB cyJ cyZ a0 a1 a2 a3 a4 b0_image b0_before b0_taken b0_tape b0_five b0_walk b0_ends b0_manX b0_manY b0_dogX b0_dogY b0_row b0_round b0_farOne b0_leads b0_drags b0_from b0_near g0_hasImage g0_remembered g0_taped g0_point g0_end g0_begin g0_deep g0_faultAt g0_steps f1 u.1 u.2.1 u.2.2.1 u.2.2.2.1 u.2.2.2.2.1 u.2.2.2.2.2)) A) args s 0 0 A) (hk80 : ∀ (g0_thrown : Int32) (g0_men : Int32) (g0_dogs : Int32) (f2 : Nat → Int32) (f3 : Nat → Int32) (f4 : Nat → Int32) (x3 : Int32), k80 g0_thrown g0_men g0_dogs f2 f3 f4 x3 → AtW p l e rmX11_back s m args below meth c dC dI A Q 8 0 0 (ceX11_back cyI cyB cyJ cyZ a0 a1 a2 a3 a4 b0_image b0_before b0_taken b0_tape b0_five b0_walk b0_ends b0_manX b0_manY b0_dogX b0_dogY b0_row b0_round b0_farOne b0_leads b0_drags b0_from b0_near g0_hasImage g0_remembered g0_taped g0_point g0_end g0_begin g0_deep g0_faultAt g0_steps f1 g0_thrown g0_men g0_dogs f2 f3 f4) [(0, .ref a0), (3, .int x3)] 80 []) : ∀ (n : Nat) (g0_thrown : Int32) (g0_men : Int32) (g0_dogs : Int32) (f2 : Nat → Int32) (f3 : Nat → Int32) (f4 : Nat → Int32) (x3 : Int32) (x4 : Int32), wpX11_back_89 k80 post f1 n g0_thrown g0_men g0_dogs f2 f3 f4 x3 x4 → AtW p l e rmX11_back s m args below meth c dC dI A Q 8 0 0 (ceX11_back cyI cyB cyJ cyZ a0 a1 a2 a3 a4 b0_image b0_before b0_taken b0_tape b0_five b0_walk b0_ends b0_manX b0_manY b0_dogX b0_dogY b0_row b0_round b0_farOne b0_leads b0_drags b0_from b0_near g0_hasImage g0_remembered g0_taped g0_point g0_end g0_begin g0_deep g0_faultAt g0_steps f1 g0_thrown g0_men g0_dogs f2 f3 f4) [(0, .ref a0), (3, .int x3), (4, .int x4)] 89 [] := by
  intro n
  induction n with
  | zero => intro g0_thrown g0_men g0_dogs f2 f3 f4 x3 x4 hw; exact False.elim hw
  | succ n ih =>
    intro g0_thrown g0_men g0_dogs f2 f3 f4 x3 x4 hw H locs hP hD hS ls hl
    have C1 := C0
    obtain ⟨hx, hb, hr, hml, hown, hts, hlocks⟩ := C1
    refine lv_iload hx hb dX11_back_89 (lv_at hl 2 rfl) ?_
    refine lv_aload_n hx hb dX11_back_91 rfl (lv_at hl 0 rfl) ?_
    refine va_get (D := (dC, dI)) (ci := 11) (v := .int g0_men) (C := RX11) (T := TX11) (N := 34) hx hb hts inX11_back_X11 hown hK hP 0 rfl rfl 18 (by decide) (hts (.fieldLink RX11 300 "LeadParkModel" "men" "I") (List.mem_of_getElem? (i := 5) rfl)) (fun _ h9 => h9) rfl dX11_back_92 ?_
    refine lv_icmp_ge (tgt := 230) hx hb dX11_back_95 (by decide) (fun hc => ?_) (fun hc => ?_)
    · have hw := hw.1 hc
      refine lv_goto (tgt := 80) hx hb dX11_back_230 (by decide) ?_
      exact hk80 g0_thrown g0_men g0_dogs f2 f3 f4 x3 hw H locs hP hD hS ls (lv_sub hl [0, 1] rfl)
    · have hw := hw.2 hc
      refine lv_iconst (v := 0) hx hb dX11_back_98 (by decide) ?_
      refine lv_istore (lv' := [(5, .int 0), (0, .ref a0), (3, .int x3), (4, .int x4)]) hx hb dX11_back_99 hl (by decide) rfl (fun ls hl => ?_)
      obtain ⟨nn, hw⟩ := hw
      exact bX11_back_101 C0 hK hN hA hQ ih hk80 nn g0_thrown g0_men g0_dogs f2 f3 f4 x3 x4 0 hw _ _ hP hD hS ls (lv_sub hl [1, 2, 3, 0] rfl)
set_option maxRecDepth 100000 in
set_option maxHeartbeats 4000000 in
theorem bX11_back_80 {p : Program} {l : Launch} {e : Env} {s : State} {m : MethodId} {args : Array Value} {below : List Frame} {meth : Method} {c : Code} {dC : Nat → ClassId} {dI : Nat → Nat → Nat} {cyI cyB cyJ cyZ : ClassId} {A : Nat → Prop} {a0 a1 a2 a3 a4 b0_image b0_before b0_taken b0_tape b0_five b0_walk b0_ends b0_manX b0_manY b0_dogX b0_dogY b0_row b0_round b0_farOne b0_leads b0_drags b0_from b0_near : Nat} {g0_hasImage : Int32} {g0_remembered : Int32} {g0_taped : Int32} {g0_point : Int32} {g0_end : Int32} {g0_begin : Int32} {g0_deep : Int32} {g0_faultAt : Int32} {g0_steps : Int32} (C0 : cxM p s m meth c args wsX11_back RX11 cX11_back 8 (some .int)) (hK : va_K (dC, dI) vwCl (tyA cyI cyB cyJ cyZ) s) (hN : nwA s) (hA : ∀ q : Nat, s.heap.size ≤ q → A q) {post : Int32 → (Int32 × Int32 × Int32 × (Nat → Int32) × (Nat → Int32) × (Nat → Int32)) → Prop} {f1 : Nat → Int32} {Q : State → Prop} (hQ : Q = MQ below (va_Qi post (fun u : Int32 × Int32 × Int32 × (Nat → Int32) × (Nat → Int32) × (Nat → Int32) => wAt dC dI cyI cyB cyJ cyZ A (ceX11_back cyI cyB cyJ cyZ a0 a1 a2 a3 a4 b0_image b0_before b0_taken b0_tape b0_five b0_walk b0_ends b0_manX b0_manY b0_dogX b0_dogY b0_row b0_round b0_farOne b0_leads b0_drags b0_from b0_near g0_hasImage g0_remembered g0_taped g0_point g0_end g0_begin g0_deep g0_faultAt g0_steps f1 u.1 u.2.1 u.2.2.1 u.2.2.2.1 u.2.2.2.2.1 u.2.2.2.2.2)) A) args s 0 0 A) : ∀ (n : Nat) (g0_thrown : Int32) (g0_men : Int32) (g0_dogs : Int32) (f2 : Nat → Int32) (f3 : Nat → Int32) (f4 : Nat → Int32) (x3 : Int32), wpX11_back_80 post f1 n g0_thrown g0_men g0_dogs f2 f3 f4 x3 → AtW p l e rmX11_back s m args below meth c dC dI A Q 8 0 0 (ceX11_back cyI cyB cyJ cyZ a0 a1 a2 a3 a4 b0_image b0_before b0_taken b0_tape b0_five b0_walk b0_ends b0_manX b0_manY b0_dogX b0_dogY b0_row b0_round b0_farOne b0_leads b0_drags b0_from b0_near g0_hasImage g0_remembered g0_taped g0_point g0_end g0_begin g0_deep g0_faultAt g0_steps f1 g0_thrown g0_men g0_dogs f2 f3 f4) [(0, .ref a0), (3, .int x3)] 80 [] := by
  intro n
  induction n with
  | zero => intro g0_thrown g0_men g0_dogs f2 f3 f4 x3 hw; exact False.elim hw
  | succ n ih =>
    intro g0_thrown g0_men g0_dogs f2 f3 f4 x3 hw H locs hP hD hS ls hl
    have C1 := C0
    obtain ⟨hx, hb, hr, hml, hown, hts, hlocks⟩ := C1
    refine lv_iload_n hx hb dX11_back_80 rfl (lv_at hl 1 rfl) ?_
    refine lv_if_eq (tgt := 233) hx hb dX11_back_81 (by decide) (fun hc => ?_) (fun hc => ?_)
    · have hw := hw.1 hc
      refine lv_aload_n hx hb dX11_back_233 rfl (lv_at hl 0 rfl) ?_
      refine va_get (D := (dC, dI)) (ci := 11) (v := .ref a4) (C := RX11) (T := TX11) (N := 34) hx hb hts inX11_back_X11 hown hK hP 0 rfl rfl 20 (by decide) (hts (.fieldLink RX11 42 "LeadParkModel" "lead" "[I") (List.mem_of_getElem? (i := 2) rfl)) (fun _ h9 => h9) rfl dX11_back_234 ?_
      refine lv_bipush (v := 30) hx hb dX11_back_237 (by decide) ?_
      refine lv_aload_n hx hb dX11_back_239 rfl (lv_at hl 0 rfl) ?_
      refine va_get (D := (dC, dI)) (ci := 11) (v := .int g0_men) (C := RX11) (T := TX11) (N := 34) hx hb hts inX11_back_X11 hown hK hP 0 rfl rfl 18 (by decide) (hts (.fieldLink RX11 300 "LeadParkModel" "men" "I") (List.mem_of_getElem? (i := 5) rfl)) (fun _ h9 => h9) rfl dX11_back_240 ?_
      refine lv_iconst (v := 1) hx hb dX11_back_243 (by decide) ?_
      refine lv_isub hx hb dX11_back_244 ?_
      refine lv_imul hx hb dX11_back_245 ?_
      refine lv_aload_n hx hb dX11_back_246 rfl (lv_at hl 0 rfl) ?_
      refine va_get (D := (dC, dI)) (ci := 11) (v := .int g0_dogs) (C := RX11) (T := TX11) (N := 34) hx hb hts inX11_back_X11 hown hK hP 0 rfl rfl 19 (by decide) (hts (.fieldLink RX11 303 "LeadParkModel" "dogs" "I") (List.mem_of_getElem? (i := 6) rfl)) (fun _ h9 => h9) rfl dX11_back_247 ?_
      refine lv_iadd hx hb dX11_back_250 ?_
      refine lv_iconst (v := 1) hx hb dX11_back_251 (by decide) ?_
      refine lv_isub hx hb dX11_back_252 ?_
      obtain ⟨hi, hw⟩ := hw
      refine va_iald hx hb hK hP 4 0 rfl rfl hi dX11_back_253 ?_
      have hPc := hP.sub (ws' := ([] : va_W)) [] rfl
      have hDc := hD.sub (ws' := ([] : va_W)) [] (by decide) rfl
      have hFc := va_free (wc := ([] : va_W)) hD hS hA [] rfl
      refine va_calli (va_runS (As := [.int (f4 (((30 * (g0_men - 1)) + g0_dogs) - 1).toNatClampNeg)]) (rest := []) ⟨hx, hb, hml, hown, hts⟩ (ctX11_orNone l dC dI cyI cyB cyJ cyZ _ (f4 (((30 * (g0_men - 1)) + g0_dogs) - 1).toNatClampNeg) _ hw) (va_cwS 1 hts gX11_back_X11_orNone rfl rfl rfl (by decide +kernel) ⟨Nat.le_of_ble_eq_true rfl, Nat.le_of_ble_eq_true rfl⟩) ⟨wPre_blind, fun U hU hW => wPre_of hPc hK hDc hN hU hW⟩ rfl rfl hl.1 rfl (lv_room (Nat.le_of_ble_eq_true rfl)) dX11_back_254 ⟨(Nat.zero_le _), (Nat.zero_le _)⟩) hS (fun q _ h => hFc q h) hFc (fun r2 u1 t H1 locs ht hvm hw hB hz1 hk1 hS => ?_)
      obtain ⟨hP1, hK1, hD1⟩ := hB
      rw [ht] at hP1
      obtain ⟨hP, hD⟩ := va_join (wr := pickW (ceX11_back cyI cyB cyJ cyZ a0 a1 a2 a3 a4 b0_image b0_before b0_taken b0_tape b0_five b0_walk b0_ends b0_manX b0_manY b0_dogX b0_dogY b0_row b0_round b0_farOne b0_leads b0_drags b0_from b0_near g0_hasImage g0_remembered g0_taped g0_point g0_end g0_begin g0_deep g0_faultAt g0_steps f1 g0_thrown g0_men g0_dogs f2 f3 f4) [0, 1, 2, 3, 4]) (w1 := ([] : va_W)) hP hD [] [0, 1, 2, 3, 4] rfl rfl (by decide) (by decide) hk1 hFc hP1 hD1
      have hP := hP.sub (ws' := (ceX11_back cyI cyB cyJ cyZ a0 a1 a2 a3 a4 b0_image b0_before b0_taken b0_tape b0_five b0_walk b0_ends b0_manX b0_manY b0_dogX b0_dogY b0_row b0_round b0_farOne b0_leads b0_drags b0_from b0_near g0_hasImage g0_remembered g0_taped g0_point g0_end g0_begin g0_deep g0_faultAt g0_steps f1 g0_thrown g0_men g0_dogs f2 f3 f4)) [0, 1, 2, 3, 4] rfl
      have hD := hD.sub (ws' := (ceX11_back cyI cyB cyJ cyZ a0 a1 a2 a3 a4 b0_image b0_before b0_taken b0_tape b0_five b0_walk b0_ends b0_manX b0_manY b0_dogX b0_dogY b0_row b0_round b0_farOne b0_leads b0_drags b0_from b0_near g0_hasImage g0_remembered g0_taped g0_point g0_end g0_begin g0_deep g0_faultAt g0_steps f1 g0_thrown g0_men g0_dogs f2 f3 f4)) [0, 1, 2, 3, 4] (by decide) rfl
      generalize H1 = H at hP hS ⊢
      rw [hQ]
      exact W.iret (v := r2) hx hb hr (fun t ht hW => ⟨⟨r2, (g0_thrown, g0_men, g0_dogs, f2, f3, f4), rfl, hw, by rw [ht]; exact hP, va_K.moved hW.alike hK, hD⟩, hS.F ht⟩) hS.2.2 dX11_back_257
    · have hw := hw.2 hc
      refine lv_iconst (v := 0) hx hb dX11_back_84 (by decide) ?_
      refine lv_istore_n (lv' := [(3, .int 0), (0, .ref a0)]) hx hb dX11_back_85 rfl hl (by decide) rfl (fun ls hl => ?_)
      refine lv_iconst (v := 0) hx hb dX11_back_86 (by decide) ?_
      refine lv_istore (lv' := [(4, .int 0), (3, .int 0), (0, .ref a0)]) hx hb dX11_back_87 hl (by decide) rfl (fun ls hl => ?_)
      obtain ⟨nn, hw⟩ := hw
      exact bX11_back_89 C0 hK hN hA hQ ih nn g0_thrown g0_men g0_dogs f2 f3 f4 0 0 hw _ _ hP hD hS ls (lv_sub hl [2, 1, 0] rfl)
set_option maxRecDepth 100000 in
set_option maxHeartbeats 4000000 in
theorem bX11_back_44 {p : Program} {l : Launch} {e : Env} {s : State} {m : MethodId} {args : Array Value} {below : List Frame} {meth : Method} {c : Code} {dC : Nat → ClassId} {dI : Nat → Nat → Nat} {cyI cyB cyJ cyZ : ClassId} {A : Nat → Prop} {a0 a1 a2 a3 a4 b0_image b0_before b0_taken b0_tape b0_five b0_walk b0_ends b0_manX b0_manY b0_dogX b0_dogY b0_row b0_round b0_farOne b0_leads b0_drags b0_from b0_near : Nat} {g0_hasImage : Int32} {g0_remembered : Int32} {g0_taped : Int32} {g0_point : Int32} {g0_end : Int32} {g0_begin : Int32} {g0_deep : Int32} {g0_faultAt : Int32} {g0_steps : Int32} (C0 : cxM p s m meth c args wsX11_back RX11 cX11_back 8 (some .int)) (hK : va_K (dC, dI) vwCl (tyA cyI cyB cyJ cyZ) s) (hN : nwA s) (hA : ∀ q : Nat, s.heap.size ≤ q → A q) {post : Int32 → (Int32 × Int32 × Int32 × (Nat → Int32) × (Nat → Int32) × (Nat → Int32)) → Prop} {f1 : Nat → Int32} {Q : State → Prop} (hQ : Q = MQ below (va_Qi post (fun u : Int32 × Int32 × Int32 × (Nat → Int32) × (Nat → Int32) × (Nat → Int32) => wAt dC dI cyI cyB cyJ cyZ A (ceX11_back cyI cyB cyJ cyZ a0 a1 a2 a3 a4 b0_image b0_before b0_taken b0_tape b0_five b0_walk b0_ends b0_manX b0_manY b0_dogX b0_dogY b0_row b0_round b0_farOne b0_leads b0_drags b0_from b0_near g0_hasImage g0_remembered g0_taped g0_point g0_end g0_begin g0_deep g0_faultAt g0_steps f1 u.1 u.2.1 u.2.2.1 u.2.2.2.1 u.2.2.2.2.1 u.2.2.2.2.2)) A) args s 0 0 A) : ∀ (n : Nat) (g0_thrown : Int32) (g0_men : Int32) (g0_dogs : Int32) (f2 : Nat → Int32) (f3 : Nat → Int32) (f4 : Nat → Int32) (x3 : Int32), wpX11_back_44 post f1 n g0_thrown g0_men g0_dogs f2 f3 f4 x3 → AtW p l e rmX11_back s m args below meth c dC dI A Q 8 0 0 (ceX11_back cyI cyB cyJ cyZ a0 a1 a2 a3 a4 b0_image b0_before b0_taken b0_tape b0_five b0_walk b0_ends b0_manX b0_manY b0_dogX b0_dogY b0_row b0_round b0_farOne b0_leads b0_drags b0_from b0_near g0_hasImage g0_remembered g0_taped g0_point g0_end g0_begin g0_deep g0_faultAt g0_steps f1 g0_thrown g0_men g0_dogs f2 f3 f4) [(0, .ref a0), (3, .int x3)] 44 [] := by
  intro n
  induction n with
  | zero => intro g0_thrown g0_men g0_dogs f2 f3 f4 x3 hw; exact False.elim hw
  | succ n ih =>
    intro g0_thrown g0_men g0_dogs f2 f3 f4 x3 hw H locs hP hD hS ls hl
    have C1 := C0
    obtain ⟨hx, hb, hr, hml, hown, hts, hlocks⟩ := C1
    refine lv_iload_n hx hb dX11_back_44 rfl (lv_at hl 1 rfl) ?_
    refine lv_sipush (v := 900) hx hb dX11_back_45 (by decide) ?_
    refine lv_icmp_ge (tgt := 66) hx hb dX11_back_48 (by decide) (fun hc => ?_) (fun hc => ?_)
    · have hw := hw.1 hc
      refine lv_aload_n hx hb dX11_back_66 rfl (lv_at hl 0 rfl) ?_
      refine va_get (D := (dC, dI)) (ci := 11) (v := .ref a4) (C := RX11) (T := TX11) (N := 34) hx hb hts inX11_back_X11 hown hK hP 0 rfl rfl 20 (by decide) (hts (.fieldLink RX11 42 "LeadParkModel" "lead" "[I") (List.mem_of_getElem? (i := 2) rfl)) (fun _ h9 => h9) rfl dX11_back_67 ?_
      refine lv_iconst (v := 0) hx hb dX11_back_70 (by decide) ?_
      refine lv_aload_n hx hb dX11_back_71 rfl (lv_at hl 0 rfl) ?_
      refine va_get (D := (dC, dI)) (ci := 11) (v := .ref a3) (C := RX11) (T := TX11) (N := 34) hx hb hts inX11_back_X11 hown hK hP 0 rfl rfl 17 (by decide) (hts (.fieldLink RX11 39 "LeadParkModel" "far" "[I") (List.mem_of_getElem? (i := 4) rfl)) (fun _ h9 => h9) rfl dX11_back_72 ?_
      refine lv_iconst (v := 0) hx hb dX11_back_75 (by decide) ?_
      obtain ⟨hi, hw⟩ := hw
      refine va_iald hx hb hK hP 3 0 rfl rfl hi dX11_back_76 ?_
      obtain ⟨hi, hw⟩ := hw
      refine va_iast hx hb hK hP hD hS 4 0 rfl rfl hi dX11_back_77 (fun H locs hP hD hS => ?_)
      have hP : va_P (dC, dI) vwCl (ceX11_back cyI cyB cyJ cyZ a0 a1 a2 a3 a4 b0_image b0_before b0_taken b0_tape b0_five b0_walk b0_ends b0_manX b0_manY b0_dogX b0_dogY b0_row b0_round b0_farOne b0_leads b0_drags b0_from b0_near g0_hasImage g0_remembered g0_taped g0_point g0_end g0_begin g0_deep g0_faultAt g0_steps f1 g0_thrown g0_men g0_dogs f2 f3 (upd f4 (0 : Int32).toNatClampNeg (f3 (0 : Int32).toNatClampNeg))) H := hP
      have hD : va_D A (ceX11_back cyI cyB cyJ cyZ a0 a1 a2 a3 a4 b0_image b0_before b0_taken b0_tape b0_five b0_walk b0_ends b0_manX b0_manY b0_dogX b0_dogY b0_row b0_round b0_farOne b0_leads b0_drags b0_from b0_near g0_hasImage g0_remembered g0_taped g0_point g0_end g0_begin g0_deep g0_faultAt g0_steps f1 g0_thrown g0_men g0_dogs f2 f3 (upd f4 (0 : Int32).toNatClampNeg (f3 (0 : Int32).toNatClampNeg))) := hD
      refine lv_iconst (v := 1) hx hb dX11_back_78 (by decide) ?_
      refine lv_istore_n (lv' := [(3, .int 1), (0, .ref a0)]) hx hb dX11_back_79 rfl hl (by decide) rfl (fun ls hl => ?_)
      obtain ⟨nn, hw⟩ := hw
      exact bX11_back_80 C0 hK hN hA hQ nn g0_thrown g0_men g0_dogs f2 f3 (upd f4 (0 : Int32).toNatClampNeg (f3 (0 : Int32).toNatClampNeg)) 1 hw _ _ hP hD hS ls (lv_sub hl [1, 0] rfl)
    · have hw := hw.2 hc
      refine lv_aload_n hx hb dX11_back_51 rfl (lv_at hl 0 rfl) ?_
      refine va_get (D := (dC, dI)) (ci := 11) (v := .ref a4) (C := RX11) (T := TX11) (N := 34) hx hb hts inX11_back_X11 hown hK hP 0 rfl rfl 20 (by decide) (hts (.fieldLink RX11 42 "LeadParkModel" "lead" "[I") (List.mem_of_getElem? (i := 2) rfl)) (fun _ h9 => h9) rfl dX11_back_52 ?_
      refine lv_iload_n hx hb dX11_back_55 rfl (lv_at hl 1 rfl) ?_
      refine lv_ldcw (v := 2000000000) hx hb hown (hts (.constant RX11 306 (2000000000)) (List.mem_of_getElem? (i := 3) rfl)) dX11_back_56 ?_
      obtain ⟨hi, hw⟩ := hw
      refine va_iast hx hb hK hP hD hS 4 0 rfl rfl hi dX11_back_59 (fun H locs hP hD hS => ?_)
      have hP : va_P (dC, dI) vwCl (ceX11_back cyI cyB cyJ cyZ a0 a1 a2 a3 a4 b0_image b0_before b0_taken b0_tape b0_five b0_walk b0_ends b0_manX b0_manY b0_dogX b0_dogY b0_row b0_round b0_farOne b0_leads b0_drags b0_from b0_near g0_hasImage g0_remembered g0_taped g0_point g0_end g0_begin g0_deep g0_faultAt g0_steps f1 g0_thrown g0_men g0_dogs f2 f3 (upd f4 x3.toNatClampNeg 2000000000)) H := hP
      have hD : va_D A (ceX11_back cyI cyB cyJ cyZ a0 a1 a2 a3 a4 b0_image b0_before b0_taken b0_tape b0_five b0_walk b0_ends b0_manX b0_manY b0_dogX b0_dogY b0_row b0_round b0_farOne b0_leads b0_drags b0_from b0_near g0_hasImage g0_remembered g0_taped g0_point g0_end g0_begin g0_deep g0_faultAt g0_steps f1 g0_thrown g0_men g0_dogs f2 f3 (upd f4 x3.toNatClampNeg 2000000000)) := hD
      obtain ⟨v1, ev1⟩ : ∃ y : Int32, y = x3 + 1 := ⟨_, rfl⟩
      have hw := hw v1 ev1
      refine lv_iinc (v := v1) (lv' := [(3, .int v1), (0, .ref a0)]) hx hb dX11_back_60 hl (k := 1) rfl (by rw [ev1]; rfl) (by decide) rfl (fun ls hl => ?_)
      refine lv_goto (tgt := 44) hx hb dX11_back_63 (by decide) ?_
      exact ih g0_thrown g0_men g0_dogs f2 f3 (upd f4 x3.toNatClampNeg 2000000000) v1 hw H locs hP hD hS ls (lv_sub hl [1, 0] rfl)
set_option maxRecDepth 100000 in
set_option maxHeartbeats 4000000 in
theorem bX11_back_27 {p : Program} {l : Launch} {e : Env} {s : State} {m : MethodId} {args : Array Value} {below : List Frame} {meth : Method} {c : Code} {dC : Nat → ClassId} {dI : Nat → Nat → Nat} {cyI cyB cyJ cyZ : ClassId} {A : Nat → Prop} {a0 a1 a2 a3 a4 b0_image b0_before b0_taken b0_tape b0_five b0_walk b0_ends b0_manX b0_manY b0_dogX b0_dogY b0_row b0_round b0_farOne b0_leads b0_drags b0_from b0_near : Nat} {g0_hasImage : Int32} {g0_remembered : Int32} {g0_taped : Int32} {g0_point : Int32} {g0_end : Int32} {g0_begin : Int32} {g0_deep : Int32} {g0_faultAt : Int32} {g0_steps : Int32} (C0 : cxM p s m meth c args wsX11_back RX11 cX11_back 8 (some .int)) (hK : va_K (dC, dI) vwCl (tyA cyI cyB cyJ cyZ) s) (hN : nwA s) (hA : ∀ q : Nat, s.heap.size ≤ q → A q) {post : Int32 → (Int32 × Int32 × Int32 × (Nat → Int32) × (Nat → Int32) × (Nat → Int32)) → Prop} {f1 : Nat → Int32} {Q : State → Prop} (hQ : Q = MQ below (va_Qi post (fun u : Int32 × Int32 × Int32 × (Nat → Int32) × (Nat → Int32) × (Nat → Int32) => wAt dC dI cyI cyB cyJ cyZ A (ceX11_back cyI cyB cyJ cyZ a0 a1 a2 a3 a4 b0_image b0_before b0_taken b0_tape b0_five b0_walk b0_ends b0_manX b0_manY b0_dogX b0_dogY b0_row b0_round b0_farOne b0_leads b0_drags b0_from b0_near g0_hasImage g0_remembered g0_taped g0_point g0_end g0_begin g0_deep g0_faultAt g0_steps f1 u.1 u.2.1 u.2.2.1 u.2.2.2.1 u.2.2.2.2.1 u.2.2.2.2.2)) A) args s 0 0 A) : ∀ (g0_thrown : Int32) (g0_men : Int32) (g0_dogs : Int32) (f2 : Nat → Int32) (f3 : Nat → Int32) (f4 : Nat → Int32) (x1 : Int32) (x2 : Int32) (s1 : Int32), wpX11_back_27 post f1 g0_thrown g0_men g0_dogs f2 f3 f4 x1 x2 s1 → AtW p l e rmX11_back s m args below meth c dC dI A Q 8 0 0 (ceX11_back cyI cyB cyJ cyZ a0 a1 a2 a3 a4 b0_image b0_before b0_taken b0_tape b0_five b0_walk b0_ends b0_manX b0_manY b0_dogX b0_dogY b0_row b0_round b0_farOne b0_leads b0_drags b0_from b0_near g0_hasImage g0_remembered g0_taped g0_point g0_end g0_begin g0_deep g0_faultAt g0_steps f1 g0_thrown g0_men g0_dogs f2 f3 f4) [(0, .ref a0), (1, .int x1), (2, .int x2)] 27 [.int s1, .ref a0] := by
  intro g0_thrown g0_men g0_dogs f2 f3 f4 x1 x2 s1 hw H locs hP hD hS ls hl
  have C1 := C0
  obtain ⟨hx, hb, hr, hml, hown, hts, hlocks⟩ := C1
  refine lv_iconst (v := 1) hx hb dX11_back_27 (by decide) ?_
  have hPc := hP.sub (ws' := (ceX11_throwsIf cyI cyB cyJ cyZ a0 a1 b0_image b0_before b0_taken b0_tape b0_five a2 a3 a4 b0_walk b0_ends b0_manX b0_manY b0_dogX b0_dogY b0_row b0_round b0_farOne b0_leads b0_drags b0_from b0_near g0_hasImage g0_remembered g0_taped g0_point g0_end g0_begin g0_deep g0_faultAt g0_steps g0_men g0_dogs g0_thrown)) [0] rfl
  have hDc := hD.sub (ws' := (ceX11_throwsIf cyI cyB cyJ cyZ a0 a1 b0_image b0_before b0_taken b0_tape b0_five a2 a3 a4 b0_walk b0_ends b0_manX b0_manY b0_dogX b0_dogY b0_row b0_round b0_farOne b0_leads b0_drags b0_from b0_near g0_hasImage g0_remembered g0_taped g0_point g0_end g0_begin g0_deep g0_faultAt g0_steps g0_men g0_dogs g0_thrown)) [0] (by decide) rfl
  have hFc := va_free (wc := (ceX11_throwsIf cyI cyB cyJ cyZ a0 a1 b0_image b0_before b0_taken b0_tape b0_five a2 a3 a4 b0_walk b0_ends b0_manX b0_manY b0_dogX b0_dogY b0_row b0_round b0_farOne b0_leads b0_drags b0_from b0_near g0_hasImage g0_remembered g0_taped g0_point g0_end g0_begin g0_deep g0_faultAt g0_steps g0_men g0_dogs g0_thrown)) hD hS hA [0] rfl
  refine va_calli (va_runV (As := [.int s1, .int 1]) (rest := []) ⟨hx, hb, hml, hown, hts⟩ (ctX11_throwsIf l dC dI cyI cyB cyJ cyZ _ a0 a1 b0_image b0_before b0_taken b0_tape b0_five a2 a3 a4 b0_walk b0_ends b0_manX b0_manY b0_dogX b0_dogY b0_row b0_round b0_farOne b0_leads b0_drags b0_from b0_near g0_hasImage g0_remembered g0_taped g0_point g0_end g0_begin g0_deep g0_faultAt g0_steps g0_men g0_dogs g0_thrown s1 1 _ hw) (cwV 2 hts gX11_back_X11_throwsIf rfl rfl rfl (by decide +kernel) ⟨Nat.le_of_ble_eq_true rfl, Nat.le_of_ble_eq_true rfl⟩) ⟨wPre_blind, va_recv hK hPc (ci := 11) (q0 := 0) rfl rfl, fun U hU hW => wPre_of hPc hK hDc hN hU hW⟩ rfl rfl hl.1 rfl (lv_room (Nat.le_of_ble_eq_true rfl)) dX11_back_28 ⟨(Nat.zero_le _), (Nat.zero_le _)⟩) hS (fun q _ h => hFc q h) hFc (fun r2 u1 t H1 locs ht hvm hw hB hz1 hk1 hS => ?_)
  obtain ⟨hP1, hK1, hD1⟩ := hB
  rw [ht] at hP1
  obtain ⟨hP, hD⟩ := va_join (wr := pickW (ceX11_back cyI cyB cyJ cyZ a0 a1 a2 a3 a4 b0_image b0_before b0_taken b0_tape b0_five b0_walk b0_ends b0_manX b0_manY b0_dogX b0_dogY b0_row b0_round b0_farOne b0_leads b0_drags b0_from b0_near g0_hasImage g0_remembered g0_taped g0_point g0_end g0_begin g0_deep g0_faultAt g0_steps f1 g0_thrown g0_men g0_dogs f2 f3 f4) [1, 2, 3, 4]) (w1 := (ceX11_throwsIf cyI cyB cyJ cyZ a0 a1 b0_image b0_before b0_taken b0_tape b0_five a2 a3 a4 b0_walk b0_ends b0_manX b0_manY b0_dogX b0_dogY b0_row b0_round b0_farOne b0_leads b0_drags b0_from b0_near g0_hasImage g0_remembered g0_taped g0_point g0_end g0_begin g0_deep g0_faultAt g0_steps g0_men g0_dogs u1)) hP hD [0] [1, 2, 3, 4] rfl rfl (by decide) (by decide) hk1 hFc hP1 hD1
  have hP := hP.sub (ws' := (ceX11_back cyI cyB cyJ cyZ a0 a1 a2 a3 a4 b0_image b0_before b0_taken b0_tape b0_five b0_walk b0_ends b0_manX b0_manY b0_dogX b0_dogY b0_row b0_round b0_farOne b0_leads b0_drags b0_from b0_near g0_hasImage g0_remembered g0_taped g0_point g0_end g0_begin g0_deep g0_faultAt g0_steps f1 u1 g0_men g0_dogs f2 f3 f4)) [4, 0, 1, 2, 3] rfl
  have hD := hD.sub (ws' := (ceX11_back cyI cyB cyJ cyZ a0 a1 a2 a3 a4 b0_image b0_before b0_taken b0_tape b0_five b0_walk b0_ends b0_manX b0_manY b0_dogX b0_dogY b0_row b0_round b0_farOne b0_leads b0_drags b0_from b0_near g0_hasImage g0_remembered g0_taped g0_point g0_end g0_begin g0_deep g0_faultAt g0_steps f1 u1 g0_men g0_dogs f2 f3 f4)) [4, 0, 1, 2, 3] (by decide) rfl
  generalize H1 = H at hP hS ⊢
  refine lv_if_eq (tgt := 36) hx hb dX11_back_31 (by decide) (fun hc => ?_) (fun hc => ?_)
  · have hw := hw.1 hc
    refine lv_aload_n hx hb dX11_back_36 rfl (lv_at hl 0 rfl) ?_
    refine lv_iload_n hx hb dX11_back_37 rfl (lv_at hl 1 rfl) ?_
    refine lv_iload_n hx hb dX11_back_38 rfl (lv_at hl 2 rfl) ?_
    have hPc := hP.sub (ws' := (ceX11_lays cyI cyB cyJ cyZ a0 a1 a2 a3 b0_image b0_before b0_taken b0_tape b0_five a4 b0_walk b0_ends b0_manX b0_manY b0_dogX b0_dogY b0_row b0_round b0_farOne b0_leads b0_drags b0_from b0_near u1 g0_hasImage g0_remembered g0_taped g0_point g0_end g0_begin g0_deep g0_faultAt g0_steps f1 g0_men g0_dogs f2 f3)) [0, 1, 2, 3] rfl
    have hDc := hD.sub (ws' := (ceX11_lays cyI cyB cyJ cyZ a0 a1 a2 a3 b0_image b0_before b0_taken b0_tape b0_five a4 b0_walk b0_ends b0_manX b0_manY b0_dogX b0_dogY b0_row b0_round b0_farOne b0_leads b0_drags b0_from b0_near u1 g0_hasImage g0_remembered g0_taped g0_point g0_end g0_begin g0_deep g0_faultAt g0_steps f1 g0_men g0_dogs f2 f3)) [0, 1, 2, 3] (by decide) rfl
    have hFc := va_free (wc := (ceX11_lays cyI cyB cyJ cyZ a0 a1 a2 a3 b0_image b0_before b0_taken b0_tape b0_five a4 b0_walk b0_ends b0_manX b0_manY b0_dogX b0_dogY b0_row b0_round b0_farOne b0_leads b0_drags b0_from b0_near u1 g0_hasImage g0_remembered g0_taped g0_point g0_end g0_begin g0_deep g0_faultAt g0_steps f1 g0_men g0_dogs f2 f3)) hD hS hA [0, 1, 2, 3] rfl
    refine va_callv (va_runV (As := [.int x1, .int x2]) (rest := []) ⟨hx, hb, hml, hown, hts⟩ (ctX11_lays l dC dI cyI cyB cyJ cyZ _ a0 a1 a2 a3 b0_image b0_before b0_taken b0_tape b0_five a4 b0_walk b0_ends b0_manX b0_manY b0_dogX b0_dogY b0_row b0_round b0_farOne b0_leads b0_drags b0_from b0_near u1 g0_hasImage g0_remembered g0_taped g0_point g0_end g0_begin g0_deep g0_faultAt g0_steps f1 g0_men g0_dogs f2 f3 x1 x2 _ hw) (cwV 2 hts gX11_back_X11_lays rfl rfl rfl (by decide +kernel) ⟨Nat.le_of_ble_eq_true rfl, Nat.le_of_ble_eq_true rfl⟩) ⟨wPre_blind, va_recv hK hPc (ci := 11) (q0 := 0) rfl rfl, fun U hU hW => wPre_of hPc hK hDc hN hU hW⟩ rfl rfl hl.1 rfl (lv_room (Nat.le_of_ble_eq_true rfl)) dX11_back_39 ⟨(Nat.zero_le _), (Nat.zero_le _)⟩) hS (fun q _ h => hFc q h) hFc (fun u3 t H1 locs ht hvm hw hB hz1 hk1 hS => ?_)
    obtain ⟨hP1, hK1, hD1⟩ := hB
    rw [ht] at hP1
    obtain ⟨hP, hD⟩ := va_join (wr := pickW (ceX11_back cyI cyB cyJ cyZ a0 a1 a2 a3 a4 b0_image b0_before b0_taken b0_tape b0_five b0_walk b0_ends b0_manX b0_manY b0_dogX b0_dogY b0_row b0_round b0_farOne b0_leads b0_drags b0_from b0_near g0_hasImage g0_remembered g0_taped g0_point g0_end g0_begin g0_deep g0_faultAt g0_steps f1 u1 g0_men g0_dogs f2 f3 f4) [4]) (w1 := (ceX11_lays cyI cyB cyJ cyZ a0 a1 a2 a3 b0_image b0_before b0_taken b0_tape b0_five a4 b0_walk b0_ends b0_manX b0_manY b0_dogX b0_dogY b0_row b0_round b0_farOne b0_leads b0_drags b0_from b0_near u1 g0_hasImage g0_remembered g0_taped g0_point g0_end g0_begin g0_deep g0_faultAt g0_steps f1 u3.1 u3.2.1 u3.2.2.1 u3.2.2.2)) hP hD [0, 1, 2, 3] [4] rfl rfl (by decide) (by decide) hk1 hFc hP1 hD1
    have hP := hP.sub (ws' := (ceX11_back cyI cyB cyJ cyZ a0 a1 a2 a3 a4 b0_image b0_before b0_taken b0_tape b0_five b0_walk b0_ends b0_manX b0_manY b0_dogX b0_dogY b0_row b0_round b0_farOne b0_leads b0_drags b0_from b0_near g0_hasImage g0_remembered g0_taped g0_point g0_end g0_begin g0_deep g0_faultAt g0_steps f1 u1 u3.1 u3.2.1 u3.2.2.1 u3.2.2.2 f4)) [1, 2, 3, 4, 0] rfl
    have hD := hD.sub (ws' := (ceX11_back cyI cyB cyJ cyZ a0 a1 a2 a3 a4 b0_image b0_before b0_taken b0_tape b0_five b0_walk b0_ends b0_manX b0_manY b0_dogX b0_dogY b0_row b0_round b0_farOne b0_leads b0_drags b0_from b0_near g0_hasImage g0_remembered g0_taped g0_point g0_end g0_begin g0_deep g0_faultAt g0_steps f1 u1 u3.1 u3.2.1 u3.2.2.1 u3.2.2.2 f4)) [1, 2, 3, 4, 0] (by decide) rfl
    generalize H1 = H at hP hS ⊢
    refine lv_iconst (v := 0) hx hb dX11_back_42 (by decide) ?_
    refine lv_istore_n (lv' := [(3, .int 0), (0, .ref a0), (1, .int x1), (2, .int x2)]) hx hb dX11_back_43 rfl hl (by decide) rfl (fun ls hl => ?_)
    obtain ⟨nn, hw⟩ := hw
    exact bX11_back_44 C0 hK hN hA hQ nn u1 u3.1 u3.2.1 u3.2.2.1 u3.2.2.2 f4 0 hw _ _ hP hD hS ls (lv_sub hl [1, 0] rfl)
  · have hw := hw.2 hc
    refine lv_iconst (v := 0) hx hb dX11_back_34 (by decide) ?_
    rw [hQ]
    exact W.iret (v := 0) hx hb hr (fun t ht hW => ⟨⟨0, (u1, g0_men, g0_dogs, f2, f3, f4), rfl, hw, by rw [ht]; exact hP, va_K.moved hW.alike hK, hD⟩, hS.F ht⟩) hS.2.2 dX11_back_35
set_option maxRecDepth 100000 in
set_option maxHeartbeats 4000000 in
theorem bX11_back_22 {p : Program} {l : Launch} {e : Env} {s : State} {m : MethodId} {args : Array Value} {below : List Frame} {meth : Method} {c : Code} {dC : Nat → ClassId} {dI : Nat → Nat → Nat} {cyI cyB cyJ cyZ : ClassId} {A : Nat → Prop} {a0 a1 a2 a3 a4 b0_image b0_before b0_taken b0_tape b0_five b0_walk b0_ends b0_manX b0_manY b0_dogX b0_dogY b0_row b0_round b0_farOne b0_leads b0_drags b0_from b0_near : Nat} {g0_hasImage : Int32} {g0_remembered : Int32} {g0_taped : Int32} {g0_point : Int32} {g0_end : Int32} {g0_begin : Int32} {g0_deep : Int32} {g0_faultAt : Int32} {g0_steps : Int32} (C0 : cxM p s m meth c args wsX11_back RX11 cX11_back 8 (some .int)) (hK : va_K (dC, dI) vwCl (tyA cyI cyB cyJ cyZ) s) (hN : nwA s) (hA : ∀ q : Nat, s.heap.size ≤ q → A q) {post : Int32 → (Int32 × Int32 × Int32 × (Nat → Int32) × (Nat → Int32) × (Nat → Int32)) → Prop} {f1 : Nat → Int32} {Q : State → Prop} (hQ : Q = MQ below (va_Qi post (fun u : Int32 × Int32 × Int32 × (Nat → Int32) × (Nat → Int32) × (Nat → Int32) => wAt dC dI cyI cyB cyJ cyZ A (ceX11_back cyI cyB cyJ cyZ a0 a1 a2 a3 a4 b0_image b0_before b0_taken b0_tape b0_five b0_walk b0_ends b0_manX b0_manY b0_dogX b0_dogY b0_row b0_round b0_farOne b0_leads b0_drags b0_from b0_near g0_hasImage g0_remembered g0_taped g0_point g0_end g0_begin g0_deep g0_faultAt g0_steps f1 u.1 u.2.1 u.2.2.1 u.2.2.2.1 u.2.2.2.2.1 u.2.2.2.2.2)) A) args s 0 0 A) : ∀ (g0_thrown : Int32) (g0_men : Int32) (g0_dogs : Int32) (f2 : Nat → Int32) (f3 : Nat → Int32) (f4 : Nat → Int32) (x1 : Int32) (x2 : Int32), wpX11_back_22 post f1 g0_thrown g0_men g0_dogs f2 f3 f4 x1 x2 → AtW p l e rmX11_back s m args below meth c dC dI A Q 8 0 0 (ceX11_back cyI cyB cyJ cyZ a0 a1 a2 a3 a4 b0_image b0_before b0_taken b0_tape b0_five b0_walk b0_ends b0_manX b0_manY b0_dogX b0_dogY b0_row b0_round b0_farOne b0_leads b0_drags b0_from b0_near g0_hasImage g0_remembered g0_taped g0_point g0_end g0_begin g0_deep g0_faultAt g0_steps f1 g0_thrown g0_men g0_dogs f2 f3 f4) [(0, .ref a0), (1, .int x1), (2, .int x2)] 22 [.ref a0] := by
  intro g0_thrown g0_men g0_dogs f2 f3 f4 x1 x2 hw H locs hP hD hS ls hl
  have C1 := C0
  obtain ⟨hx, hb, hr, hml, hown, hts, hlocks⟩ := C1
  refine lv_iconst (v := 1) hx hb dX11_back_22 (by decide) ?_
  refine lv_goto (tgt := 27) hx hb dX11_back_23 (by decide) ?_
  exact bX11_back_27 C0 hK hN hA hQ g0_thrown g0_men g0_dogs f2 f3 f4 x1 x2 1 hw _ _ hP hD hS ls (lv_sub hl [0, 1, 2] rfl)
set_option maxRecDepth 100000 in
set_option maxHeartbeats 4000000 in
theorem ctX11_back (l : Launch) (dC : Nat → ClassId) (dI : Nat → Nat → Nat) (cyI cyB cyJ cyZ : ClassId) (sz : Nat) (a0 a1 a2 a3 a4 b0_image b0_before b0_taken b0_tape b0_five b0_walk b0_ends b0_manX b0_manY b0_dogX b0_dogY b0_row b0_round b0_farOne b0_leads b0_drags b0_from b0_near : Nat) (g0_hasImage : Int32) (g0_remembered : Int32) (g0_taped : Int32) (g0_point : Int32) (g0_end : Int32) (g0_begin : Int32) (g0_deep : Int32) (g0_faultAt : Int32) (g0_steps : Int32) (f1 : Nat → Int32) (g0_thrown : Int32) (g0_men : Int32) (g0_dogs : Int32) (f2 : Nat → Int32) (f3 : Nat → Int32) (f4 : Nat → Int32) (p0 : Int32) (p1 : Int32) (post : Int32 → (Int32 × Int32 × Int32 × (Nat → Int32) × (Nat → Int32) × (Nat → Int32)) → Prop) (hw : wpX11_back post f1 g0_thrown g0_men g0_dogs f2 f3 f4 p0 p1) : Met l yX11_back wsX11_back rmX11_back (va_Pc [.ref a0, .int p0, .int p1] (wPre dC dI cyI cyB cyJ cyZ sz (ceX11_back cyI cyB cyJ cyZ a0 a1 a2 a3 a4 b0_image b0_before b0_taken b0_tape b0_five b0_walk b0_ends b0_manX b0_manY b0_dogX b0_dogY b0_row b0_round b0_farOne b0_leads b0_drags b0_from b0_near g0_hasImage g0_remembered g0_taped g0_point g0_end g0_begin g0_deep g0_faultAt g0_steps f1 g0_thrown g0_men g0_dogs f2 f3 f4))) (va_Qi post (fun u : Int32 × Int32 × Int32 × (Nat → Int32) × (Nat → Int32) × (Nat → Int32) => wAt dC dI cyI cyB cyJ cyZ (va_A (ceX11_back cyI cyB cyJ cyZ a0 a1 a2 a3 a4 b0_image b0_before b0_taken b0_tape b0_five b0_walk b0_ends b0_manX b0_manY b0_dogX b0_dogY b0_row b0_round b0_farOne b0_leads b0_drags b0_from b0_near g0_hasImage g0_remembered g0_taped g0_point g0_end g0_begin g0_deep g0_faultAt g0_steps f1 g0_thrown g0_men g0_dogs f2 f3 f4) sz) (ceX11_back cyI cyB cyJ cyZ a0 a1 a2 a3 a4 b0_image b0_before b0_taken b0_tape b0_five b0_walk b0_ends b0_manX b0_manY b0_dogX b0_dogY b0_row b0_round b0_farOne b0_leads b0_drags b0_from b0_near g0_hasImage g0_remembered g0_taped g0_point g0_end g0_begin g0_deep g0_faultAt g0_steps f1 u.1 u.2.1 u.2.2.1 u.2.2.2.1 u.2.2.2.2.1 u.2.2.2.2.2)) (va_A (ceX11_back cyI cyB cyJ cyZ a0 a1 a2 a3 a4 b0_image b0_before b0_taken b0_tape b0_five b0_walk b0_ends b0_manX b0_manY b0_dogX b0_dogY b0_row b0_round b0_farOne b0_leads b0_drags b0_from b0_near g0_hasImage g0_remembered g0_taped g0_point g0_end g0_begin g0_deep g0_faultAt g0_steps f1 g0_thrown g0_men g0_dogs f2 f3 f4) sz)) 0 0 (va_A (ceX11_back cyI cyB cyJ cyZ a0 a1 a2 a3 a4 b0_image b0_before b0_taken b0_tape b0_five b0_walk b0_ends b0_manX b0_manY b0_dogX b0_dogY b0_row b0_round b0_farOne b0_leads b0_drags b0_from b0_near g0_hasImage g0_remembered g0_taped g0_point g0_end g0_begin g0_deep g0_faultAt g0_steps f1 g0_thrown g0_men g0_dogs f2 f3 f4) sz) := by
  refine Met.ofW (cc := cX11_back) (maxL := 8) (ret := (some .int)) (by decide) rfl ?_
  intro p e s m args below meth c s₁ B hml hv
  obtain ⟨rfl, hsz, hP, hK, hD0, hN⟩ := hv
  have hx := B.exec
  have hb := B.bytes
  have hr := B.returns
  have hts := atoms_spec (ws := wsX11_back) B.pre
  have hown : s.vm.findClass RX11 = some m.cls := findClass_of_methodNamed B.named
  have hlocks := B.notSynchronized
  subst hsz
  have hD := hD0.self (sz := s.heap.size)
  generalize hAe : va_A (ceX11_back cyI cyB cyJ cyZ a0 a1 a2 a3 a4 b0_image b0_before b0_taken b0_tape b0_five b0_walk b0_ends b0_manX b0_manY b0_dogX b0_dogY b0_row b0_round b0_farOne b0_leads b0_drags b0_from b0_near g0_hasImage g0_remembered g0_taped g0_point g0_end g0_begin g0_deep g0_faultAt g0_steps f1 g0_thrown g0_men g0_dogs f2 f3 f4) s.heap.size = A at hD ⊢
  have hA : ∀ q : Nat, s.heap.size ≤ q → A q := fun q h => by rw [← hAe]; exact Or.inr h
  have hS : va_S A s.heap s.heap [] := va_S.rf
  have C0 : cxM p s m meth c _ wsX11_back RX11 cX11_back 8 (some .int) := ⟨hx, hb, hr, hml, hown, hts, hlocks⟩
  have hl := lv_entry ([.ref a0, .int p0, .int p1]) (n := 8) (Nat.le_of_ble_eq_true rfl)
  rw [lg_entry_eq]
  generalize (lg_sl ([.ref a0, .int p0, .int p1]) ++ List.replicate (8 - (lg_sl ([.ref a0, .int p0, .int p1])).length) Slot.unset).toArray = ls at hl ⊢
  have hl : lv_has ls 8 [(0, .ref a0), (1, .int p0), (2, .int p1)] := hl
  show W p l e rmX11_back s m _ below meth c _ _ _ _ _ _
  refine wq (fun Q hQ => ?_)
  refine lv_aload_n hx hb dX11_back_0 rfl (lv_at hl 0 rfl) ?_
  refine lv_iconst (v := 0) hx hb dX11_back_1 (by decide) ?_
  refine va_put (D := (dC, dI)) (ci := 11) (v := .int 0) (ty := .int) (C := RX11) (T := TX11) (N := 34) hx hb hts inX11_back_X11 tyX11 tyX11_ok nmX11 hown hK hP hD hS 0 rfl rfl 0 (by decide) (hts (.fieldLink RX11 3 "LeadParkModel" "thrown" "I") (List.mem_of_getElem? (i := 1) rfl)) (fun _ h9 => h9) rfl (by decide +kernel) rfl rfl (Nat.le_of_ble_eq_true rfl) dX11_back_2 (fun H locs hP hD hS => ?_)
  have hP : va_P (dC, dI) vwCl (ceX11_back cyI cyB cyJ cyZ a0 a1 a2 a3 a4 b0_image b0_before b0_taken b0_tape b0_five b0_walk b0_ends b0_manX b0_manY b0_dogX b0_dogY b0_row b0_round b0_farOne b0_leads b0_drags b0_from b0_near g0_hasImage g0_remembered g0_taped g0_point g0_end g0_begin g0_deep g0_faultAt g0_steps f1 0 g0_men g0_dogs f2 f3 f4) H := hP
  have hD : va_D A (ceX11_back cyI cyB cyJ cyZ a0 a1 a2 a3 a4 b0_image b0_before b0_taken b0_tape b0_five b0_walk b0_ends b0_manX b0_manY b0_dogX b0_dogY b0_row b0_round b0_farOne b0_leads b0_drags b0_from b0_near g0_hasImage g0_remembered g0_taped g0_point g0_end g0_begin g0_deep g0_faultAt g0_steps f1 0 g0_men g0_dogs f2 f3 f4) := hD
  refine lv_aload_n hx hb dX11_back_5 rfl (lv_at hl 0 rfl) ?_
  refine lv_aload_n hx hb dX11_back_6 rfl (lv_at hl 0 rfl) ?_
  refine lv_iload_n hx hb dX11_back_7 rfl (lv_at hl 1 rfl) ?_
  have hPc := hP.sub (ws' := (ceX11_noWay cyI cyB cyJ cyZ a0 a1 b0_image b0_before b0_taken b0_tape b0_five a2 a3 a4 b0_walk b0_ends b0_manX b0_manY b0_dogX b0_dogY b0_row b0_round b0_farOne b0_leads b0_drags b0_from b0_near 0 g0_hasImage g0_remembered g0_taped g0_point g0_end g0_begin g0_deep g0_faultAt g0_steps g0_men g0_dogs f1)) [0, 1] rfl
  have hDc := hD.sub (ws' := (ceX11_noWay cyI cyB cyJ cyZ a0 a1 b0_image b0_before b0_taken b0_tape b0_five a2 a3 a4 b0_walk b0_ends b0_manX b0_manY b0_dogX b0_dogY b0_row b0_round b0_farOne b0_leads b0_drags b0_from b0_near 0 g0_hasImage g0_remembered g0_taped g0_point g0_end g0_begin g0_deep g0_faultAt g0_steps g0_men g0_dogs f1)) [0, 1] (by decide) rfl
  have hFc := va_free (wc := (ceX11_noWay cyI cyB cyJ cyZ a0 a1 b0_image b0_before b0_taken b0_tape b0_five a2 a3 a4 b0_walk b0_ends b0_manX b0_manY b0_dogX b0_dogY b0_row b0_round b0_farOne b0_leads b0_drags b0_from b0_near 0 g0_hasImage g0_remembered g0_taped g0_point g0_end g0_begin g0_deep g0_faultAt g0_steps g0_men g0_dogs f1)) hD hS hA [0, 1] rfl
  refine va_calli (va_runV (As := [.int p0]) (rest := [.ref a0]) ⟨hx, hb, hml, hown, hts⟩ (ctX11_noWay l dC dI cyI cyB cyJ cyZ _ a0 a1 b0_image b0_before b0_taken b0_tape b0_five a2 a3 a4 b0_walk b0_ends b0_manX b0_manY b0_dogX b0_dogY b0_row b0_round b0_farOne b0_leads b0_drags b0_from b0_near 0 g0_hasImage g0_remembered g0_taped g0_point g0_end g0_begin g0_deep g0_faultAt g0_steps g0_men g0_dogs f1 p0 _ hw) (cwV 1 hts gX11_back_X11_noWay rfl rfl rfl (by decide +kernel) ⟨Nat.le_of_ble_eq_true rfl, Nat.le_of_ble_eq_true rfl⟩) ⟨wPre_blind, va_recv hK hPc (ci := 11) (q0 := 0) rfl rfl, fun U hU hW => wPre_of hPc hK hDc hN hU hW⟩ rfl rfl hl.1 rfl (lv_room (Nat.le_of_ble_eq_true rfl)) dX11_back_8 ⟨(Nat.zero_le _), (Nat.zero_le _)⟩) hS (fun q _ h => hFc q h) hFc (fun r2 u1 t H1 locs ht hvm hw hB hz1 hk1 hS => ?_)
  obtain ⟨hP1, hK1, hD1⟩ := hB
  rw [ht] at hP1
  obtain ⟨hP, hD⟩ := va_join (wr := pickW (ceX11_back cyI cyB cyJ cyZ a0 a1 a2 a3 a4 b0_image b0_before b0_taken b0_tape b0_five b0_walk b0_ends b0_manX b0_manY b0_dogX b0_dogY b0_row b0_round b0_farOne b0_leads b0_drags b0_from b0_near g0_hasImage g0_remembered g0_taped g0_point g0_end g0_begin g0_deep g0_faultAt g0_steps f1 0 g0_men g0_dogs f2 f3 f4) [2, 3, 4]) (w1 := (ceX11_noWay cyI cyB cyJ cyZ a0 a1 b0_image b0_before b0_taken b0_tape b0_five a2 a3 a4 b0_walk b0_ends b0_manX b0_manY b0_dogX b0_dogY b0_row b0_round b0_farOne b0_leads b0_drags b0_from b0_near 0 g0_hasImage g0_remembered g0_taped g0_point g0_end g0_begin g0_deep g0_faultAt g0_steps g0_men g0_dogs f1)) hP hD [0, 1] [2, 3, 4] rfl rfl (by decide) (by decide) hk1 hFc hP1 hD1
  have hP := hP.sub (ws' := (ceX11_back cyI cyB cyJ cyZ a0 a1 a2 a3 a4 b0_image b0_before b0_taken b0_tape b0_five b0_walk b0_ends b0_manX b0_manY b0_dogX b0_dogY b0_row b0_round b0_farOne b0_leads b0_drags b0_from b0_near g0_hasImage g0_remembered g0_taped g0_point g0_end g0_begin g0_deep g0_faultAt g0_steps f1 0 g0_men g0_dogs f2 f3 f4)) [3, 4, 0, 1, 2] rfl
  have hD := hD.sub (ws' := (ceX11_back cyI cyB cyJ cyZ a0 a1 a2 a3 a4 b0_image b0_before b0_taken b0_tape b0_five b0_walk b0_ends b0_manX b0_manY b0_dogX b0_dogY b0_row b0_round b0_farOne b0_leads b0_drags b0_from b0_near g0_hasImage g0_remembered g0_taped g0_point g0_end g0_begin g0_deep g0_faultAt g0_steps f1 0 g0_men g0_dogs f2 f3 f4)) [3, 4, 0, 1, 2] (by decide) rfl
  generalize H1 = H at hP hS ⊢
  refine lv_if_ne (tgt := 22) hx hb dX11_back_11 (by decide) (fun hc => ?_) (fun hc => ?_)
  · have hw := hw.1 hc
    exact bX11_back_22 C0 hK hN hA hQ 0 g0_men g0_dogs f2 f3 f4 p0 p1 hw _ _ hP hD hS ls (lv_sub hl [0, 1, 2] rfl)
  · have hw := hw.2 hc
    refine lv_aload_n hx hb dX11_back_14 rfl (lv_at hl 0 rfl) ?_
    refine lv_iload_n hx hb dX11_back_15 rfl (lv_at hl 2 rfl) ?_
    have hPc := hP.sub (ws' := (ceX11_noWay cyI cyB cyJ cyZ a0 a1 b0_image b0_before b0_taken b0_tape b0_five a2 a3 a4 b0_walk b0_ends b0_manX b0_manY b0_dogX b0_dogY b0_row b0_round b0_farOne b0_leads b0_drags b0_from b0_near 0 g0_hasImage g0_remembered g0_taped g0_point g0_end g0_begin g0_deep g0_faultAt g0_steps g0_men g0_dogs f1)) [0, 1] rfl
    have hDc := hD.sub (ws' := (ceX11_noWay cyI cyB cyJ cyZ a0 a1 b0_image b0_before b0_taken b0_tape b0_five a2 a3 a4 b0_walk b0_ends b0_manX b0_manY b0_dogX b0_dogY b0_row b0_round b0_farOne b0_leads b0_drags b0_from b0_near 0 g0_hasImage g0_remembered g0_taped g0_point g0_end g0_begin g0_deep g0_faultAt g0_steps g0_men g0_dogs f1)) [0, 1] (by decide) rfl
    have hFc := va_free (wc := (ceX11_noWay cyI cyB cyJ cyZ a0 a1 b0_image b0_before b0_taken b0_tape b0_five a2 a3 a4 b0_walk b0_ends b0_manX b0_manY b0_dogX b0_dogY b0_row b0_round b0_farOne b0_leads b0_drags b0_from b0_near 0 g0_hasImage g0_remembered g0_taped g0_point g0_end g0_begin g0_deep g0_faultAt g0_steps g0_men g0_dogs f1)) hD hS hA [0, 1] rfl
    refine va_calli (va_runV (As := [.int p1]) (rest := [.ref a0]) ⟨hx, hb, hml, hown, hts⟩ (ctX11_noWay l dC dI cyI cyB cyJ cyZ _ a0 a1 b0_image b0_before b0_taken b0_tape b0_five a2 a3 a4 b0_walk b0_ends b0_manX b0_manY b0_dogX b0_dogY b0_row b0_round b0_farOne b0_leads b0_drags b0_from b0_near 0 g0_hasImage g0_remembered g0_taped g0_point g0_end g0_begin g0_deep g0_faultAt g0_steps g0_men g0_dogs f1 p1 _ hw) (cwV 1 hts gX11_back_X11_noWay rfl rfl rfl (by decide +kernel) ⟨Nat.le_of_ble_eq_true rfl, Nat.le_of_ble_eq_true rfl⟩) ⟨wPre_blind, va_recv hK hPc (ci := 11) (q0 := 0) rfl rfl, fun U hU hW => wPre_of hPc hK hDc hN hU hW⟩ rfl rfl hl.1 rfl (lv_room (Nat.le_of_ble_eq_true rfl)) dX11_back_16 ⟨(Nat.zero_le _), (Nat.zero_le _)⟩) hS (fun q _ h => hFc q h) hFc (fun r4 u3 t H1 locs ht hvm hw hB hz1 hk1 hS => ?_)
    obtain ⟨hP1, hK1, hD1⟩ := hB
    rw [ht] at hP1
    obtain ⟨hP, hD⟩ := va_join (wr := pickW (ceX11_back cyI cyB cyJ cyZ a0 a1 a2 a3 a4 b0_image b0_before b0_taken b0_tape b0_five b0_walk b0_ends b0_manX b0_manY b0_dogX b0_dogY b0_row b0_round b0_farOne b0_leads b0_drags b0_from b0_near g0_hasImage g0_remembered g0_taped g0_point g0_end g0_begin g0_deep g0_faultAt g0_steps f1 0 g0_men g0_dogs f2 f3 f4) [2, 3, 4]) (w1 := (ceX11_noWay cyI cyB cyJ cyZ a0 a1 b0_image b0_before b0_taken b0_tape b0_five a2 a3 a4 b0_walk b0_ends b0_manX b0_manY b0_dogX b0_dogY b0_row b0_round b0_farOne b0_leads b0_drags b0_from b0_near 0 g0_hasImage g0_remembered g0_taped g0_point g0_end g0_begin g0_deep g0_faultAt g0_steps g0_men g0_dogs f1)) hP hD [0, 1] [2, 3, 4] rfl rfl (by decide) (by decide) hk1 hFc hP1 hD1
    have hP := hP.sub (ws' := (ceX11_back cyI cyB cyJ cyZ a0 a1 a2 a3 a4 b0_image b0_before b0_taken b0_tape b0_five b0_walk b0_ends b0_manX b0_manY b0_dogX b0_dogY b0_row b0_round b0_farOne b0_leads b0_drags b0_from b0_near g0_hasImage g0_remembered g0_taped g0_point g0_end g0_begin g0_deep g0_faultAt g0_steps f1 0 g0_men g0_dogs f2 f3 f4)) [3, 4, 0, 1, 2] rfl
    have hD := hD.sub (ws' := (ceX11_back cyI cyB cyJ cyZ a0 a1 a2 a3 a4 b0_image b0_before b0_taken b0_tape b0_five b0_walk b0_ends b0_manX b0_manY b0_dogX b0_dogY b0_row b0_round b0_farOne b0_leads b0_drags b0_from b0_near g0_hasImage g0_remembered g0_taped g0_point g0_end g0_begin g0_deep g0_faultAt g0_steps f1 0 g0_men g0_dogs f2 f3 f4)) [3, 4, 0, 1, 2] (by decide) rfl
    generalize H1 = H at hP hS ⊢
    refine lv_if_eq (tgt := 26) hx hb dX11_back_19 (by decide) (fun hc => ?_) (fun hc => ?_)
    · have hw := hw.1 hc
      refine lv_iconst (v := 0) hx hb dX11_back_26 (by decide) ?_
      exact bX11_back_27 C0 hK hN hA hQ 0 g0_men g0_dogs f2 f3 f4 p0 p1 0 hw _ _ hP hD hS ls (lv_sub hl [0, 1, 2] rfl)
    · have hw := hw.2 hc
      exact bX11_back_22 C0 hK hN hA hQ 0 g0_men g0_dogs f2 f3 f4 p0 p1 hw _ _ hP hD hS ls (lv_sub hl [0, 1, 2] rfl)
/-! LeadParkModel.roundLead (I)I -/
abbrev ceX11_roundLead (cyI cyB cyJ cyZ : ClassId) (a0 a1 a2 b0_world b0_image b0_before b0_taken b0_tape b0_five b0_value b0_lead b0_walk b0_ends b0_manX b0_manY b0_dogX b0_dogY b0_row b0_farOne b0_leads b0_drags b0_from b0_near : Nat) (g0_thrown : Int32) (g0_hasImage : Int32) (g0_remembered : Int32) (g0_taped : Int32) (g0_point : Int32) (g0_end : Int32) (g0_begin : Int32) (g0_deep : Int32) (g0_faultAt : Int32) (g0_steps : Int32) (g0_men : Int32) (g0_dogs : Int32) (f1 : Nat → Int32) (f2 : Nat → Int32) : va_W := [(a0, .inr (11, [.int g0_thrown, .ref b0_world, .ref b0_image, .ref b0_before, .int g0_hasImage, .ref b0_taken, .int g0_remembered, .ref b0_tape, .int g0_taped, .int g0_point, .int g0_end, .int g0_begin, .int g0_deep, .int g0_faultAt, .ref b0_five, .int g0_steps, .ref b0_value, .ref a1, .int g0_men, .int g0_dogs, .ref b0_lead, .ref b0_walk, .ref b0_ends, .ref b0_manX, .ref b0_manY, .ref b0_dogX, .ref b0_dogY, .ref b0_row, .ref a2, .ref b0_farOne, .ref b0_leads, .ref b0_drags, .ref b0_from, .ref b0_near])), (a1, .inl (cyI, 900, .inl f1)), (a2, .inl (cyI, 31, .inl f2))]

theorem inX11_roundLead_X11 : ∀ w ∈ wsX110, w ∈ wsX11_roundLead := fun _ h => List.mem_cons_of_mem _ (List.mem_append_right _ h)
abbrev rmX11_roundLead : Room := { frames := 1, cells := 0, slots := 0, locals := 40 }
set_option maxRecDepth 100000 in
set_option maxHeartbeats 4000000 in
theorem bX11_roundLead_121 {p : Program} {l : Launch} {e : Env} {s : State} {m : MethodId} {args : Array Value} {below : List Frame} {meth : Method} {c : Code} {dC : Nat → ClassId} {dI : Nat → Nat → Nat} {cyI cyB cyJ cyZ : ClassId} {A : Nat → Prop} {a0 a1 a2 b0_world b0_image b0_before b0_taken b0_tape b0_five b0_value b0_lead b0_walk b0_ends b0_manX b0_manY b0_dogX b0_dogY b0_row b0_farOne b0_leads b0_drags b0_from b0_near : Nat} {g0_thrown : Int32} {g0_hasImage : Int32} {g0_remembered : Int32} {g0_taped : Int32} {g0_point : Int32} {g0_end : Int32} {g0_begin : Int32} {g0_deep : Int32} {g0_faultAt : Int32} {g0_steps : Int32} (C0 : cxM p s m meth c args wsX11_roundLead RX11 cX11_roundLead 9 (some .int)) (hK : va_K (dC, dI) vwCl (tyA cyI cyB cyJ cyZ) s) (hN : nwA s) (hA : ∀ q : Nat, s.heap.size ≤ q → A q) {post : Int32 → ((Nat → Int32)) → Prop} {g0_men : Int32} {g0_dogs : Int32} {f1 : Nat → Int32} {k51 : (Nat → Int32) → Int32 → Int32 → Int32 → Int32 → Int32 → Int32 → Prop} {k37 : (Nat → Int32) → Int32 → Int32 → Int32 → Int32 → Prop} {Q : State → Prop} (hQ : Q = MQ below (va_Qi post (fun u : (Nat → Int32) => wAt dC dI cyI cyB cyJ cyZ A (ceX11_roundLead cyI cyB cyJ cyZ a0 a1 a2 b0_world b0_image b0_before b0_taken b0_tape b0_five b0_value b0_lead b0_walk b0_ends b0_manX b0_manY b0_dogX b0_dogY b0_row b0_farOne b0_leads b0_drags b0_from b0_near g0_thrown g0_hasImage g0_remembered g0_taped g0_point g0_end g0_begin g0_deep g0_faultAt g0_steps g0_men g0_dogs f1 u)) A) args s 0 0 A) (hk51 : ∀ (f2 : Nat → Int32) (x1 : Int32) (x2 : Int32) (x3 : Int32) (x4 : Int32) (x5 : Int32) (x6 : Int32), k51 f2 x1 x2 x3 x4 x5 x6 → AtW p l e rmX11_roundLead s m args below meth c dC dI A Q 9 0 0 (ceX11_roundLead cyI cyB cyJ cyZ a0 a1 a2 b0_world b0_image b0_before b0_taken b0_tape b0_five b0_value b0_lead b0_walk b0_ends b0_manX b0_manY b0_dogX b0_dogY b0_row b0_farOne b0_leads b0_drags b0_from b0_near g0_thrown g0_hasImage g0_remembered g0_taped g0_point g0_end g0_begin g0_deep g0_faultAt g0_steps g0_men g0_dogs f1 f2) [(0, .ref a0), (1, .int x1), (2, .int x2), (3, .int x3), (4, .int x4), (5, .int x5), (6, .int x6)] 51 []) (hk37 : ∀ (f2 : Nat → Int32) (x1 : Int32) (x2 : Int32) (x3 : Int32) (x4 : Int32), k37 f2 x1 x2 x3 x4 → AtW p l e rmX11_roundLead s m args below meth c dC dI A Q 9 0 0 (ceX11_roundLead cyI cyB cyJ cyZ a0 a1 a2 b0_world b0_image b0_before b0_taken b0_tape b0_five b0_value b0_lead b0_walk b0_ends b0_manX b0_manY b0_dogX b0_dogY b0_row b0_farOne b0_leads b0_drags b0_from b0_near g0_thrown g0_hasImage g0_remembered g0_taped g0_point g0_end g0_begin g0_deep g0_faultAt g0_steps g0_men g0_dogs f1 f2) [(0, .ref a0), (1, .int x1), (2, .int x2), (3, .int x3), (4, .int x4)] 37 []) : ∀ (f2 : Nat → Int32) (x1 : Int32) (x2 : Int32) (x3 : Int32) (x4 : Int32) (x6 : Int32) (x7 : Int32) (s0 : Int32), wpX11_roundLead_121 k51 k37 post g0_men g0_dogs f1 f2 x1 x2 x3 x4 x6 x7 s0 → AtW p l e rmX11_roundLead s m args below meth c dC dI A Q 9 0 0 (ceX11_roundLead cyI cyB cyJ cyZ a0 a1 a2 b0_world b0_image b0_before b0_taken b0_tape b0_five b0_value b0_lead b0_walk b0_ends b0_manX b0_manY b0_dogX b0_dogY b0_row b0_farOne b0_leads b0_drags b0_from b0_near g0_thrown g0_hasImage g0_remembered g0_taped g0_point g0_end g0_begin g0_deep g0_faultAt g0_steps g0_men g0_dogs f1 f2) [(0, .ref a0), (1, .int x1), (2, .int x2), (3, .int x3), (4, .int x4), (6, .int x6), (7, .int x7)] 121 [.int s0] := by
  intro f2 x1 x2 x3 x4 x6 x7 s0 hw H locs hP hD hS ls hl
  have C1 := C0
  obtain ⟨hx, hb, hr, hml, hown, hts, hlocks⟩ := C1
  refine lv_istore (lv' := [(8, .int s0), (0, .ref a0), (1, .int x1), (2, .int x2), (3, .int x3), (4, .int x4), (6, .int x6), (7, .int x7)]) hx hb dX11_roundLead_121 hl (by decide) rfl (fun ls hl => ?_)
  refine lv_aload_n hx hb dX11_roundLead_123 rfl (lv_at hl 1 rfl) ?_
  refine va_get (D := (dC, dI)) (ci := 11) (v := .ref a2) (C := RX11) (T := TX11) (N := 34) hx hb hts inX11_roundLead_X11 hown hK hP 0 rfl rfl 28 (by decide) (hts (.fieldLink RX11 67 "LeadParkModel" "round" "[I") (List.mem_of_getElem? (i := 4) rfl)) (fun _ h9 => h9) rfl dX11_roundLead_124 ?_
  refine lv_iload hx hb dX11_roundLead_127 (lv_at hl 6 rfl) ?_
  refine lv_aload_n hx hb dX11_roundLead_129 rfl (lv_at hl 1 rfl) ?_
  refine va_get (D := (dC, dI)) (ci := 11) (v := .ref a1) (C := RX11) (T := TX11) (N := 34) hx hb hts inX11_roundLead_X11 hown hK hP 0 rfl rfl 17 (by decide) (hts (.fieldLink RX11 39 "LeadParkModel" "far" "[I") (List.mem_of_getElem? (i := 9) rfl)) (fun _ h9 => h9) rfl dX11_roundLead_130 ?_
  refine lv_bipush (v := 30) hx hb dX11_roundLead_133 (by decide) ?_
  refine lv_iload hx hb dX11_roundLead_135 (lv_at hl 5 rfl) ?_
  refine lv_aload_n hx hb dX11_roundLead_137 rfl (lv_at hl 1 rfl) ?_
  refine va_get (D := (dC, dI)) (ci := 11) (v := .int g0_men) (C := RX11) (T := TX11) (N := 34) hx hb hts inX11_roundLead_X11 hown hK hP 0 rfl rfl 18 (by decide) (hts (.fieldLink RX11 300 "LeadParkModel" "men" "I") (List.mem_of_getElem? (i := 1) rfl)) (fun _ h9 => h9) rfl dX11_roundLead_138 ?_
  obtain ⟨h0, hw⟩ := hw
  refine lv_irem hx hb dX11_roundLead_141 h0 ?_
  refine lv_imul hx hb dX11_roundLead_142 ?_
  refine lv_iload_n hx hb dX11_roundLead_143 rfl (lv_at hl 2 rfl) ?_
  refine lv_iload hx hb dX11_roundLead_144 (lv_at hl 6 rfl) ?_
  refine lv_iadd hx hb dX11_roundLead_146 ?_
  refine lv_aload_n hx hb dX11_roundLead_147 rfl (lv_at hl 1 rfl) ?_
  refine va_get (D := (dC, dI)) (ci := 11) (v := .int g0_dogs) (C := RX11) (T := TX11) (N := 34) hx hb hts inX11_roundLead_X11 hown hK hP 0 rfl rfl 19 (by decide) (hts (.fieldLink RX11 303 "LeadParkModel" "dogs" "I") (List.mem_of_getElem? (i := 2) rfl)) (fun _ h9 => h9) rfl dX11_roundLead_148 ?_
  obtain ⟨h0, hw⟩ := hw
  refine lv_irem hx hb dX11_roundLead_151 h0 ?_
  refine lv_iadd hx hb dX11_roundLead_152 ?_
  obtain ⟨hi, hw⟩ := hw
  refine va_iald hx hb hK hP 1 0 rfl rfl hi dX11_roundLead_153 ?_
  refine lv_iload hx hb dX11_roundLead_154 (lv_at hl 0 rfl) ?_
  refine va_mmax hx hb (hml.trans hl.1.symm) hown (hts (.methodLink RX11 273 Lib.Math.max.name) (List.mem_of_getElem? (i := 10) rfl)) (hts (.static Lib.Math.max.name) (List.mem_of_getElem? (i := 11) rfl)) (hts (.initialized "java/lang/Math") (List.mem_of_getElem? (i := 7) rfl)) (hts (.code Lib.Math.max.name Lib.Math.max.code 2 (some .int)) (List.mem_of_getElem? (i := 12) rfl)) (Nat.le_of_ble_eq_true rfl) (Nat.le_of_ble_eq_true rfl) (by decide) (by decide) dX11_roundLead_156 ?_
  obtain ⟨hi, hw⟩ := hw
  refine va_iast hx hb hK hP hD hS 2 0 rfl rfl hi dX11_roundLead_159 (fun H locs hP hD hS => ?_)
  have hP : va_P (dC, dI) vwCl (ceX11_roundLead cyI cyB cyJ cyZ a0 a1 a2 b0_world b0_image b0_before b0_taken b0_tape b0_five b0_value b0_lead b0_walk b0_ends b0_manX b0_manY b0_dogX b0_dogY b0_row b0_farOne b0_leads b0_drags b0_from b0_near g0_thrown g0_hasImage g0_remembered g0_taped g0_point g0_end g0_begin g0_deep g0_faultAt g0_steps g0_men g0_dogs f1 (upd f2 x6.toNatClampNeg (iMax (f1 ((30 * (x4 - x4 / g0_men * g0_men)) + ((x1 + x6) - (x1 + x6) / g0_dogs * g0_dogs)).toNatClampNeg) s0))) H := hP
  have hD : va_D A (ceX11_roundLead cyI cyB cyJ cyZ a0 a1 a2 b0_world b0_image b0_before b0_taken b0_tape b0_five b0_value b0_lead b0_walk b0_ends b0_manX b0_manY b0_dogX b0_dogY b0_row b0_farOne b0_leads b0_drags b0_from b0_near g0_thrown g0_hasImage g0_remembered g0_taped g0_point g0_end g0_begin g0_deep g0_faultAt g0_steps g0_men g0_dogs f1 (upd f2 x6.toNatClampNeg (iMax (f1 ((30 * (x4 - x4 / g0_men * g0_men)) + ((x1 + x6) - (x1 + x6) / g0_dogs * g0_dogs)).toNatClampNeg) s0))) := hD
  refine lv_iload hx hb dX11_roundLead_160 (lv_at hl 7 rfl) ?_
  refine lv_istore (lv' := [(5, .int x7), (8, .int s0), (0, .ref a0), (1, .int x1), (2, .int x2), (3, .int x3), (4, .int x4), (6, .int x6), (7, .int x7)]) hx hb dX11_roundLead_162 hl (by decide) rfl (fun ls hl => ?_)
  obtain ⟨v1, ev1⟩ : ∃ y : Int32, y = x6 + 1 := ⟨_, rfl⟩
  have hw := hw v1 ev1
  refine lv_iinc (v := v1) (lv' := [(6, .int v1), (5, .int x7), (8, .int s0), (0, .ref a0), (1, .int x1), (2, .int x2), (3, .int x3), (4, .int x4), (7, .int x7)]) hx hb dX11_roundLead_164 hl (k := 7) rfl (by rw [ev1]; rfl) (by decide) rfl (fun ls hl => ?_)
  refine lv_goto (tgt := 51) hx hb dX11_roundLead_167 (by decide) ?_
  exact hk51 (upd f2 x6.toNatClampNeg (iMax (f1 ((30 * (x4 - x4 / g0_men * g0_men)) + ((x1 + x6) - (x1 + x6) / g0_dogs * g0_dogs)).toNatClampNeg) s0)) x1 x2 x3 x4 x7 v1 hw H locs hP hD hS ls (lv_sub hl [3, 4, 5, 6, 7, 1, 0] rfl)
set_option maxRecDepth 100000 in
set_option maxHeartbeats 4000000 in
theorem bX11_roundLead_115 {p : Program} {l : Launch} {e : Env} {s : State} {m : MethodId} {args : Array Value} {below : List Frame} {meth : Method} {c : Code} {dC : Nat → ClassId} {dI : Nat → Nat → Nat} {cyI cyB cyJ cyZ : ClassId} {A : Nat → Prop} {a0 a1 a2 b0_world b0_image b0_before b0_taken b0_tape b0_five b0_value b0_lead b0_walk b0_ends b0_manX b0_manY b0_dogX b0_dogY b0_row b0_farOne b0_leads b0_drags b0_from b0_near : Nat} {g0_thrown : Int32} {g0_hasImage : Int32} {g0_remembered : Int32} {g0_taped : Int32} {g0_point : Int32} {g0_end : Int32} {g0_begin : Int32} {g0_deep : Int32} {g0_faultAt : Int32} {g0_steps : Int32} (C0 : cxM p s m meth c args wsX11_roundLead RX11 cX11_roundLead 9 (some .int)) (hK : va_K (dC, dI) vwCl (tyA cyI cyB cyJ cyZ) s) (hN : nwA s) (hA : ∀ q : Nat, s.heap.size ≤ q → A q) {post : Int32 → ((Nat → Int32)) → Prop} {g0_men : Int32} {g0_dogs : Int32} {f1 : Nat → Int32} {k51 : (Nat → Int32) → Int32 → Int32 → Int32 → Int32 → Int32 → Int32 → Prop} {k37 : (Nat → Int32) → Int32 → Int32 → Int32 → Int32 → Prop} {Q : State → Prop} (hQ : Q = MQ below (va_Qi post (fun u : (Nat → Int32) => wAt dC dI cyI cyB cyJ cyZ A (ceX11_roundLead cyI cyB cyJ cyZ a0 a1 a2 b0_world b0_image b0_before b0_taken b0_tape b0_five b0_value b0_lead b0_walk b0_ends b0_manX b0_manY b0_dogX b0_dogY b0_row b0_farOne b0_leads b0_drags b0_from b0_near g0_thrown g0_hasImage g0_remembered g0_taped g0_point g0_end g0_begin g0_deep g0_faultAt g0_steps g0_men g0_dogs f1 u)) A) args s 0 0 A) (hk51 : ∀ (f2 : Nat → Int32) (x1 : Int32) (x2 : Int32) (x3 : Int32) (x4 : Int32) (x5 : Int32) (x6 : Int32), k51 f2 x1 x2 x3 x4 x5 x6 → AtW p l e rmX11_roundLead s m args below meth c dC dI A Q 9 0 0 (ceX11_roundLead cyI cyB cyJ cyZ a0 a1 a2 b0_world b0_image b0_before b0_taken b0_tape b0_five b0_value b0_lead b0_walk b0_ends b0_manX b0_manY b0_dogX b0_dogY b0_row b0_farOne b0_leads b0_drags b0_from b0_near g0_thrown g0_hasImage g0_remembered g0_taped g0_point g0_end g0_begin g0_deep g0_faultAt g0_steps g0_men g0_dogs f1 f2) [(0, .ref a0), (1, .int x1), (2, .int x2), (3, .int x3), (4, .int x4), (5, .int x5), (6, .int x6)] 51 []) (hk37 : ∀ (f2 : Nat → Int32) (x1 : Int32) (x2 : Int32) (x3 : Int32) (x4 : Int32), k37 f2 x1 x2 x3 x4 → AtW p l e rmX11_roundLead s m args below meth c dC dI A Q 9 0 0 (ceX11_roundLead cyI cyB cyJ cyZ a0 a1 a2 b0_world b0_image b0_before b0_taken b0_tape b0_five b0_value b0_lead b0_walk b0_ends b0_manX b0_manY b0_dogX b0_dogY b0_row b0_farOne b0_leads b0_drags b0_from b0_near g0_thrown g0_hasImage g0_remembered g0_taped g0_point g0_end g0_begin g0_deep g0_faultAt g0_steps g0_men g0_dogs f1 f2) [(0, .ref a0), (1, .int x1), (2, .int x2), (3, .int x3), (4, .int x4)] 37 []) : ∀ (f2 : Nat → Int32) (x1 : Int32) (x2 : Int32) (x3 : Int32) (x4 : Int32) (x6 : Int32) (x7 : Int32) (s0 : Int32) (s1 : Int32) (s2 : Int32), wpX11_roundLead_115 k51 k37 post g0_men g0_dogs f1 f2 x1 x2 x3 x4 x6 x7 s0 s1 s2 → AtW p l e rmX11_roundLead s m args below meth c dC dI A Q 9 0 0 (ceX11_roundLead cyI cyB cyJ cyZ a0 a1 a2 b0_world b0_image b0_before b0_taken b0_tape b0_five b0_value b0_lead b0_walk b0_ends b0_manX b0_manY b0_dogX b0_dogY b0_row b0_farOne b0_leads b0_drags b0_from b0_near g0_thrown g0_hasImage g0_remembered g0_taped g0_point g0_end g0_begin g0_deep g0_faultAt g0_steps g0_men g0_dogs f1 f2) [(0, .ref a0), (1, .int x1), (2, .int x2), (3, .int x3), (4, .int x4), (6, .int x6), (7, .int x7)] 115 [.int s2, .int s1, .int s0] := by
  intro f2 x1 x2 x3 x4 x6 x7 s0 s1 s2 hw H locs hP hD hS ls hl
  have C1 := C0
  obtain ⟨hx, hb, hr, hml, hown, hts, hlocks⟩ := C1
  refine va_mmin hx hb (hml.trans hl.1.symm) hown (hts (.methodLink RX11 268 Lib.Math.min.name) (List.mem_of_getElem? (i := 5) rfl)) (hts (.static Lib.Math.min.name) (List.mem_of_getElem? (i := 6) rfl)) (hts (.initialized "java/lang/Math") (List.mem_of_getElem? (i := 7) rfl)) (hts (.code Lib.Math.min.name Lib.Math.min.code 2 (some .int)) (List.mem_of_getElem? (i := 8) rfl)) (Nat.le_of_ble_eq_true rfl) (Nat.le_of_ble_eq_true rfl) (by decide) (by decide) dX11_roundLead_115 ?_
  refine va_mmin hx hb (hml.trans hl.1.symm) hown (hts (.methodLink RX11 268 Lib.Math.min.name) (List.mem_of_getElem? (i := 5) rfl)) (hts (.static Lib.Math.min.name) (List.mem_of_getElem? (i := 6) rfl)) (hts (.initialized "java/lang/Math") (List.mem_of_getElem? (i := 7) rfl)) (hts (.code Lib.Math.min.name Lib.Math.min.code 2 (some .int)) (List.mem_of_getElem? (i := 8) rfl)) (Nat.le_of_ble_eq_true rfl) (Nat.le_of_ble_eq_true rfl) (by decide) (by decide) dX11_roundLead_118 ?_
  exact bX11_roundLead_121 C0 hK hN hA hQ hk51 hk37 f2 x1 x2 x3 x4 x6 x7 (iMin s0 (iMin s1 s2)) hw _ _ hP hD hS ls (lv_sub hl [0, 1, 2, 3, 4, 5, 6] rfl)
set_option maxRecDepth 100000 in
set_option maxHeartbeats 4000000 in
theorem bX11_roundLead_91 {p : Program} {l : Launch} {e : Env} {s : State} {m : MethodId} {args : Array Value} {below : List Frame} {meth : Method} {c : Code} {dC : Nat → ClassId} {dI : Nat → Nat → Nat} {cyI cyB cyJ cyZ : ClassId} {A : Nat → Prop} {a0 a1 a2 b0_world b0_image b0_before b0_taken b0_tape b0_five b0_value b0_lead b0_walk b0_ends b0_manX b0_manY b0_dogX b0_dogY b0_row b0_farOne b0_leads b0_drags b0_from b0_near : Nat} {g0_thrown : Int32} {g0_hasImage : Int32} {g0_remembered : Int32} {g0_taped : Int32} {g0_point : Int32} {g0_end : Int32} {g0_begin : Int32} {g0_deep : Int32} {g0_faultAt : Int32} {g0_steps : Int32} (C0 : cxM p s m meth c args wsX11_roundLead RX11 cX11_roundLead 9 (some .int)) (hK : va_K (dC, dI) vwCl (tyA cyI cyB cyJ cyZ) s) (hN : nwA s) (hA : ∀ q : Nat, s.heap.size ≤ q → A q) {post : Int32 → ((Nat → Int32)) → Prop} {g0_men : Int32} {g0_dogs : Int32} {f1 : Nat → Int32} {k51 : (Nat → Int32) → Int32 → Int32 → Int32 → Int32 → Int32 → Int32 → Prop} {k37 : (Nat → Int32) → Int32 → Int32 → Int32 → Int32 → Prop} {Q : State → Prop} (hQ : Q = MQ below (va_Qi post (fun u : (Nat → Int32) => wAt dC dI cyI cyB cyJ cyZ A (ceX11_roundLead cyI cyB cyJ cyZ a0 a1 a2 b0_world b0_image b0_before b0_taken b0_tape b0_five b0_value b0_lead b0_walk b0_ends b0_manX b0_manY b0_dogX b0_dogY b0_row b0_farOne b0_leads b0_drags b0_from b0_near g0_thrown g0_hasImage g0_remembered g0_taped g0_point g0_end g0_begin g0_deep g0_faultAt g0_steps g0_men g0_dogs f1 u)) A) args s 0 0 A) (hk51 : ∀ (f2 : Nat → Int32) (x1 : Int32) (x2 : Int32) (x3 : Int32) (x4 : Int32) (x5 : Int32) (x6 : Int32), k51 f2 x1 x2 x3 x4 x5 x6 → AtW p l e rmX11_roundLead s m args below meth c dC dI A Q 9 0 0 (ceX11_roundLead cyI cyB cyJ cyZ a0 a1 a2 b0_world b0_image b0_before b0_taken b0_tape b0_five b0_value b0_lead b0_walk b0_ends b0_manX b0_manY b0_dogX b0_dogY b0_row b0_farOne b0_leads b0_drags b0_from b0_near g0_thrown g0_hasImage g0_remembered g0_taped g0_point g0_end g0_begin g0_deep g0_faultAt g0_steps g0_men g0_dogs f1 f2) [(0, .ref a0), (1, .int x1), (2, .int x2), (3, .int x3), (4, .int x4), (5, .int x5), (6, .int x6)] 51 []) (hk37 : ∀ (f2 : Nat → Int32) (x1 : Int32) (x2 : Int32) (x3 : Int32) (x4 : Int32), k37 f2 x1 x2 x3 x4 → AtW p l e rmX11_roundLead s m args below meth c dC dI A Q 9 0 0 (ceX11_roundLead cyI cyB cyJ cyZ a0 a1 a2 b0_world b0_image b0_before b0_taken b0_tape b0_five b0_value b0_lead b0_walk b0_ends b0_manX b0_manY b0_dogX b0_dogY b0_row b0_farOne b0_leads b0_drags b0_from b0_near g0_thrown g0_hasImage g0_remembered g0_taped g0_point g0_end g0_begin g0_deep g0_faultAt g0_steps g0_men g0_dogs f1 f2) [(0, .ref a0), (1, .int x1), (2, .int x2), (3, .int x3), (4, .int x4)] 37 []) : ∀ (f2 : Nat → Int32) (x1 : Int32) (x2 : Int32) (x3 : Int32) (x4 : Int32) (x5 : Int32) (x6 : Int32) (x7 : Int32), wpX11_roundLead_91 k51 k37 post g0_men g0_dogs f1 f2 x1 x2 x3 x4 x5 x6 x7 → AtW p l e rmX11_roundLead s m args below meth c dC dI A Q 9 0 0 (ceX11_roundLead cyI cyB cyJ cyZ a0 a1 a2 b0_world b0_image b0_before b0_taken b0_tape b0_five b0_value b0_lead b0_walk b0_ends b0_manX b0_manY b0_dogX b0_dogY b0_row b0_farOne b0_leads b0_drags b0_from b0_near g0_thrown g0_hasImage g0_remembered g0_taped g0_point g0_end g0_begin g0_deep g0_faultAt g0_steps g0_men g0_dogs f1 f2) [(0, .ref a0), (1, .int x1), (2, .int x2), (3, .int x3), (4, .int x4), (5, .int x5), (6, .int x6), (7, .int x7)] 91 [] := by
  intro f2 x1 x2 x3 x4 x5 x6 x7 hw H locs hP hD hS ls hl
  have C1 := C0
  obtain ⟨hx, hb, hr, hml, hown, hts, hlocks⟩ := C1
  refine lv_iload hx hb dX11_roundLead_91 (lv_at hl 5 rfl) ?_
  refine lv_iload hx hb dX11_roundLead_93 (lv_at hl 7 rfl) ?_
  refine lv_iload hx hb dX11_roundLead_95 (lv_at hl 6 rfl) ?_
  refine lv_if_ne (tgt := 106) hx hb dX11_roundLead_97 (by decide) (fun hc => ?_) (fun hc => ?_)
  · have hw := hw.1 hc
    refine lv_aload_n hx hb dX11_roundLead_106 rfl (lv_at hl 0 rfl) ?_
    refine va_get (D := (dC, dI)) (ci := 11) (v := .ref a2) (C := RX11) (T := TX11) (N := 34) hx hb hts inX11_roundLead_X11 hown hK hP 0 rfl rfl 28 (by decide) (hts (.fieldLink RX11 67 "LeadParkModel" "round" "[I") (List.mem_of_getElem? (i := 4) rfl)) (fun _ h9 => h9) rfl dX11_roundLead_107 ?_
    refine lv_iload hx hb dX11_roundLead_110 (lv_at hl 6 rfl) ?_
    refine lv_iconst (v := 1) hx hb dX11_roundLead_112 (by decide) ?_
    refine lv_isub hx hb dX11_roundLead_113 ?_
    obtain ⟨hi, hw⟩ := hw
    refine va_iald hx hb hK hP 2 0 rfl rfl hi dX11_roundLead_114 ?_
    exact bX11_roundLead_115 C0 hK hN hA hQ hk51 hk37 f2 x1 x2 x3 x4 x6 x7 x5 x7 (f2 (x6 - 1).toNatClampNeg) hw _ _ hP hD hS ls (lv_sub hl [0, 1, 2, 3, 4, 6, 7] rfl)
  · have hw := hw.2 hc
    refine lv_ldcw (v := 2000000000) hx hb hown (hts (.constant RX11 306 (2000000000)) (List.mem_of_getElem? (i := 3) rfl)) dX11_roundLead_100 ?_
    refine lv_goto (tgt := 115) hx hb dX11_roundLead_103 (by decide) ?_
    exact bX11_roundLead_115 C0 hK hN hA hQ hk51 hk37 f2 x1 x2 x3 x4 x6 x7 x5 x7 2000000000 hw _ _ hP hD hS ls (lv_sub hl [0, 1, 2, 3, 4, 6, 7] rfl)
set_option maxRecDepth 100000 in
set_option maxHeartbeats 4000000 in
theorem bX11_roundLead_75 {p : Program} {l : Launch} {e : Env} {s : State} {m : MethodId} {args : Array Value} {below : List Frame} {meth : Method} {c : Code} {dC : Nat → ClassId} {dI : Nat → Nat → Nat} {cyI cyB cyJ cyZ : ClassId} {A : Nat → Prop} {a0 a1 a2 b0_world b0_image b0_before b0_taken b0_tape b0_five b0_value b0_lead b0_walk b0_ends b0_manX b0_manY b0_dogX b0_dogY b0_row b0_farOne b0_leads b0_drags b0_from b0_near : Nat} {g0_thrown : Int32} {g0_hasImage : Int32} {g0_remembered : Int32} {g0_taped : Int32} {g0_point : Int32} {g0_end : Int32} {g0_begin : Int32} {g0_deep : Int32} {g0_faultAt : Int32} {g0_steps : Int32} (C0 : cxM p s m meth c args wsX11_roundLead RX11 cX11_roundLead 9 (some .int)) (hK : va_K (dC, dI) vwCl (tyA cyI cyB cyJ cyZ) s) (hN : nwA s) (hA : ∀ q : Nat, s.heap.size ≤ q → A q) {post : Int32 → ((Nat → Int32)) → Prop} {g0_men : Int32} {g0_dogs : Int32} {f1 : Nat → Int32} {k51 : (Nat → Int32) → Int32 → Int32 → Int32 → Int32 → Int32 → Int32 → Prop} {k37 : (Nat → Int32) → Int32 → Int32 → Int32 → Int32 → Prop} {Q : State → Prop} (hQ : Q = MQ below (va_Qi post (fun u : (Nat → Int32) => wAt dC dI cyI cyB cyJ cyZ A (ceX11_roundLead cyI cyB cyJ cyZ a0 a1 a2 b0_world b0_image b0_before b0_taken b0_tape b0_five b0_value b0_lead b0_walk b0_ends b0_manX b0_manY b0_dogX b0_dogY b0_row b0_farOne b0_leads b0_drags b0_from b0_near g0_thrown g0_hasImage g0_remembered g0_taped g0_point g0_end g0_begin g0_deep g0_faultAt g0_steps g0_men g0_dogs f1 u)) A) args s 0 0 A) (hk51 : ∀ (f2 : Nat → Int32) (x1 : Int32) (x2 : Int32) (x3 : Int32) (x4 : Int32) (x5 : Int32) (x6 : Int32), k51 f2 x1 x2 x3 x4 x5 x6 → AtW p l e rmX11_roundLead s m args below meth c dC dI A Q 9 0 0 (ceX11_roundLead cyI cyB cyJ cyZ a0 a1 a2 b0_world b0_image b0_before b0_taken b0_tape b0_five b0_value b0_lead b0_walk b0_ends b0_manX b0_manY b0_dogX b0_dogY b0_row b0_farOne b0_leads b0_drags b0_from b0_near g0_thrown g0_hasImage g0_remembered g0_taped g0_point g0_end g0_begin g0_deep g0_faultAt g0_steps g0_men g0_dogs f1 f2) [(0, .ref a0), (1, .int x1), (2, .int x2), (3, .int x3), (4, .int x4), (5, .int x5), (6, .int x6)] 51 []) (hk37 : ∀ (f2 : Nat → Int32) (x1 : Int32) (x2 : Int32) (x3 : Int32) (x4 : Int32), k37 f2 x1 x2 x3 x4 → AtW p l e rmX11_roundLead s m args below meth c dC dI A Q 9 0 0 (ceX11_roundLead cyI cyB cyJ cyZ a0 a1 a2 b0_world b0_image b0_before b0_taken b0_tape b0_five b0_value b0_lead b0_walk b0_ends b0_manX b0_manY b0_dogX b0_dogY b0_row b0_farOne b0_leads b0_drags b0_from b0_near g0_thrown g0_hasImage g0_remembered g0_taped g0_point g0_end g0_begin g0_deep g0_faultAt g0_steps g0_men g0_dogs f1 f2) [(0, .ref a0), (1, .int x1), (2, .int x2), (3, .int x3), (4, .int x4)] 37 []) : ∀ (f2 : Nat → Int32) (x1 : Int32) (x2 : Int32) (x3 : Int32) (x4 : Int32) (x5 : Int32) (x6 : Int32) (s0 : Int32), wpX11_roundLead_75 k51 k37 post g0_men g0_dogs f1 f2 x1 x2 x3 x4 x5 x6 s0 → AtW p l e rmX11_roundLead s m args below meth c dC dI A Q 9 0 0 (ceX11_roundLead cyI cyB cyJ cyZ a0 a1 a2 b0_world b0_image b0_before b0_taken b0_tape b0_five b0_value b0_lead b0_walk b0_ends b0_manX b0_manY b0_dogX b0_dogY b0_row b0_farOne b0_leads b0_drags b0_from b0_near g0_thrown g0_hasImage g0_remembered g0_taped g0_point g0_end g0_begin g0_deep g0_faultAt g0_steps g0_men g0_dogs f1 f2) [(0, .ref a0), (1, .int x1), (2, .int x2), (3, .int x3), (4, .int x4), (5, .int x5), (6, .int x6)] 75 [.int s0] := by
  intro f2 x1 x2 x3 x4 x5 x6 s0 hw H locs hP hD hS ls hl
  have C1 := C0
  obtain ⟨hx, hb, hr, hml, hown, hts, hlocks⟩ := C1
  refine lv_istore (lv' := [(7, .int s0), (0, .ref a0), (1, .int x1), (2, .int x2), (3, .int x3), (4, .int x4), (5, .int x5), (6, .int x6)]) hx hb dX11_roundLead_75 hl (by decide) rfl (fun ls hl => ?_)
  refine lv_iload hx hb dX11_roundLead_77 (lv_at hl 5 rfl) ?_
  refine lv_if_ne (tgt := 91) hx hb dX11_roundLead_79 (by decide) (fun hc => ?_) (fun hc => ?_)
  · have hw := hw.1 hc
    exact bX11_roundLead_91 C0 hK hN hA hQ hk51 hk37 f2 x1 x2 x3 x4 x5 x6 s0 hw _ _ hP hD hS ls (lv_sub hl [1, 2, 3, 4, 5, 6, 7, 0] rfl)
  · have hw := hw.2 hc
    refine lv_iload hx hb dX11_roundLead_82 (lv_at hl 7 rfl) ?_
    refine lv_if_ne (tgt := 91) hx hb dX11_roundLead_84 (by decide) (fun hc => ?_) (fun hc => ?_)
    · have hw := hw.1 hc
      exact bX11_roundLead_91 C0 hK hN hA hQ hk51 hk37 f2 x1 x2 x3 x4 x5 x6 s0 hw _ _ hP hD hS ls (lv_sub hl [1, 2, 3, 4, 5, 6, 7, 0] rfl)
    · have hw := hw.2 hc
      refine lv_iconst (v := 0) hx hb dX11_roundLead_87 (by decide) ?_
      refine lv_goto (tgt := 121) hx hb dX11_roundLead_88 (by decide) ?_
      exact bX11_roundLead_121 C0 hK hN hA hQ hk51 hk37 f2 x1 x2 x3 x4 x6 s0 0 hw _ _ hP hD hS ls (lv_sub hl [1, 2, 3, 4, 5, 7, 0] rfl)
set_option maxRecDepth 100000 in
set_option maxHeartbeats 4000000 in
theorem bX11_roundLead_51 {p : Program} {l : Launch} {e : Env} {s : State} {m : MethodId} {args : Array Value} {below : List Frame} {meth : Method} {c : Code} {dC : Nat → ClassId} {dI : Nat → Nat → Nat} {cyI cyB cyJ cyZ : ClassId} {A : Nat → Prop} {a0 a1 a2 b0_world b0_image b0_before b0_taken b0_tape b0_five b0_value b0_lead b0_walk b0_ends b0_manX b0_manY b0_dogX b0_dogY b0_row b0_farOne b0_leads b0_drags b0_from b0_near : Nat} {g0_thrown : Int32} {g0_hasImage : Int32} {g0_remembered : Int32} {g0_taped : Int32} {g0_point : Int32} {g0_end : Int32} {g0_begin : Int32} {g0_deep : Int32} {g0_faultAt : Int32} {g0_steps : Int32} (C0 : cxM p s m meth c args wsX11_roundLead RX11 cX11_roundLead 9 (some .int)) (hK : va_K (dC, dI) vwCl (tyA cyI cyB cyJ cyZ) s) (hN : nwA s) (hA : ∀ q : Nat, s.heap.size ≤ q → A q) {post : Int32 → ((Nat → Int32)) → Prop} {g0_men : Int32} {g0_dogs : Int32} {f1 : Nat → Int32} {k37 : (Nat → Int32) → Int32 → Int32 → Int32 → Int32 → Prop} {Q : State → Prop} (hQ : Q = MQ below (va_Qi post (fun u : (Nat → Int32) => wAt dC dI cyI cyB cyJ cyZ A (ceX11_roundLead cyI cyB cyJ cyZ a0 a1 a2 b0_world b0_image b0_before b0_taken b0_tape b0_five b0_value b0_lead b0_walk b0_ends b0_manX b0_manY b0_dogX b0_dogY b0_row b0_farOne b0_leads b0_drags b0_from b0_near g0_thrown g0_hasImage g0_remembered g0_taped g0_point g0_end g0_begin g0_deep g0_faultAt g0_steps g0_men g0_dogs f1 u)) A) args s 0 0 A) (hk37 : ∀ (f2 : Nat → Int32) (x1 : Int32) (x2 : Int32) (x3 : Int32) (x4 : Int32), k37 f2 x1 x2 x3 x4 → AtW p l e rmX11_roundLead s m args below meth c dC dI A Q 9 0 0 (ceX11_roundLead cyI cyB cyJ cyZ a0 a1 a2 b0_world b0_image b0_before b0_taken b0_tape b0_five b0_value b0_lead b0_walk b0_ends b0_manX b0_manY b0_dogX b0_dogY b0_row b0_farOne b0_leads b0_drags b0_from b0_near g0_thrown g0_hasImage g0_remembered g0_taped g0_point g0_end g0_begin g0_deep g0_faultAt g0_steps g0_men g0_dogs f1 f2) [(0, .ref a0), (1, .int x1), (2, .int x2), (3, .int x3), (4, .int x4)] 37 []) : ∀ (n : Nat) (f2 : Nat → Int32) (x1 : Int32) (x2 : Int32) (x3 : Int32) (x4 : Int32) (x5 : Int32) (x6 : Int32), wpX11_roundLead_51 k37 post g0_men g0_dogs f1 n f2 x1 x2 x3 x4 x5 x6 → AtW p l e rmX11_roundLead s m args below meth c dC dI A Q 9 0 0 (ceX11_roundLead cyI cyB cyJ cyZ a0 a1 a2 b0_world b0_image b0_before b0_taken b0_tape b0_five b0_value b0_lead b0_walk b0_ends b0_manX b0_manY b0_dogX b0_dogY b0_row b0_farOne b0_leads b0_drags b0_from b0_near g0_thrown g0_hasImage g0_remembered g0_taped g0_point g0_end g0_begin g0_deep g0_faultAt g0_steps g0_men g0_dogs f1 f2) [(0, .ref a0), (1, .int x1), (2, .int x2), (3, .int x3), (4, .int x4), (5, .int x5), (6, .int x6)] 51 [] := by
  intro n
  induction n with
  | zero => intro f2 x1 x2 x3 x4 x5 x6 hw; exact False.elim hw
  | succ n ih =>
    intro f2 x1 x2 x3 x4 x5 x6 hw H locs hP hD hS ls hl
    have C1 := C0
    obtain ⟨hx, hb, hr, hml, hown, hts, hlocks⟩ := C1
    refine lv_iload hx hb dX11_roundLead_51 (lv_at hl 6 rfl) ?_
    refine lv_iload_n hx hb dX11_roundLead_53 rfl (lv_at hl 3 rfl) ?_
    refine lv_icmp_gt (tgt := 170) hx hb dX11_roundLead_54 (by decide) (fun hc => ?_) (fun hc => ?_)
    · have hw := hw.1 hc
      obtain ⟨v1, ev1⟩ : ∃ y : Int32, y = x4 + 1 := ⟨_, rfl⟩
      have hw := hw v1 ev1
      refine lv_iinc (v := v1) (lv' := [(4, .int v1), (0, .ref a0), (1, .int x1), (2, .int x2), (3, .int x3), (5, .int x5), (6, .int x6)]) hx hb dX11_roundLead_170 hl (k := 4) rfl (by rw [ev1]; rfl) (by decide) rfl (fun ls hl => ?_)
      refine lv_goto (tgt := 37) hx hb dX11_roundLead_173 (by decide) ?_
      exact hk37 f2 x1 x2 x3 v1 hw H locs hP hD hS ls (lv_sub hl [1, 2, 3, 4, 0] rfl)
    · have hw := hw.2 hc
      refine lv_iload hx hb dX11_roundLead_57 (lv_at hl 4 rfl) ?_
      refine lv_if_ne (tgt := 68) hx hb dX11_roundLead_59 (by decide) (fun hc => ?_) (fun hc => ?_)
      · have hw := hw.1 hc
        refine lv_aload_n hx hb dX11_roundLead_68 rfl (lv_at hl 0 rfl) ?_
        refine va_get (D := (dC, dI)) (ci := 11) (v := .ref a2) (C := RX11) (T := TX11) (N := 34) hx hb hts inX11_roundLead_X11 hown hK hP 0 rfl rfl 28 (by decide) (hts (.fieldLink RX11 67 "LeadParkModel" "round" "[I") (List.mem_of_getElem? (i := 4) rfl)) (fun _ h9 => h9) rfl dX11_roundLead_69 ?_
        refine lv_iload hx hb dX11_roundLead_72 (lv_at hl 6 rfl) ?_
        obtain ⟨hi, hw⟩ := hw
        refine va_iald hx hb hK hP 2 0 rfl rfl hi dX11_roundLead_74 ?_
        exact bX11_roundLead_75 C0 hK hN hA hQ ih hk37 f2 x1 x2 x3 x4 x5 x6 (f2 x6.toNatClampNeg) hw _ _ hP hD hS ls (lv_sub hl [0, 1, 2, 3, 4, 5, 6] rfl)
      · have hw := hw.2 hc
        refine lv_ldcw (v := 2000000000) hx hb hown (hts (.constant RX11 306 (2000000000)) (List.mem_of_getElem? (i := 3) rfl)) dX11_roundLead_62 ?_
        refine lv_goto (tgt := 75) hx hb dX11_roundLead_65 (by decide) ?_
        exact bX11_roundLead_75 C0 hK hN hA hQ ih hk37 f2 x1 x2 x3 x4 x5 x6 2000000000 hw _ _ hP hD hS ls (lv_sub hl [0, 1, 2, 3, 4, 5, 6] rfl)
set_option maxRecDepth 100000 in
set_option maxHeartbeats 4000000 in
theorem bX11_roundLead_37 {p : Program} {l : Launch} {e : Env} {s : State} {m : MethodId} {args : Array Value} {below : List Frame} {meth : Method} {c : Code} {dC : Nat → ClassId} {dI : Nat → Nat → Nat} {cyI cyB cyJ cyZ : ClassId} {A : Nat → Prop} {a0 a1 a2 b0_world b0_image b0_before b0_taken b0_tape b0_five b0_value b0_lead b0_walk b0_ends b0_manX b0_manY b0_dogX b0_dogY b0_row b0_farOne b0_leads b0_drags b0_from b0_near : Nat} {g0_thrown : Int32} {g0_hasImage : Int32} {g0_remembered : Int32} {g0_taped : Int32} {g0_point : Int32} {g0_end : Int32} {g0_begin : Int32} {g0_deep : Int32} {g0_faultAt : Int32} {g0_steps : Int32} (C0 : cxM p s m meth c args wsX11_roundLead RX11 cX11_roundLead 9 (some .int)) (hK : va_K (dC, dI) vwCl (tyA cyI cyB cyJ cyZ) s) (hN : nwA s) (hA : ∀ q : Nat, s.heap.size ≤ q → A q) {post : Int32 → ((Nat → Int32)) → Prop} {g0_men : Int32} {g0_dogs : Int32} {f1 : Nat → Int32} {Q : State → Prop} (hQ : Q = MQ below (va_Qi post (fun u : (Nat → Int32) => wAt dC dI cyI cyB cyJ cyZ A (ceX11_roundLead cyI cyB cyJ cyZ a0 a1 a2 b0_world b0_image b0_before b0_taken b0_tape b0_five b0_value b0_lead b0_walk b0_ends b0_manX b0_manY b0_dogX b0_dogY b0_row b0_farOne b0_leads b0_drags b0_from b0_near g0_thrown g0_hasImage g0_remembered g0_taped g0_point g0_end g0_begin g0_deep g0_faultAt g0_steps g0_men g0_dogs f1 u)) A) args s 0 0 A) : ∀ (n : Nat) (f2 : Nat → Int32) (x1 : Int32) (x2 : Int32) (x3 : Int32) (x4 : Int32), wpX11_roundLead_37 post g0_men g0_dogs f1 n f2 x1 x2 x3 x4 → AtW p l e rmX11_roundLead s m args below meth c dC dI A Q 9 0 0 (ceX11_roundLead cyI cyB cyJ cyZ a0 a1 a2 b0_world b0_image b0_before b0_taken b0_tape b0_five b0_value b0_lead b0_walk b0_ends b0_manX b0_manY b0_dogX b0_dogY b0_row b0_farOne b0_leads b0_drags b0_from b0_near g0_thrown g0_hasImage g0_remembered g0_taped g0_point g0_end g0_begin g0_deep g0_faultAt g0_steps g0_men g0_dogs f1 f2) [(0, .ref a0), (1, .int x1), (2, .int x2), (3, .int x3), (4, .int x4)] 37 [] := by
  intro n
  induction n with
  | zero => intro f2 x1 x2 x3 x4 hw; exact False.elim hw
  | succ n ih =>
    intro f2 x1 x2 x3 x4 hw H locs hP hD hS ls hl
    have C1 := C0
    obtain ⟨hx, hb, hr, hml, hown, hts, hlocks⟩ := C1
    refine lv_iload hx hb dX11_roundLead_37 (lv_at hl 4 rfl) ?_
    refine lv_iload_n hx hb dX11_roundLead_39 rfl (lv_at hl 2 rfl) ?_
    refine lv_icmp_gt (tgt := 176) hx hb dX11_roundLead_40 (by decide) (fun hc => ?_) (fun hc => ?_)
    · have hw := hw.1 hc
      refine lv_aload_n hx hb dX11_roundLead_176 rfl (lv_at hl 0 rfl) ?_
      refine va_get (D := (dC, dI)) (ci := 11) (v := .ref a2) (C := RX11) (T := TX11) (N := 34) hx hb hts inX11_roundLead_X11 hown hK hP 0 rfl rfl 28 (by decide) (hts (.fieldLink RX11 67 "LeadParkModel" "round" "[I") (List.mem_of_getElem? (i := 4) rfl)) (fun _ h9 => h9) rfl dX11_roundLead_177 ?_
      refine lv_iload_n hx hb dX11_roundLead_180 rfl (lv_at hl 3 rfl) ?_
      obtain ⟨hi, hw⟩ := hw
      refine va_iald hx hb hK hP 2 0 rfl rfl hi dX11_roundLead_181 ?_
      rw [hQ]
      exact W.iret (v := f2 x3.toNatClampNeg) hx hb hr (fun t ht hW => ⟨⟨f2 x3.toNatClampNeg, (f2), rfl, hw, by rw [ht]; exact hP, va_K.moved hW.alike hK, hD⟩, hS.F ht⟩) hS.2.2 dX11_roundLead_182
    · have hw := hw.2 hc
      refine lv_ldcw (v := 2000000000) hx hb hown (hts (.constant RX11 306 (2000000000)) (List.mem_of_getElem? (i := 3) rfl)) dX11_roundLead_43 ?_
      refine lv_istore (lv' := [(5, .int 2000000000), (0, .ref a0), (1, .int x1), (2, .int x2), (3, .int x3), (4, .int x4)]) hx hb dX11_roundLead_46 hl (by decide) rfl (fun ls hl => ?_)
      refine lv_iconst (v := 0) hx hb dX11_roundLead_48 (by decide) ?_
      refine lv_istore (lv' := [(6, .int 0), (5, .int 2000000000), (0, .ref a0), (1, .int x1), (2, .int x2), (3, .int x3), (4, .int x4)]) hx hb dX11_roundLead_49 hl (by decide) rfl (fun ls hl => ?_)
      obtain ⟨nn, hw⟩ := hw
      exact bX11_roundLead_51 C0 hK hN hA hQ ih nn f2 x1 x2 x3 x4 2000000000 0 hw _ _ hP hD hS ls (lv_sub hl [2, 3, 4, 5, 6, 1, 0] rfl)
set_option maxRecDepth 100000 in
set_option maxHeartbeats 4000000 in
theorem bX11_roundLead_33 {p : Program} {l : Launch} {e : Env} {s : State} {m : MethodId} {args : Array Value} {below : List Frame} {meth : Method} {c : Code} {dC : Nat → ClassId} {dI : Nat → Nat → Nat} {cyI cyB cyJ cyZ : ClassId} {A : Nat → Prop} {a0 a1 a2 b0_world b0_image b0_before b0_taken b0_tape b0_five b0_value b0_lead b0_walk b0_ends b0_manX b0_manY b0_dogX b0_dogY b0_row b0_farOne b0_leads b0_drags b0_from b0_near : Nat} {g0_thrown : Int32} {g0_hasImage : Int32} {g0_remembered : Int32} {g0_taped : Int32} {g0_point : Int32} {g0_end : Int32} {g0_begin : Int32} {g0_deep : Int32} {g0_faultAt : Int32} {g0_steps : Int32} (C0 : cxM p s m meth c args wsX11_roundLead RX11 cX11_roundLead 9 (some .int)) (hK : va_K (dC, dI) vwCl (tyA cyI cyB cyJ cyZ) s) (hN : nwA s) (hA : ∀ q : Nat, s.heap.size ≤ q → A q) {post : Int32 → ((Nat → Int32)) → Prop} {g0_men : Int32} {g0_dogs : Int32} {f1 : Nat → Int32} {Q : State → Prop} (hQ : Q = MQ below (va_Qi post (fun u : (Nat → Int32) => wAt dC dI cyI cyB cyJ cyZ A (ceX11_roundLead cyI cyB cyJ cyZ a0 a1 a2 b0_world b0_image b0_before b0_taken b0_tape b0_five b0_value b0_lead b0_walk b0_ends b0_manX b0_manY b0_dogX b0_dogY b0_row b0_farOne b0_leads b0_drags b0_from b0_near g0_thrown g0_hasImage g0_remembered g0_taped g0_point g0_end g0_begin g0_deep g0_faultAt g0_steps g0_men g0_dogs f1 u)) A) args s 0 0 A) : ∀ (f2 : Nat → Int32) (x1 : Int32) (x2 : Int32) (s0 : Int32), wpX11_roundLead_33 post g0_men g0_dogs f1 f2 x1 x2 s0 → AtW p l e rmX11_roundLead s m args below meth c dC dI A Q 9 0 0 (ceX11_roundLead cyI cyB cyJ cyZ a0 a1 a2 b0_world b0_image b0_before b0_taken b0_tape b0_five b0_value b0_lead b0_walk b0_ends b0_manX b0_manY b0_dogX b0_dogY b0_row b0_farOne b0_leads b0_drags b0_from b0_near g0_thrown g0_hasImage g0_remembered g0_taped g0_point g0_end g0_begin g0_deep g0_faultAt g0_steps g0_men g0_dogs f1 f2) [(0, .ref a0), (1, .int x1), (2, .int x2)] 33 [.int s0] := by
  intro f2 x1 x2 s0 hw H locs hP hD hS ls hl
  have C1 := C0
  obtain ⟨hx, hb, hr, hml, hown, hts, hlocks⟩ := C1
  refine lv_istore_n (lv' := [(3, .int s0), (0, .ref a0), (1, .int x1), (2, .int x2)]) hx hb dX11_roundLead_33 rfl hl (by decide) rfl (fun ls hl => ?_)
  refine lv_iconst (v := 0) hx hb dX11_roundLead_34 (by decide) ?_
  refine lv_istore (lv' := [(4, .int 0), (3, .int s0), (0, .ref a0), (1, .int x1), (2, .int x2)]) hx hb dX11_roundLead_35 hl (by decide) rfl (fun ls hl => ?_)
  obtain ⟨nn, hw⟩ := hw
  exact bX11_roundLead_37 C0 hK hN hA hQ nn f2 x1 x2 s0 0 hw _ _ hP hD hS ls (lv_sub hl [2, 3, 4, 1, 0] rfl)
set_option maxRecDepth 100000 in
set_option maxHeartbeats 4000000 in
theorem bX11_roundLead_16 {p : Program} {l : Launch} {e : Env} {s : State} {m : MethodId} {args : Array Value} {below : List Frame} {meth : Method} {c : Code} {dC : Nat → ClassId} {dI : Nat → Nat → Nat} {cyI cyB cyJ cyZ : ClassId} {A : Nat → Prop} {a0 a1 a2 b0_world b0_image b0_before b0_taken b0_tape b0_five b0_value b0_lead b0_walk b0_ends b0_manX b0_manY b0_dogX b0_dogY b0_row b0_farOne b0_leads b0_drags b0_from b0_near : Nat} {g0_thrown : Int32} {g0_hasImage : Int32} {g0_remembered : Int32} {g0_taped : Int32} {g0_point : Int32} {g0_end : Int32} {g0_begin : Int32} {g0_deep : Int32} {g0_faultAt : Int32} {g0_steps : Int32} (C0 : cxM p s m meth c args wsX11_roundLead RX11 cX11_roundLead 9 (some .int)) (hK : va_K (dC, dI) vwCl (tyA cyI cyB cyJ cyZ) s) (hN : nwA s) (hA : ∀ q : Nat, s.heap.size ≤ q → A q) {post : Int32 → ((Nat → Int32)) → Prop} {g0_men : Int32} {g0_dogs : Int32} {f1 : Nat → Int32} {Q : State → Prop} (hQ : Q = MQ below (va_Qi post (fun u : (Nat → Int32) => wAt dC dI cyI cyB cyJ cyZ A (ceX11_roundLead cyI cyB cyJ cyZ a0 a1 a2 b0_world b0_image b0_before b0_taken b0_tape b0_five b0_value b0_lead b0_walk b0_ends b0_manX b0_manY b0_dogX b0_dogY b0_row b0_farOne b0_leads b0_drags b0_from b0_near g0_thrown g0_hasImage g0_remembered g0_taped g0_point g0_end g0_begin g0_deep g0_faultAt g0_steps g0_men g0_dogs f1 u)) A) args s 0 0 A) : ∀ (f2 : Nat → Int32) (x1 : Int32) (s0 : Int32), wpX11_roundLead_16 post g0_men g0_dogs f1 f2 x1 s0 → AtW p l e rmX11_roundLead s m args below meth c dC dI A Q 9 0 0 (ceX11_roundLead cyI cyB cyJ cyZ a0 a1 a2 b0_world b0_image b0_before b0_taken b0_tape b0_five b0_value b0_lead b0_walk b0_ends b0_manX b0_manY b0_dogX b0_dogY b0_row b0_farOne b0_leads b0_drags b0_from b0_near g0_thrown g0_hasImage g0_remembered g0_taped g0_point g0_end g0_begin g0_deep g0_faultAt g0_steps g0_men g0_dogs f1 f2) [(0, .ref a0), (1, .int x1)] 16 [.int s0] := by
  intro f2 x1 s0 hw H locs hP hD hS ls hl
  have C1 := C0
  obtain ⟨hx, hb, hr, hml, hown, hts, hlocks⟩ := C1
  refine lv_istore_n (lv' := [(2, .int s0), (0, .ref a0), (1, .int x1)]) hx hb dX11_roundLead_16 rfl hl (by decide) rfl (fun ls hl => ?_)
  refine lv_aload_n hx hb dX11_roundLead_17 rfl (lv_at hl 1 rfl) ?_
  refine va_get (D := (dC, dI)) (ci := 11) (v := .int g0_dogs) (C := RX11) (T := TX11) (N := 34) hx hb hts inX11_roundLead_X11 hown hK hP 0 rfl rfl 19 (by decide) (hts (.fieldLink RX11 303 "LeadParkModel" "dogs" "I") (List.mem_of_getElem? (i := 2) rfl)) (fun _ h9 => h9) rfl dX11_roundLead_18 ?_
  refine lv_iconst (v := 1) hx hb dX11_roundLead_21 (by decide) ?_
  refine lv_icmp_ne (tgt := 29) hx hb dX11_roundLead_22 (by decide) (fun hc => ?_) (fun hc => ?_)
  · have hw := hw.1 hc
    refine lv_aload_n hx hb dX11_roundLead_29 rfl (lv_at hl 1 rfl) ?_
    refine va_get (D := (dC, dI)) (ci := 11) (v := .int g0_dogs) (C := RX11) (T := TX11) (N := 34) hx hb hts inX11_roundLead_X11 hown hK hP 0 rfl rfl 19 (by decide) (hts (.fieldLink RX11 303 "LeadParkModel" "dogs" "I") (List.mem_of_getElem? (i := 2) rfl)) (fun _ h9 => h9) rfl dX11_roundLead_30 ?_
    exact bX11_roundLead_33 C0 hK hN hA hQ f2 x1 s0 g0_dogs hw _ _ hP hD hS ls (lv_sub hl [1, 2, 0] rfl)
  · have hw := hw.2 hc
    refine lv_iconst (v := 0) hx hb dX11_roundLead_25 (by decide) ?_
    refine lv_goto (tgt := 33) hx hb dX11_roundLead_26 (by decide) ?_
    exact bX11_roundLead_33 C0 hK hN hA hQ f2 x1 s0 0 hw _ _ hP hD hS ls (lv_sub hl [1, 2, 0] rfl)
set_option maxRecDepth 100000 in
set_option maxHeartbeats 4000000 in
theorem ctX11_roundLead (l : Launch) (dC : Nat → ClassId) (dI : Nat → Nat → Nat) (cyI cyB cyJ cyZ : ClassId) (sz : Nat) (a0 a1 a2 b0_world b0_image b0_before b0_taken b0_tape b0_five b0_value b0_lead b0_walk b0_ends b0_manX b0_manY b0_dogX b0_dogY b0_row b0_farOne b0_leads b0_drags b0_from b0_near : Nat) (g0_thrown : Int32) (g0_hasImage : Int32) (g0_remembered : Int32) (g0_taped : Int32) (g0_point : Int32) (g0_end : Int32) (g0_begin : Int32) (g0_deep : Int32) (g0_faultAt : Int32) (g0_steps : Int32) (g0_men : Int32) (g0_dogs : Int32) (f1 : Nat → Int32) (f2 : Nat → Int32) (p0 : Int32) (post : Int32 → ((Nat → Int32)) → Prop) (hw : wpX11_roundLead post g0_men g0_dogs f1 f2 p0) : Met l yX11_roundLead wsX11_roundLead rmX11_roundLead (va_Pc [.ref a0, .int p0] (wPre dC dI cyI cyB cyJ cyZ sz (ceX11_roundLead cyI cyB cyJ cyZ a0 a1 a2 b0_world b0_image b0_before b0_taken b0_tape b0_five b0_value b0_lead b0_walk b0_ends b0_manX b0_manY b0_dogX b0_dogY b0_row b0_farOne b0_leads b0_drags b0_from b0_near g0_thrown g0_hasImage g0_remembered g0_taped g0_point g0_end g0_begin g0_deep g0_faultAt g0_steps g0_men g0_dogs f1 f2))) (va_Qi post (fun u : (Nat → Int32) => wAt dC dI cyI cyB cyJ cyZ (va_A (ceX11_roundLead cyI cyB cyJ cyZ a0 a1 a2 b0_world b0_image b0_before b0_taken b0_tape b0_five b0_value b0_lead b0_walk b0_ends b0_manX b0_manY b0_dogX b0_dogY b0_row b0_farOne b0_leads b0_drags b0_from b0_near g0_thrown g0_hasImage g0_remembered g0_taped g0_point g0_end g0_begin g0_deep g0_faultAt g0_steps g0_men g0_dogs f1 f2) sz) (ceX11_roundLead cyI cyB cyJ cyZ a0 a1 a2 b0_world b0_image b0_before b0_taken b0_tape b0_five b0_value b0_lead b0_walk b0_ends b0_manX b0_manY b0_dogX b0_dogY b0_row b0_farOne b0_leads b0_drags b0_from b0_near g0_thrown g0_hasImage g0_remembered g0_taped g0_point g0_end g0_begin g0_deep g0_faultAt g0_steps g0_men g0_dogs f1 u)) (va_A (ceX11_roundLead cyI cyB cyJ cyZ a0 a1 a2 b0_world b0_image b0_before b0_taken b0_tape b0_five b0_value b0_lead b0_walk b0_ends b0_manX b0_manY b0_dogX b0_dogY b0_row b0_farOne b0_leads b0_drags b0_from b0_near g0_thrown g0_hasImage g0_remembered g0_taped g0_point g0_end g0_begin g0_deep g0_faultAt g0_steps g0_men g0_dogs f1 f2) sz)) 0 0 (va_A (ceX11_roundLead cyI cyB cyJ cyZ a0 a1 a2 b0_world b0_image b0_before b0_taken b0_tape b0_five b0_value b0_lead b0_walk b0_ends b0_manX b0_manY b0_dogX b0_dogY b0_row b0_farOne b0_leads b0_drags b0_from b0_near g0_thrown g0_hasImage g0_remembered g0_taped g0_point g0_end g0_begin g0_deep g0_faultAt g0_steps g0_men g0_dogs f1 f2) sz) := by
  refine Met.ofW (cc := cX11_roundLead) (maxL := 9) (ret := (some .int)) (by decide) rfl ?_
  intro p e s m args below meth c s₁ B hml hv
  obtain ⟨rfl, hsz, hP, hK, hD0, hN⟩ := hv
  have hx := B.exec
  have hb := B.bytes
  have hr := B.returns
  have hts := atoms_spec (ws := wsX11_roundLead) B.pre
  have hown : s.vm.findClass RX11 = some m.cls := findClass_of_methodNamed B.named
  have hlocks := B.notSynchronized
  subst hsz
  have hD := hD0.self (sz := s.heap.size)
  generalize hAe : va_A (ceX11_roundLead cyI cyB cyJ cyZ a0 a1 a2 b0_world b0_image b0_before b0_taken b0_tape b0_five b0_value b0_lead b0_walk b0_ends b0_manX b0_manY b0_dogX b0_dogY b0_row b0_farOne b0_leads b0_drags b0_from b0_near g0_thrown g0_hasImage g0_remembered g0_taped g0_point g0_end g0_begin g0_deep g0_faultAt g0_steps g0_men g0_dogs f1 f2) s.heap.size = A at hD ⊢
  have hA : ∀ q : Nat, s.heap.size ≤ q → A q := fun q h => by rw [← hAe]; exact Or.inr h
  have hS : va_S A s.heap s.heap [] := va_S.rf
  have C0 : cxM p s m meth c _ wsX11_roundLead RX11 cX11_roundLead 9 (some .int) := ⟨hx, hb, hr, hml, hown, hts, hlocks⟩
  have hl := lv_entry ([.ref a0, .int p0]) (n := 9) (Nat.le_of_ble_eq_true rfl)
  rw [lg_entry_eq]
  generalize (lg_sl ([.ref a0, .int p0]) ++ List.replicate (9 - (lg_sl ([.ref a0, .int p0])).length) Slot.unset).toArray = ls at hl ⊢
  have hl : lv_has ls 9 [(0, .ref a0), (1, .int p0)] := hl
  show W p l e rmX11_roundLead s m _ below meth c _ _ _ _ _ _
  refine wq (fun Q hQ => ?_)
  refine lv_aload_n hx hb dX11_roundLead_0 rfl (lv_at hl 0 rfl) ?_
  refine va_get (D := (dC, dI)) (ci := 11) (v := .int g0_men) (C := RX11) (T := TX11) (N := 34) hx hb hts inX11_roundLead_X11 hown hK hP 0 rfl rfl 18 (by decide) (hts (.fieldLink RX11 300 "LeadParkModel" "men" "I") (List.mem_of_getElem? (i := 1) rfl)) (fun _ h9 => h9) rfl dX11_roundLead_1 ?_
  refine lv_iconst (v := 1) hx hb dX11_roundLead_4 (by decide) ?_
  refine lv_icmp_ne (tgt := 12) hx hb dX11_roundLead_5 (by decide) (fun hc => ?_) (fun hc => ?_)
  · have hw := hw.1 hc
    refine lv_aload_n hx hb dX11_roundLead_12 rfl (lv_at hl 0 rfl) ?_
    refine va_get (D := (dC, dI)) (ci := 11) (v := .int g0_men) (C := RX11) (T := TX11) (N := 34) hx hb hts inX11_roundLead_X11 hown hK hP 0 rfl rfl 18 (by decide) (hts (.fieldLink RX11 300 "LeadParkModel" "men" "I") (List.mem_of_getElem? (i := 1) rfl)) (fun _ h9 => h9) rfl dX11_roundLead_13 ?_
    exact bX11_roundLead_16 C0 hK hN hA hQ f2 p0 g0_men hw _ _ hP hD hS ls (lv_sub hl [0, 1] rfl)
  · have hw := hw.2 hc
    refine lv_iconst (v := 0) hx hb dX11_roundLead_8 (by decide) ?_
    refine lv_goto (tgt := 16) hx hb dX11_roundLead_9 (by decide) ?_
    exact bX11_roundLead_16 C0 hK hN hA hQ f2 p0 0 hw _ _ hP hD hS ls (lv_sub hl [0, 1] rfl)
