/-! LeadParkModel.judge (III)I -/
abbrev ceX11_judge (cyI cyB cyJ cyZ : ClassId) (a0 a1 a2 a3 b0_image b0_before b0_taken b0_five b0_far b0_lead b0_walk b0_ends b0_manX b0_manY b0_dogX b0_dogY b0_row b0_round b0_farOne b0_leads b0_drags b0_from b0_near : Nat) (g0_hasImage : Int32) (g0_remembered : Int32) (g0_begin : Int32) (g0_deep : Int32) (g0_faultAt : Int32) (g0_steps : Int32) (g0_men : Int32) (g0_dogs : Int32) (f1 : Nat → Int32) (f2 : Nat → Int32) (g0_thrown : Int32) (g0_taped : Int32) (g0_point : Int32) (g0_end : Int32) (f3 : Nat → Int32) : va_W := [(a0, .inr (11, [.int g0_thrown, .ref a1, .ref b0_image, .ref b0_before, .int g0_hasImage, .ref b0_taken, .int g0_remembered, .ref a2, .int g0_taped, .int g0_point, .int g0_end, .int g0_begin, .int g0_deep, .int g0_faultAt, .ref b0_five, .int g0_steps, .ref a3, .ref b0_far, .int g0_men, .int g0_dogs, .ref b0_lead, .ref b0_walk, .ref b0_ends, .ref b0_manX, .ref b0_manY, .ref b0_dogX, .ref b0_dogY, .ref b0_row, .ref b0_round, .ref b0_farOne, .ref b0_leads, .ref b0_drags, .ref b0_from, .ref b0_near])), (a1, .inl (cyI, 2508, .inl f1)), (a2, .inl (cyB, 400, .inl f2)), (a3, .inl (cyI, 400, .inl f3))]

theorem inX11_judge_X11 : ∀ w ∈ wsX110, w ∈ wsX11_judge := fun _ h => List.mem_cons_of_mem _ (List.mem_append_right _ h)
abbrev rmX11_judge : Room := { frames := 5, cells := 0, slots := 0, locals := 142 }
def wpX11_judge_148 (post : Int32 → (Int32 × Int32 × Int32 × Int32 × (Nat → Int32)) → Prop) (f1 : Nat → Int32) (f2 : Nat → Int32) : Nat → Int32 → Int32 → Int32 → Int32 → (Nat → Int32) → Int32 → Int32 → Int32 → Int32 → Int32 → Int32 → Prop
  | 0, _, _, _, _, _, _, _, _, _, _, _ => False
  | n_148 + 1, g0_thrown, g0_taped, g0_point, g0_end, f3, x1, x2, x3, x5, x6, x7 =>
    (g0_end ≤ x7 →
     post (-1) (g0_thrown, g0_taped, g0_point, g0_end, f3)) ∧
    (¬ g0_end ≤ x7 →
     vp_in x7 400 ∧
     wpX11_manBy (fun (r2 : Int32) (u1 : Unit) =>
      ∀ v3 : Int32, v3 = x5 + r2 →
      vp_in x7 400 ∧
      wpX11_dogBy (fun (r5 : Int32) (u4 : Unit) =>
       ∀ v6 : Int32, v6 = x6 + r5 →
       wpX11_cornersOf (fun (r8 : Int32) (u7 : Unit) =>
        (v3 = r8 →
         post x7 (g0_thrown, g0_taped, g0_point, g0_end, f3)) ∧
        (¬ v3 = r8 →
         wpX11_cornersOf (fun (r10 : Int32) (u9 : Unit) =>
          (v6 = r10 →
           post x7 (g0_thrown, g0_taped, g0_point, g0_end, f3)) ∧
          (¬ v6 = r10 →
           wpX11_isShut (fun (r12 : Int32) (u11 : (Nat → Int32)) =>
            (¬ r12 = 0 →
             post x7 (g0_thrown, g0_taped, g0_point, g0_end, u11)) ∧
            (r12 = 0 →
             wpX11_farAt (fun (r14 : Int32) (u13 : Unit) =>
              (r14 ≤ x3 →
               ∀ v15 : Int32, v15 = x7 + 1 →
               wpX11_judge_148 post f1 f2 n_148 g0_thrown g0_taped g0_point g0_end u11 x1 x2 x3 v3 v6 v15) ∧
              (¬ r14 ≤ x3 →
               post x7 (g0_thrown, g0_taped, g0_point, g0_end, u11))) f1 x1 v3 x2 v6)) f1 f3 x1 v3 x2 v6)) f1 x2)) f1 x1) ((f2 x7.toNatClampNeg) - 48)) ((f2 x7.toNatClampNeg) - 48))
def wpX11_judge_104 (post : Int32 → (Int32 × Int32 × Int32 × Int32 × (Nat → Int32)) → Prop) (f1 : Nat → Int32) (f2 : Nat → Int32) (g0_thrown : Int32) (g0_taped : Int32) (g0_point : Int32) (g0_end : Int32) (f3 : Nat → Int32) (x1 : Int32) (x2 : Int32) (x3 : Int32) (s1 : Int32) : Prop :=
  wpX11_throwsIf (fun (r2 : Int32) (u1 : Int32) =>
   (r2 = 0 →
    wpX11_isShut (fun (r4 : Int32) (u3 : (Nat → Int32)) =>
     (¬ r4 = 0 →
      post (-2) (u1, g0_taped, g0_point, g0_end, u3)) ∧
     (r4 = 0 →
      wpX11_farAt (fun (r6 : Int32) (u5 : Unit) =>
       (r6 ≤ x3 →
        ∃ n_148 : Nat, wpX11_judge_148 post f1 f2 n_148 u1 g0_taped g0_point g0_end u3 x1 x2 x3 0 0 0) ∧
       (¬ r6 ≤ x3 →
        post (-2) (u1, g0_taped, g0_point, g0_end, u3))) f1 x1 0 x2 0)) f1 f3 x1 0 x2 0) ∧
   (¬ r2 = 0 →
    post 0 (u1, g0_taped, g0_point, g0_end, f3))) g0_thrown s1 2
def wpX11_judge_85 (k49 : Int32 → Int32 → Int32 → Int32 → (Nat → Int32) → Int32 → Int32 → Int32 → Int32 → Int32 → Prop) (post : Int32 → (Int32 × Int32 × Int32 × Int32 × (Nat → Int32)) → Prop) (f1 : Nat → Int32) (f2 : Nat → Int32) (g0_thrown : Int32) (g0_taped : Int32) (g0_point : Int32) (g0_end : Int32) (f3 : Nat → Int32) (x1 : Int32) (x2 : Int32) (x3 : Int32) (x5 : Int32) (s0 : Int32) : Prop :=
  ∀ v1 : Int32, v1 = x5 + 1 →
  k49 g0_thrown g0_taped g0_point g0_end f3 x1 x2 x3 s0 v1
def wpX11_judge_84 (k49 : Int32 → Int32 → Int32 → Int32 → (Nat → Int32) → Int32 → Int32 → Int32 → Int32 → Int32 → Prop) (post : Int32 → (Int32 × Int32 × Int32 × Int32 × (Nat → Int32)) → Prop) (f1 : Nat → Int32) (f2 : Nat → Int32) (g0_thrown : Int32) (g0_taped : Int32) (g0_point : Int32) (g0_end : Int32) (f3 : Nat → Int32) (x1 : Int32) (x2 : Int32) (x3 : Int32) (x5 : Int32) : Prop :=
  wpX11_judge_85 k49 post f1 f2 g0_thrown g0_taped g0_point g0_end f3 x1 x2 x3 x5 0
def wpX11_judge_49 (post : Int32 → (Int32 × Int32 × Int32 × Int32 × (Nat → Int32)) → Prop) (f1 : Nat → Int32) (f2 : Nat → Int32) : Nat → Int32 → Int32 → Int32 → Int32 → (Nat → Int32) → Int32 → Int32 → Int32 → Int32 → Int32 → Prop
  | 0, _, _, _, _, _, _, _, _, _, _ => False
  | n_49 + 1, g0_thrown, g0_taped, g0_point, g0_end, f3, x1, x2, x3, x4, x5 =>
    (g0_end ≤ x5 →
     (¬ x4 = 0 →
      wpX11_judge_104 post f1 f2 g0_thrown g0_taped g0_point g0_end f3 x1 x2 x3 0) ∧
     (x4 = 0 →
      wpX11_judge_104 post f1 f2 g0_thrown g0_taped g0_point g0_end f3 x1 x2 x3 1)) ∧
    (¬ g0_end ≤ x5 →
     (x4 = 0 →
      wpX11_judge_84 (fun y0 y1 y2 y3 y4 y5 y6 y7 y8 y9 => wpX11_judge_49 post f1 f2 n_49 y0 y1 y2 y3 y4 y5 y6 y7 y8 y9) post f1 f2 g0_thrown g0_taped g0_point g0_end f3 x1 x2 x3 x5) ∧
     (¬ x4 = 0 →
      vp_in x5 400 ∧
      wpX11_in (fun (r2 : Int32) (u1 : Unit) =>
       (r2 = 0 →
        wpX11_judge_84 (fun y0 y1 y2 y3 y4 y5 y6 y7 y8 y9 => wpX11_judge_49 post f1 f2 n_49 y0 y1 y2 y3 y4 y5 y6 y7 y8 y9) post f1 f2 g0_thrown g0_taped g0_point g0_end f3 x1 x2 x3 x5) ∧
       (¬ r2 = 0 →
        wpX11_judge_85 (fun y0 y1 y2 y3 y4 y5 y6 y7 y8 y9 => wpX11_judge_49 post f1 f2 n_49 y0 y1 y2 y3 y4 y5 y6 y7 y8 y9) post f1 f2 g0_thrown g0_taped g0_point g0_end f3 x1 x2 x3 x5 1)) (f2 x5.toNatClampNeg) 49 51))
def wpX11_judge_44 (post : Int32 → (Int32 × Int32 × Int32 × Int32 × (Nat → Int32)) → Prop) (f1 : Nat → Int32) (f2 : Nat → Int32) (g0_thrown : Int32) (g0_taped : Int32) (g0_point : Int32) (g0_end : Int32) (f3 : Nat → Int32) (x1 : Int32) (x2 : Int32) (x3 : Int32) (s0 : Int32) : Prop :=
  ∃ n_49 : Nat, wpX11_judge_49 post f1 f2 n_49 g0_thrown g0_taped g0_point g0_end f3 x1 x2 x3 s0 0
def wpX11_judge_26 (post : Int32 → (Int32 × Int32 × Int32 × Int32 × (Nat → Int32)) → Prop) (f1 : Nat → Int32) (f2 : Nat → Int32) (g0_thrown : Int32) (g0_taped : Int32) (g0_point : Int32) (g0_end : Int32) (f3 : Nat → Int32) (x1 : Int32) (x2 : Int32) (x3 : Int32) (s1 : Int32) : Prop :=
  wpX11_throwsIf (fun (r2 : Int32) (u1 : Int32) =>
   (r2 = 0 →
    (x3 < 0 →
     wpX11_judge_44 post f1 f2 u1 g0_taped g0_point g0_end f3 x1 x2 x3 0) ∧
    (¬ x3 < 0 →
     wpX11_judge_44 post f1 f2 u1 g0_taped g0_point g0_end f3 x1 x2 x3 1)) ∧
   (¬ r2 = 0 →
    post 0 (u1, g0_taped, g0_point, g0_end, f3))) g0_thrown s1 1
def wpX11_judge_21 (post : Int32 → (Int32 × Int32 × Int32 × Int32 × (Nat → Int32)) → Prop) (f1 : Nat → Int32) (f2 : Nat → Int32) (g0_thrown : Int32) (g0_taped : Int32) (g0_point : Int32) (g0_end : Int32) (f3 : Nat → Int32) (x1 : Int32) (x2 : Int32) (x3 : Int32) : Prop :=
  wpX11_judge_26 post f1 f2 g0_thrown g0_taped g0_point g0_end f3 x1 x2 x3 1
def wpX11_judge (post : Int32 → (Int32 × Int32 × Int32 × Int32 × (Nat → Int32)) → Prop) (f1 : Nat → Int32) (f2 : Nat → Int32) (g0_thrown : Int32) (g0_taped : Int32) (g0_point : Int32) (g0_end : Int32) (f3 : Nat → Int32) (p0 : Int32) (p1 : Int32) (p2 : Int32) : Prop :=
  wpX11_uses (fun (u1 : Int32 × Int32 × Int32 × Int32) =>
   wpX11_noWay (fun (r3 : Int32) (u2 : Unit) =>
    (¬ r3 = 0 →
     wpX11_judge_21 post f1 f2 u1.1 u1.2.1 u1.2.2.1 u1.2.2.2 f3 p0 p1 p2) ∧
    (r3 = 0 →
     wpX11_noWay (fun (r5 : Int32) (u4 : Unit) =>
      (r5 = 0 →
       wpX11_judge_26 post f1 f2 u1.1 u1.2.1 u1.2.2.1 u1.2.2.2 f3 p0 p1 p2 0) ∧
      (¬ r5 = 0 →
       wpX11_judge_21 post f1 f2 u1.1 u1.2.1 u1.2.2.1 u1.2.2.2 f3 p0 p1 p2)) f1 p1)) f1 p0) g0_thrown g0_taped g0_point g0_end
set_option maxRecDepth 100000 in
set_option maxHeartbeats 4000000 in
theorem bX11_judge_148 {p : Program} {l : Launch} {e : Env} {s : State} {m : MethodId} {args : Array Value} {below : List Frame} {meth : Method} {c : Code} {dC : Nat → ClassId} {dI : Nat → Nat → Nat} {cyI cyB cyJ cyZ : ClassId} {A : Nat → Prop} {a0 a1 a2 a3 b0_image b0_before b0_taken b0_five b0_far b0_lead b0_walk b0_ends b0_manX b0_manY b0_dogX b0_dogY b0_row b0_round b0_farOne b0_leads b0_drags b0_from b0_near : Nat} {g0_hasImage : Int32} {g0_remembered : Int32} {g0_begin : Int32} {g0_deep : Int32} {g0_faultAt : Int32} {g0_steps : Int32} {g0_men : Int32} {g0_dogs : Int32} (C0 : cxM p s m meth c args wsX11_judge RX11 cX11_judge 8 (some .int)) (hK : va_K (dC, dI) vwCl (tyA cyI cyB cyJ cyZ) s) (hN : nwA s) (hA : ∀ q : Nat, s.heap.size ≤ q → A q) {post : Int32 → (Int32 × Int32 × Int32 × Int32 × (Nat → Int32)) → Prop} {f1 : Nat → Int32} {f2 : Nat → Int32} {Q : State → Prop} (hQ : Q = MQ below (va_Qi post (fun u : Int32 × Int32 × Int32 × Int32 × (Nat → Int32) => wAt dC dI cyI cyB cyJ cyZ A (ceX11_judge cyI cyB cyJ cyZ a0 a1 a2 a3 b0_image b0_before b0_taken b0_five b0_far b0_lead b0_walk b0_ends b0_manX b0_manY b0_dogX b0_dogY b0_row b0_round b0_farOne b0_leads b0_drags b0_from b0_near g0_hasImage g0_remembered g0_begin g0_deep g0_faultAt g0_steps g0_men g0_dogs f1 f2 u.1 u.2.1 u.2.2.1 u.2.2.2.1 u.2.2.2.2)) A) args s 0 0 A) : ∀ (n : Nat) (g0_thrown : Int32) (g0_taped : Int32) (g0_point : Int32) (g0_end : Int32) (f3 : Nat → Int32) (x1 : Int32) (x2 : Int32) (x3 : Int32) (x5 : Int32) (x6 : Int32) (x7 : Int32), wpX11_judge_148 post f1 f2 n g0_thrown g0_taped g0_point g0_end f3 x1 x2 x3 x5 x6 x7 → AtW p l e rmX11_judge s m args below meth c dC dI A Q 8 0 0 (ceX11_judge cyI cyB cyJ cyZ a0 a1 a2 a3 b0_image b0_before b0_taken b0_five b0_far b0_lead b0_walk b0_ends b0_manX b0_manY b0_dogX b0_dogY b0_row b0_round b0_farOne b0_leads b0_drags b0_from b0_near g0_hasImage g0_remembered g0_begin g0_deep g0_faultAt g0_steps g0_men g0_dogs f1 f2 g0_thrown g0_taped g0_point g0_end f3) [(0, .ref a0), (1, .int x1), (2, .int x2), (3, .int x3), (5, .int x5), (6, .int x6), (7, .int x7)] 148 [] := by
  intro n
  induction n with
  | zero => intro g0_thrown g0_taped g0_point g0_end f3 x1 x2 x3 x5 x6 x7 hw; exact False.elim hw
  | succ n ih =>
    intro g0_thrown g0_taped g0_point g0_end f3 x1 x2 x3 x5 x6 x7 hw H locs hP hD hS ls hl
    have C1 := C0
    obtain ⟨hx, hb, hr, hml, hown, hts, hlocks⟩ := C1
    refine lv_iload hx hb dX11_judge_148 (lv_at hl 6 rfl) ?_
    refine lv_aload_n hx hb dX11_judge_150 rfl (lv_at hl 0 rfl) ?_
    refine va_get (D := (dC, dI)) (ci := 11) (v := .int g0_end) (C := RX11) (T := TX11) (N := 34) hx hb hts inX11_judge_X11 hown hK hP 0 rfl rfl 10 (by decide) (hts (.fieldLink RX11 115 "LeadParkModel" "end" "I") (List.mem_of_getElem? (i := 1) rfl)) (fun _ h9 => h9) rfl dX11_judge_151 ?_
    refine lv_icmp_ge (tgt := 249) hx hb dX11_judge_154 (by decide) (fun hc => ?_) (fun hc => ?_)
    · have hw := hw.1 hc
      refine lv_iconst (v := (-1)) hx hb dX11_judge_249 (by decide) ?_
      rw [hQ]
      exact W.iret (v := (-1)) hx hb hr (fun t ht hW => ⟨⟨(-1), (g0_thrown, g0_taped, g0_point, g0_end, f3), rfl, hw, by rw [ht]; exact hP, va_K.moved hW.alike hK, hD⟩, hS.F ht⟩) hS.2.2 dX11_judge_250
    · have hw := hw.2 hc
      refine lv_iload hx hb dX11_judge_157 (lv_at hl 4 rfl) ?_
      refine lv_aload_n hx hb dX11_judge_159 rfl (lv_at hl 0 rfl) ?_
      refine va_get (D := (dC, dI)) (ci := 11) (v := .ref a2) (C := RX11) (T := TX11) (N := 34) hx hb hts inX11_judge_X11 hown hK hP 0 rfl rfl 7 (by decide) (hts (.fieldLink RX11 26 "LeadParkModel" "tape" "[B") (List.mem_of_getElem? (i := 2) rfl)) (fun _ h9 => h9) rfl dX11_judge_160 ?_
      refine lv_iload hx hb dX11_judge_163 (lv_at hl 6 rfl) ?_
      obtain ⟨hi, hw⟩ := hw
      refine va_bald hx hb hK hP 2 1 rfl rfl hi dX11_judge_165 ?_
      refine lv_bipush (v := 48) hx hb dX11_judge_166 (by decide) ?_
      refine lv_isub hx hb dX11_judge_168 ?_
      have hPc := hP.sub (ws' := ([] : va_W)) [] rfl
      have hDc := hD.sub (ws' := ([] : va_W)) [] (by decide) rfl
      have hFc := va_free (wc := ([] : va_W)) hD hS hA [] rfl
      refine va_calli (va_runS (As := [.int ((f2 x7.toNatClampNeg) - 48)]) (rest := [.int x5]) ⟨hx, hb, hml, hown, hts⟩ (ctX11_manBy l dC dI cyI cyB cyJ cyZ _ ((f2 x7.toNatClampNeg) - 48) _ hw) (va_cwS 1 hts gX11_judge_X11_manBy rfl rfl rfl (by decide +kernel) ⟨Nat.le_of_ble_eq_true rfl, Nat.le_of_ble_eq_true rfl⟩) ⟨wPre_blind, fun U hU hW => wPre_of hPc hK hDc hN hU hW⟩ rfl rfl hl.1 rfl (lv_room (Nat.le_of_ble_eq_true rfl)) dX11_judge_169 ⟨(Nat.zero_le _), (Nat.zero_le _)⟩) hS (fun q _ h => hFc q h) hFc (fun r2 u1 t H1 locs ht hvm hw hB hz1 hk1 hS => ?_)
      obtain ⟨hP1, hK1, hD1⟩ := hB
      rw [ht] at hP1
      obtain ⟨hP, hD⟩ := va_join (wr := pickW (ceX11_judge cyI cyB cyJ cyZ a0 a1 a2 a3 b0_image b0_before b0_taken b0_five b0_far b0_lead b0_walk b0_ends b0_manX b0_manY b0_dogX b0_dogY b0_row b0_round b0_farOne b0_leads b0_drags b0_from b0_near g0_hasImage g0_remembered g0_begin g0_deep g0_faultAt g0_steps g0_men g0_dogs f1 f2 g0_thrown g0_taped g0_point g0_end f3) [0, 1, 2, 3]) (w1 := ([] : va_W)) hP hD [] [0, 1, 2, 3] rfl rfl (by decide) (by decide) hk1 hFc hP1 hD1
      have hP := hP.sub (ws' := (ceX11_judge cyI cyB cyJ cyZ a0 a1 a2 a3 b0_image b0_before b0_taken b0_five b0_far b0_lead b0_walk b0_ends b0_manX b0_manY b0_dogX b0_dogY b0_row b0_round b0_farOne b0_leads b0_drags b0_from b0_near g0_hasImage g0_remembered g0_begin g0_deep g0_faultAt g0_steps g0_men g0_dogs f1 f2 g0_thrown g0_taped g0_point g0_end f3)) [0, 1, 2, 3] rfl
      have hD := hD.sub (ws' := (ceX11_judge cyI cyB cyJ cyZ a0 a1 a2 a3 b0_image b0_before b0_taken b0_five b0_far b0_lead b0_walk b0_ends b0_manX b0_manY b0_dogX b0_dogY b0_row b0_round b0_farOne b0_leads b0_drags b0_from b0_near g0_hasImage g0_remembered g0_begin g0_deep g0_faultAt g0_steps g0_men g0_dogs f1 f2 g0_thrown g0_taped g0_point g0_end f3)) [0, 1, 2, 3] (by decide) rfl
      generalize H1 = H at hP hS ⊢
      refine lv_iadd hx hb dX11_judge_172 ?_
      refine lv_topi (fun v3 ev3 => ?_)
      have hw := hw v3 ev3
      refine lv_istore (lv' := [(5, .int v3), (0, .ref a0), (1, .int x1), (2, .int x2), (3, .int x3), (6, .int x6), (7, .int x7)]) hx hb dX11_judge_173 hl (by decide) rfl (fun ls hl => ?_)
      refine lv_iload hx hb dX11_judge_175 (lv_at hl 5 rfl) ?_
      refine lv_aload_n hx hb dX11_judge_177 rfl (lv_at hl 1 rfl) ?_
      refine va_get (D := (dC, dI)) (ci := 11) (v := .ref a2) (C := RX11) (T := TX11) (N := 34) hx hb hts inX11_judge_X11 hown hK hP 0 rfl rfl 7 (by decide) (hts (.fieldLink RX11 26 "LeadParkModel" "tape" "[B") (List.mem_of_getElem? (i := 2) rfl)) (fun _ h9 => h9) rfl dX11_judge_178 ?_
      refine lv_iload hx hb dX11_judge_181 (lv_at hl 6 rfl) ?_
      obtain ⟨hi, hw⟩ := hw
      refine va_bald hx hb hK hP 2 1 rfl rfl hi dX11_judge_183 ?_
      refine lv_bipush (v := 48) hx hb dX11_judge_184 (by decide) ?_
      refine lv_isub hx hb dX11_judge_186 ?_
      have hPc := hP.sub (ws' := ([] : va_W)) [] rfl
      have hDc := hD.sub (ws' := ([] : va_W)) [] (by decide) rfl
      have hFc := va_free (wc := ([] : va_W)) hD hS hA [] rfl
      refine va_calli (va_runS (As := [.int ((f2 x7.toNatClampNeg) - 48)]) (rest := [.int x6]) ⟨hx, hb, hml, hown, hts⟩ (ctX11_dogBy l dC dI cyI cyB cyJ cyZ _ ((f2 x7.toNatClampNeg) - 48) _ hw) (va_cwS 1 hts gX11_judge_X11_dogBy rfl rfl rfl (by decide +kernel) ⟨Nat.le_of_ble_eq_true rfl, Nat.le_of_ble_eq_true rfl⟩) ⟨wPre_blind, fun U hU hW => wPre_of hPc hK hDc hN hU hW⟩ rfl rfl hl.1 rfl (lv_room (Nat.le_of_ble_eq_true rfl)) dX11_judge_187 ⟨(Nat.zero_le _), (Nat.zero_le _)⟩) hS (fun q _ h => hFc q h) hFc (fun r5 u4 t H1 locs ht hvm hw hB hz1 hk1 hS => ?_)
      obtain ⟨hP1, hK1, hD1⟩ := hB
      rw [ht] at hP1
      obtain ⟨hP, hD⟩ := va_join (wr := pickW (ceX11_judge cyI cyB cyJ cyZ a0 a1 a2 a3 b0_image b0_before b0_taken b0_five b0_far b0_lead b0_walk b0_ends b0_manX b0_manY b0_dogX b0_dogY b0_row b0_round b0_farOne b0_leads b0_drags b0_from b0_near g0_hasImage g0_remembered g0_begin g0_deep g0_faultAt g0_steps g0_men g0_dogs f1 f2 g0_thrown g0_taped g0_point g0_end f3) [0, 1, 2, 3]) (w1 := ([] : va_W)) hP hD [] [0, 1, 2, 3] rfl rfl (by decide) (by decide) hk1 hFc hP1 hD1
      have hP := hP.sub (ws' := (ceX11_judge cyI cyB cyJ cyZ a0 a1 a2 a3 b0_image b0_before b0_taken b0_five b0_far b0_lead b0_walk b0_ends b0_manX b0_manY b0_dogX b0_dogY b0_row b0_round b0_farOne b0_leads b0_drags b0_from b0_near g0_hasImage g0_remembered g0_begin g0_deep g0_faultAt g0_steps g0_men g0_dogs f1 f2 g0_thrown g0_taped g0_point g0_end f3)) [0, 1, 2, 3] rfl
      have hD := hD.sub (ws' := (ceX11_judge cyI cyB cyJ cyZ a0 a1 a2 a3 b0_image b0_before b0_taken b0_five b0_far b0_lead b0_walk b0_ends b0_manX b0_manY b0_dogX b0_dogY b0_row b0_round b0_farOne b0_leads b0_drags b0_from b0_near g0_hasImage g0_remembered g0_begin g0_deep g0_faultAt g0_steps g0_men g0_dogs f1 f2 g0_thrown g0_taped g0_point g0_end f3)) [0, 1, 2, 3] (by decide) rfl
      generalize H1 = H at hP hS ⊢
      refine lv_iadd hx hb dX11_judge_190 ?_
      refine lv_topi (fun v6 ev6 => ?_)
      have hw := hw v6 ev6
      refine lv_istore (lv' := [(6, .int v6), (5, .int v3), (0, .ref a0), (1, .int x1), (2, .int x2), (3, .int x3), (7, .int x7)]) hx hb dX11_judge_191 hl (by decide) rfl (fun ls hl => ?_)
      refine lv_iload hx hb dX11_judge_193 (lv_at hl 1 rfl) ?_
      refine lv_aload_n hx hb dX11_judge_195 rfl (lv_at hl 2 rfl) ?_
      refine lv_iload_n hx hb dX11_judge_196 rfl (lv_at hl 3 rfl) ?_
      have hPc := hP.sub (ws' := (ceX11_cornersOf cyI cyB cyJ cyZ a0 a1 b0_image b0_before b0_taken a2 b0_five a3 b0_far b0_lead b0_walk b0_ends b0_manX b0_manY b0_dogX b0_dogY b0_row b0_round b0_farOne b0_leads b0_drags b0_from b0_near g0_thrown g0_hasImage g0_remembered g0_taped g0_point g0_end g0_begin g0_deep g0_faultAt g0_steps g0_men g0_dogs f1)) [0, 1] rfl
      have hDc := hD.sub (ws' := (ceX11_cornersOf cyI cyB cyJ cyZ a0 a1 b0_image b0_before b0_taken a2 b0_five a3 b0_far b0_lead b0_walk b0_ends b0_manX b0_manY b0_dogX b0_dogY b0_row b0_round b0_farOne b0_leads b0_drags b0_from b0_near g0_thrown g0_hasImage g0_remembered g0_taped g0_point g0_end g0_begin g0_deep g0_faultAt g0_steps g0_men g0_dogs f1)) [0, 1] (by decide) rfl
      have hFc := va_free (wc := (ceX11_cornersOf cyI cyB cyJ cyZ a0 a1 b0_image b0_before b0_taken a2 b0_five a3 b0_far b0_lead b0_walk b0_ends b0_manX b0_manY b0_dogX b0_dogY b0_row b0_round b0_farOne b0_leads b0_drags b0_from b0_near g0_thrown g0_hasImage g0_remembered g0_taped g0_point g0_end g0_begin g0_deep g0_faultAt g0_steps g0_men g0_dogs f1)) hD hS hA [0, 1] rfl
      refine va_calli (va_runV (As := [.int x1]) (rest := [.int v3]) ⟨hx, hb, hml, hown, hts⟩ (ctX11_cornersOf l dC dI cyI cyB cyJ cyZ _ a0 a1 b0_image b0_before b0_taken a2 b0_five a3 b0_far b0_lead b0_walk b0_ends b0_manX b0_manY b0_dogX b0_dogY b0_row b0_round b0_farOne b0_leads b0_drags b0_from b0_near g0_thrown g0_hasImage g0_remembered g0_taped g0_point g0_end g0_begin g0_deep g0_faultAt g0_steps g0_men g0_dogs f1 x1 _ hw) (cwV 1 hts gX11_judge_X11_cornersOf rfl rfl rfl (by decide +kernel) ⟨Nat.le_of_ble_eq_true rfl, Nat.le_of_ble_eq_true rfl⟩) ⟨wPre_blind, va_recv hK hPc (ci := 11) (q0 := 0) rfl rfl, fun U hU hW => wPre_of hPc hK hDc hN hU hW⟩ rfl rfl hl.1 rfl (lv_room (Nat.le_of_ble_eq_true rfl)) dX11_judge_197 ⟨(Nat.zero_le _), (Nat.zero_le _)⟩) hS (fun q _ h => hFc q h) hFc (fun r8 u7 t H1 locs ht hvm hw hB hz1 hk1 hS => ?_)
      obtain ⟨hP1, hK1, hD1⟩ := hB
      rw [ht] at hP1
      obtain ⟨hP, hD⟩ := va_join (wr := pickW (ceX11_judge cyI cyB cyJ cyZ a0 a1 a2 a3 b0_image b0_before b0_taken b0_five b0_far b0_lead b0_walk b0_ends b0_manX b0_manY b0_dogX b0_dogY b0_row b0_round b0_farOne b0_leads b0_drags b0_from b0_near g0_hasImage g0_remembered g0_begin g0_deep g0_faultAt g0_steps g0_men g0_dogs f1 f2 g0_thrown g0_taped g0_point g0_end f3) [2, 3]) (w1 := (ceX11_cornersOf cyI cyB cyJ cyZ a0 a1 b0_image b0_before b0_taken a2 b0_five a3 b0_far b0_lead b0_walk b0_ends b0_manX b0_manY b0_dogX b0_dogY b0_row b0_round b0_farOne b0_leads b0_drags b0_from b0_near g0_thrown g0_hasImage g0_remembered g0_taped g0_point g0_end g0_begin g0_deep g0_faultAt g0_steps g0_men g0_dogs f1)) hP hD [0, 1] [2, 3] rfl rfl (by decide) (by decide) hk1 hFc hP1 hD1
      have hP := hP.sub (ws' := (ceX11_judge cyI cyB cyJ cyZ a0 a1 a2 a3 b0_image b0_before b0_taken b0_five b0_far b0_lead b0_walk b0_ends b0_manX b0_manY b0_dogX b0_dogY b0_row b0_round b0_farOne b0_leads b0_drags b0_from b0_near g0_hasImage g0_remembered g0_begin g0_deep g0_faultAt g0_steps g0_men g0_dogs f1 f2 g0_thrown g0_taped g0_point g0_end f3)) [2, 3, 0, 1] rfl
      have hD := hD.sub (ws' := (ceX11_judge cyI cyB cyJ cyZ a0 a1 a2 a3 b0_image b0_before b0_taken b0_five b0_far b0_lead b0_walk b0_ends b0_manX b0_manY b0_dogX b0_dogY b0_row b0_round b0_farOne b0_leads b0_drags b0_from b0_near g0_hasImage g0_remembered g0_begin g0_deep g0_faultAt g0_steps g0_men g0_dogs f1 f2 g0_thrown g0_taped g0_point g0_end f3)) [2, 3, 0, 1] (by decide) rfl
      generalize H1 = H at hP hS ⊢
      refine lv_icmp_eq (tgt := 240) hx hb dX11_judge_200 (by decide) (fun hc => ?_) (fun hc => ?_)
      · have hw := hw.1 hc
        refine lv_iload hx hb dX11_judge_240 (lv_at hl 6 rfl) ?_
        rw [hQ]
        exact W.iret (v := x7) hx hb hr (fun t ht hW => ⟨⟨x7, (g0_thrown, g0_taped, g0_point, g0_end, f3), rfl, hw, by rw [ht]; exact hP, va_K.moved hW.alike hK, hD⟩, hS.F ht⟩) hS.2.2 dX11_judge_242
      · have hw := hw.2 hc
        refine lv_iload hx hb dX11_judge_203 (lv_at hl 0 rfl) ?_
        refine lv_aload_n hx hb dX11_judge_205 rfl (lv_at hl 2 rfl) ?_
        refine lv_iload_n hx hb dX11_judge_206 rfl (lv_at hl 4 rfl) ?_
        have hPc := hP.sub (ws' := (ceX11_cornersOf cyI cyB cyJ cyZ a0 a1 b0_image b0_before b0_taken a2 b0_five a3 b0_far b0_lead b0_walk b0_ends b0_manX b0_manY b0_dogX b0_dogY b0_row b0_round b0_farOne b0_leads b0_drags b0_from b0_near g0_thrown g0_hasImage g0_remembered g0_taped g0_point g0_end g0_begin g0_deep g0_faultAt g0_steps g0_men g0_dogs f1)) [0, 1] rfl
        have hDc := hD.sub (ws' := (ceX11_cornersOf cyI cyB cyJ cyZ a0 a1 b0_image b0_before b0_taken a2 b0_five a3 b0_far b0_lead b0_walk b0_ends b0_manX b0_manY b0_dogX b0_dogY b0_row b0_round b0_farOne b0_leads b0_drags b0_from b0_near g0_thrown g0_hasImage g0_remembered g0_taped g0_point g0_end g0_begin g0_deep g0_faultAt g0_steps g0_men g0_dogs f1)) [0, 1] (by decide) rfl
        have hFc := va_free (wc := (ceX11_cornersOf cyI cyB cyJ cyZ a0 a1 b0_image b0_before b0_taken a2 b0_five a3 b0_far b0_lead b0_walk b0_ends b0_manX b0_manY b0_dogX b0_dogY b0_row b0_round b0_farOne b0_leads b0_drags b0_from b0_near g0_thrown g0_hasImage g0_remembered g0_taped g0_point g0_end g0_begin g0_deep g0_faultAt g0_steps g0_men g0_dogs f1)) hD hS hA [0, 1] rfl
        refine va_calli (va_runV (As := [.int x2]) (rest := [.int v6]) ⟨hx, hb, hml, hown, hts⟩ (ctX11_cornersOf l dC dI cyI cyB cyJ cyZ _ a0 a1 b0_image b0_before b0_taken a2 b0_five a3 b0_far b0_lead b0_walk b0_ends b0_manX b0_manY b0_dogX b0_dogY b0_row b0_round b0_farOne b0_leads b0_drags b0_from b0_near g0_thrown g0_hasImage g0_remembered g0_taped g0_point g0_end g0_begin g0_deep g0_faultAt g0_steps g0_men g0_dogs f1 x2 _ hw) (cwV 1 hts gX11_judge_X11_cornersOf rfl rfl rfl (by decide +kernel) ⟨Nat.le_of_ble_eq_true rfl, Nat.le_of_ble_eq_true rfl⟩) ⟨wPre_blind, va_recv hK hPc (ci := 11) (q0 := 0) rfl rfl, fun U hU hW => wPre_of hPc hK hDc hN hU hW⟩ rfl rfl hl.1 rfl (lv_room (Nat.le_of_ble_eq_true rfl)) dX11_judge_207 ⟨(Nat.zero_le _), (Nat.zero_le _)⟩) hS (fun q _ h => hFc q h) hFc (fun r10 u9 t H1 locs ht hvm hw hB hz1 hk1 hS => ?_)
        obtain ⟨hP1, hK1, hD1⟩ := hB
        rw [ht] at hP1
        obtain ⟨hP, hD⟩ := va_join (wr := pickW (ceX11_judge cyI cyB cyJ cyZ a0 a1 a2 a3 b0_image b0_before b0_taken b0_five b0_far b0_lead b0_walk b0_ends b0_manX b0_manY b0_dogX b0_dogY b0_row b0_round b0_farOne b0_leads b0_drags b0_from b0_near g0_hasImage g0_remembered g0_begin g0_deep g0_faultAt g0_steps g0_men g0_dogs f1 f2 g0_thrown g0_taped g0_point g0_end f3) [2, 3]) (w1 := (ceX11_cornersOf cyI cyB cyJ cyZ a0 a1 b0_image b0_before b0_taken a2 b0_five a3 b0_far b0_lead b0_walk b0_ends b0_manX b0_manY b0_dogX b0_dogY b0_row b0_round b0_farOne b0_leads b0_drags b0_from b0_near g0_thrown g0_hasImage g0_remembered g0_taped g0_point g0_end g0_begin g0_deep g0_faultAt g0_steps g0_men g0_dogs f1)) hP hD [0, 1] [2, 3] rfl rfl (by decide) (by decide) hk1 hFc hP1 hD1
        have hP := hP.sub (ws' := (ceX11_judge cyI cyB cyJ cyZ a0 a1 a2 a3 b0_image b0_before b0_taken b0_five b0_far b0_lead b0_walk b0_ends b0_manX b0_manY b0_dogX b0_dogY b0_row b0_round b0_farOne b0_leads b0_drags b0_from b0_near g0_hasImage g0_remembered g0_begin g0_deep g0_faultAt g0_steps g0_men g0_dogs f1 f2 g0_thrown g0_taped g0_point g0_end f3)) [2, 3, 0, 1] rfl
        have hD := hD.sub (ws' := (ceX11_judge cyI cyB cyJ cyZ a0 a1 a2 a3 b0_image b0_before b0_taken b0_five b0_far b0_lead b0_walk b0_ends b0_manX b0_manY b0_dogX b0_dogY b0_row b0_round b0_farOne b0_leads b0_drags b0_from b0_near g0_hasImage g0_remembered g0_begin g0_deep g0_faultAt g0_steps g0_men g0_dogs f1 f2 g0_thrown g0_taped g0_point g0_end f3)) [2, 3, 0, 1] (by decide) rfl
        generalize H1 = H at hP hS ⊢
        refine lv_icmp_eq (tgt := 240) hx hb dX11_judge_210 (by decide) (fun hc => ?_) (fun hc => ?_)
        · have hw := hw.1 hc
          refine lv_iload hx hb dX11_judge_240 (lv_at hl 6 rfl) ?_
          rw [hQ]
          exact W.iret (v := x7) hx hb hr (fun t ht hW => ⟨⟨x7, (g0_thrown, g0_taped, g0_point, g0_end, f3), rfl, hw, by rw [ht]; exact hP, va_K.moved hW.alike hK, hD⟩, hS.F ht⟩) hS.2.2 dX11_judge_242
        · have hw := hw.2 hc
          refine lv_aload_n hx hb dX11_judge_213 rfl (lv_at hl 2 rfl) ?_
          refine lv_iload_n hx hb dX11_judge_214 rfl (lv_at hl 3 rfl) ?_
          refine lv_iload hx hb dX11_judge_215 (lv_at hl 1 rfl) ?_
          refine lv_iload_n hx hb dX11_judge_217 rfl (lv_at hl 4 rfl) ?_
          refine lv_iload hx hb dX11_judge_218 (lv_at hl 0 rfl) ?_
          have hPc := hP.sub (ws' := (ceX11_isShut cyI cyB cyJ cyZ a0 a1 a3 b0_image b0_before b0_taken a2 b0_five b0_far b0_lead b0_walk b0_ends b0_manX b0_manY b0_dogX b0_dogY b0_row b0_round b0_farOne b0_leads b0_drags b0_from b0_near g0_thrown g0_hasImage g0_remembered g0_taped g0_point g0_end g0_begin g0_deep g0_faultAt g0_steps g0_men g0_dogs f1 f3)) [0, 1, 3] rfl
          have hDc := hD.sub (ws' := (ceX11_isShut cyI cyB cyJ cyZ a0 a1 a3 b0_image b0_before b0_taken a2 b0_five b0_far b0_lead b0_walk b0_ends b0_manX b0_manY b0_dogX b0_dogY b0_row b0_round b0_farOne b0_leads b0_drags b0_from b0_near g0_thrown g0_hasImage g0_remembered g0_taped g0_point g0_end g0_begin g0_deep g0_faultAt g0_steps g0_men g0_dogs f1 f3)) [0, 1, 3] (by decide) rfl
          have hFc := va_free (wc := (ceX11_isShut cyI cyB cyJ cyZ a0 a1 a3 b0_image b0_before b0_taken a2 b0_five b0_far b0_lead b0_walk b0_ends b0_manX b0_manY b0_dogX b0_dogY b0_row b0_round b0_farOne b0_leads b0_drags b0_from b0_near g0_thrown g0_hasImage g0_remembered g0_taped g0_point g0_end g0_begin g0_deep g0_faultAt g0_steps g0_men g0_dogs f1 f3)) hD hS hA [0, 1, 3] rfl
          refine va_calli (va_runV (As := [.int x1, .int v3, .int x2, .int v6]) (rest := []) ⟨hx, hb, hml, hown, hts⟩ (ctX11_isShut l dC dI cyI cyB cyJ cyZ _ a0 a1 a3 b0_image b0_before b0_taken a2 b0_five b0_far b0_lead b0_walk b0_ends b0_manX b0_manY b0_dogX b0_dogY b0_row b0_round b0_farOne b0_leads b0_drags b0_from b0_near g0_thrown g0_hasImage g0_remembered g0_taped g0_point g0_end g0_begin g0_deep g0_faultAt g0_steps g0_men g0_dogs f1 f3 x1 v3 x2 v6 _ hw) (cwV 4 hts gX11_judge_X11_isShut rfl rfl rfl (by decide +kernel) ⟨Nat.le_of_ble_eq_true rfl, Nat.le_of_ble_eq_true rfl⟩) ⟨wPre_blind, va_recv hK hPc (ci := 11) (q0 := 0) rfl rfl, fun U hU hW => wPre_of hPc hK hDc hN hU hW⟩ rfl rfl hl.1 rfl (lv_room (Nat.le_of_ble_eq_true rfl)) dX11_judge_220 ⟨(Nat.zero_le _), (Nat.zero_le _)⟩) hS (fun q _ h => hFc q h) hFc (fun r12 u11 t H1 locs ht hvm hw hB hz1 hk1 hS => ?_)
          obtain ⟨hP1, hK1, hD1⟩ := hB
          rw [ht] at hP1
          obtain ⟨hP, hD⟩ := va_join (wr := pickW (ceX11_judge cyI cyB cyJ cyZ a0 a1 a2 a3 b0_image b0_before b0_taken b0_five b0_far b0_lead b0_walk b0_ends b0_manX b0_manY b0_dogX b0_dogY b0_row b0_round b0_farOne b0_leads b0_drags b0_from b0_near g0_hasImage g0_remembered g0_begin g0_deep g0_faultAt g0_steps g0_men g0_dogs f1 f2 g0_thrown g0_taped g0_point g0_end f3) [2]) (w1 := (ceX11_isShut cyI cyB cyJ cyZ a0 a1 a3 b0_image b0_before b0_taken a2 b0_five b0_far b0_lead b0_walk b0_ends b0_manX b0_manY b0_dogX b0_dogY b0_row b0_round b0_farOne b0_leads b0_drags b0_from b0_near g0_thrown g0_hasImage g0_remembered g0_taped g0_point g0_end g0_begin g0_deep g0_faultAt g0_steps g0_men g0_dogs f1 u11)) hP hD [0, 1, 3] [2] rfl rfl (by decide) (by decide) hk1 hFc hP1 hD1
          have hP := hP.sub (ws' := (ceX11_judge cyI cyB cyJ cyZ a0 a1 a2 a3 b0_image b0_before b0_taken b0_five b0_far b0_lead b0_walk b0_ends b0_manX b0_manY b0_dogX b0_dogY b0_row b0_round b0_farOne b0_leads b0_drags b0_from b0_near g0_hasImage g0_remembered g0_begin g0_deep g0_faultAt g0_steps g0_men g0_dogs f1 f2 g0_thrown g0_taped g0_point g0_end u11)) [1, 2, 0, 3] rfl
          have hD := hD.sub (ws' := (ceX11_judge cyI cyB cyJ cyZ a0 a1 a2 a3 b0_image b0_before b0_taken b0_five b0_far b0_lead b0_walk b0_ends b0_manX b0_manY b0_dogX b0_dogY b0_row b0_round b0_farOne b0_leads b0_drags b0_from b0_near g0_hasImage g0_remembered g0_begin g0_deep g0_faultAt g0_steps g0_men g0_dogs f1 f2 g0_thrown g0_taped g0_point g0_end u11)) [1, 2, 0, 3] (by decide) rfl
          generalize H1 = H at hP hS ⊢
          refine lv_if_ne (tgt := 240) hx hb dX11_judge_223 (by decide) (fun hc => ?_) (fun hc => ?_)
          · have hw := hw.1 hc
            refine lv_iload hx hb dX11_judge_240 (lv_at hl 6 rfl) ?_
            rw [hQ]
            exact W.iret (v := x7) hx hb hr (fun t ht hW => ⟨⟨x7, (g0_thrown, g0_taped, g0_point, g0_end, u11), rfl, hw, by rw [ht]; exact hP, va_K.moved hW.alike hK, hD⟩, hS.F ht⟩) hS.2.2 dX11_judge_242
          · have hw := hw.2 hc
            refine lv_aload_n hx hb dX11_judge_226 rfl (lv_at hl 2 rfl) ?_
            refine lv_iload_n hx hb dX11_judge_227 rfl (lv_at hl 3 rfl) ?_
            refine lv_iload hx hb dX11_judge_228 (lv_at hl 1 rfl) ?_
            refine lv_iload_n hx hb dX11_judge_230 rfl (lv_at hl 4 rfl) ?_
            refine lv_iload hx hb dX11_judge_231 (lv_at hl 0 rfl) ?_
            have hPc := hP.sub (ws' := (ceX11_farAt cyI cyB cyJ cyZ a0 a1 b0_image b0_before b0_taken a2 b0_five a3 b0_far b0_lead b0_walk b0_ends b0_manX b0_manY b0_dogX b0_dogY b0_row b0_round b0_farOne b0_leads b0_drags b0_from b0_near g0_thrown g0_hasImage g0_remembered g0_taped g0_point g0_end g0_begin g0_deep g0_faultAt g0_steps g0_men g0_dogs f1)) [0, 1] rfl
            have hDc := hD.sub (ws' := (ceX11_farAt cyI cyB cyJ cyZ a0 a1 b0_image b0_before b0_taken a2 b0_five a3 b0_far b0_lead b0_walk b0_ends b0_manX b0_manY b0_dogX b0_dogY b0_row b0_round b0_farOne b0_leads b0_drags b0_from b0_near g0_thrown g0_hasImage g0_remembered g0_taped g0_point g0_end g0_begin g0_deep g0_faultAt g0_steps g0_men g0_dogs f1)) [0, 1] (by decide) rfl
            have hFc := va_free (wc := (ceX11_farAt cyI cyB cyJ cyZ a0 a1 b0_image b0_before b0_taken a2 b0_five a3 b0_far b0_lead b0_walk b0_ends b0_manX b0_manY b0_dogX b0_dogY b0_row b0_round b0_farOne b0_leads b0_drags b0_from b0_near g0_thrown g0_hasImage g0_remembered g0_taped g0_point g0_end g0_begin g0_deep g0_faultAt g0_steps g0_men g0_dogs f1)) hD hS hA [0, 1] rfl
            refine va_calli (va_runV (As := [.int x1, .int v3, .int x2, .int v6]) (rest := []) ⟨hx, hb, hml, hown, hts⟩ (ctX11_farAt l dC dI cyI cyB cyJ cyZ _ a0 a1 b0_image b0_before b0_taken a2 b0_five a3 b0_far b0_lead b0_walk b0_ends b0_manX b0_manY b0_dogX b0_dogY b0_row b0_round b0_farOne b0_leads b0_drags b0_from b0_near g0_thrown g0_hasImage g0_remembered g0_taped g0_point g0_end g0_begin g0_deep g0_faultAt g0_steps g0_men g0_dogs f1 x1 v3 x2 v6 _ hw) (cwV 4 hts gX11_judge_X11_farAt rfl rfl rfl (by decide +kernel) ⟨Nat.le_of_ble_eq_true rfl, Nat.le_of_ble_eq_true rfl⟩) ⟨wPre_blind, va_recv hK hPc (ci := 11) (q0 := 0) rfl rfl, fun U hU hW => wPre_of hPc hK hDc hN hU hW⟩ rfl rfl hl.1 rfl (lv_room (Nat.le_of_ble_eq_true rfl)) dX11_judge_233 ⟨(Nat.zero_le _), (Nat.zero_le _)⟩) hS (fun q _ h => hFc q h) hFc (fun r14 u13 t H1 locs ht hvm hw hB hz1 hk1 hS => ?_)
            obtain ⟨hP1, hK1, hD1⟩ := hB
            rw [ht] at hP1
            obtain ⟨hP, hD⟩ := va_join (wr := pickW (ceX11_judge cyI cyB cyJ cyZ a0 a1 a2 a3 b0_image b0_before b0_taken b0_five b0_far b0_lead b0_walk b0_ends b0_manX b0_manY b0_dogX b0_dogY b0_row b0_round b0_farOne b0_leads b0_drags b0_from b0_near g0_hasImage g0_remembered g0_begin g0_deep g0_faultAt g0_steps g0_men g0_dogs f1 f2 g0_thrown g0_taped g0_point g0_end u11) [2, 3]) (w1 := (ceX11_farAt cyI cyB cyJ cyZ a0 a1 b0_image b0_before b0_taken a2 b0_five a3 b0_far b0_lead b0_walk b0_ends b0_manX b0_manY b0_dogX b0_dogY b0_row b0_round b0_farOne b0_leads b0_drags b0_from b0_near g0_thrown g0_hasImage g0_remembered g0_taped g0_point g0_end g0_begin g0_deep g0_faultAt g0_steps g0_men g0_dogs f1)) hP hD [0, 1] [2, 3] rfl rfl (by decide) (by decide) hk1 hFc hP1 hD1
            have hP := hP.sub (ws' := (ceX11_judge cyI cyB cyJ cyZ a0 a1 a2 a3 b0_image b0_before b0_taken b0_five b0_far b0_lead b0_walk b0_ends b0_manX b0_manY b0_dogX b0_dogY b0_row b0_round b0_farOne b0_leads b0_drags b0_from b0_near g0_hasImage g0_remembered g0_begin g0_deep g0_faultAt g0_steps g0_men g0_dogs f1 f2 g0_thrown g0_taped g0_point g0_end u11)) [2, 3, 0, 1] rfl
            have hD := hD.sub (ws' := (ceX11_judge cyI cyB cyJ cyZ a0 a1 a2 a3 b0_image b0_before b0_taken b0_five b0_far b0_lead b0_walk b0_ends b0_manX b0_manY b0_dogX b0_dogY b0_row b0_round b0_farOne b0_leads b0_drags b0_from b0_near g0_hasImage g0_remembered g0_begin g0_deep g0_faultAt g0_steps g0_men g0_dogs f1 f2 g0_thrown g0_taped g0_point g0_end u11)) [2, 3, 0, 1] (by decide) rfl
            generalize H1 = H at hP hS ⊢
            refine lv_iload_n hx hb dX11_judge_236 rfl (lv_at hl 5 rfl) ?_
            refine lv_icmp_le (tgt := 243) hx hb dX11_judge_237 (by decide) (fun hc => ?_) (fun hc => ?_)
            · have hw := hw.1 hc
              obtain ⟨v15, ev15⟩ : ∃ y : Int32, y = x7 + 1 := ⟨_, rfl⟩
              have hw := hw v15 ev15
              refine lv_iinc (v := v15) (lv' := [(7, .int v15), (6, .int v6), (5, .int v3), (0, .ref a0), (1, .int x1), (2, .int x2), (3, .int x3)]) hx hb dX11_judge_243 hl (k := 6) rfl (by rw [ev15]; rfl) (by decide) rfl (fun ls hl => ?_)
              refine lv_goto (tgt := 148) hx hb dX11_judge_246 (by decide) ?_
              exact ih g0_thrown g0_taped g0_point g0_end u11 x1 x2 x3 v3 v6 v15 hw H locs hP hD hS ls (lv_sub hl [3, 4, 5, 6, 2, 1, 0] rfl)
            · have hw := hw.2 hc
              refine lv_iload hx hb dX11_judge_240 (lv_at hl 6 rfl) ?_
              rw [hQ]
              exact W.iret (v := x7) hx hb hr (fun t ht hW => ⟨⟨x7, (g0_thrown, g0_taped, g0_point, g0_end, u11), rfl, hw, by rw [ht]; exact hP, va_K.moved hW.alike hK, hD⟩, hS.F ht⟩) hS.2.2 dX11_judge_242
set_option maxRecDepth 100000 in
set_option maxHeartbeats 4000000 in
theorem bX11_judge_104 {p : Program} {l : Launch} {e : Env} {s : State} {m : MethodId} {args : Array Value} {below : List Frame} {meth : Method} {c : Code} {dC : Nat → ClassId} {dI : Nat → Nat → Nat} {cyI cyB cyJ cyZ : ClassId} {A : Nat → Prop} {a0 a1 a2 a3 b0_image b0_before b0_taken b0_five b0_far b0_lead b0_walk b0_ends b0_manX b0_manY b0_dogX b0_dogY b0_row b0_round b0_farOne b0_leads b0_drags b0_from b0_near : Nat} {g0_hasImage : Int32} {g0_remembered : Int32} {g0_begin : Int32} {g0_deep : Int32} {g0_faultAt : Int32} {g0_steps : Int32} {g0_men : Int32} {g0_dogs : Int32} (C0 : cxM p s m meth c args wsX11_judge RX11 cX11_judge 8 (some .int)) (hK : va_K (dC, dI) vwCl (tyA cyI cyB cyJ cyZ) s) (hN : nwA s) (hA : ∀ q : Nat, s.heap.size ≤ q → A q) {post : Int32 → (Int32 × Int32 × Int32 × Int32 × (Nat → Int32)) → Prop} {f1 : Nat → Int32} {f2 : Nat → Int32} {Q : State → Prop} (hQ : Q = MQ below (va_Qi post (fun u : Int32 × Int32 × Int32 × Int32 × (Nat → Int32) => wAt dC dI cyI cyB cyJ cyZ A (ceX11_judge cyI cyB cyJ cyZ a0 a1 a2 a3 b0_image b0_before b0_taken b0_five b0_far b0_lead b0_walk b0_ends b0_manX b0_manY b0_dogX b0_dogY b0_row b0_round b0_farOne b0_leads b0_drags b0_from b0_near g0_hasImage g0_remembered g0_begin g0_deep g0_faultAt g0_steps g0_men g0_dogs f1 f2 u.1 u.2.1 u.2.2.1 u.2.2.2.1 u.2.2.2.2)) A) args s 0 0 A) : ∀ (g0_thrown : Int32) (g0_taped : Int32) (g0_point : Int32) (g0_end : Int32) (f3 : Nat → Int32) (x1 : Int32) (x2 : Int32) (x3 : Int32) (s1 : Int32), wpX11_judge_104 post f1 f2 g0_thrown g0_taped g0_point g0_end f3 x1 x2 x3 s1 → AtW p l e rmX11_judge s m args below meth c dC dI A Q 8 0 0 (ceX11_judge cyI cyB cyJ cyZ a0 a1 a2 a3 b0_image b0_before b0_taken b0_five b0_far b0_lead b0_walk b0_ends b0_manX b0_manY b0_dogX b0_dogY b0_row b0_round b0_farOne b0_leads b0_drags b0_from b0_near g0_hasImage g0_remembered g0_begin g0_deep g0_faultAt g0_steps g0_men g0_dogs f1 f2 g0_thrown g0_taped g0_point g0_end f3) [(0, .ref a0), (1, .int x1), (2, .int x2), (3, .int x3)] 104 [.int s1, .ref a0] := by
  intro g0_thrown g0_taped g0_point g0_end f3 x1 x2 x3 s1 hw H locs hP hD hS ls hl
  have C1 := C0
  obtain ⟨hx, hb, hr, hml, hown, hts, hlocks⟩ := C1
  refine lv_iconst (v := 2) hx hb dX11_judge_104 (by decide) ?_
  have hPc := hP.sub (ws' := (ceX11_throwsIf cyI cyB cyJ cyZ a0 a1 b0_image b0_before b0_taken a2 b0_five a3 b0_far b0_lead b0_walk b0_ends b0_manX b0_manY b0_dogX b0_dogY b0_row b0_round b0_farOne b0_leads b0_drags b0_from b0_near g0_hasImage g0_remembered g0_taped g0_point g0_end g0_begin g0_deep g0_faultAt g0_steps g0_men g0_dogs g0_thrown)) [0] rfl
  have hDc := hD.sub (ws' := (ceX11_throwsIf cyI cyB cyJ cyZ a0 a1 b0_image b0_before b0_taken a2 b0_five a3 b0_far b0_lead b0_walk b0_ends b0_manX b0_manY b0_dogX b0_dogY b0_row b0_round b0_farOne b0_leads b0_drags b0_from b0_near g0_hasImage g0_remembered g0_taped g0_point g0_end g0_begin g0_deep g0_faultAt g0_steps g0_men g0_dogs g0_thrown)) [0] (by decide) rfl
  have hFc := va_free (wc := (ceX11_throwsIf cyI cyB cyJ cyZ a0 a1 b0_image b0_before b0_taken a2 b0_five a3 b0_far b0_lead b0_walk b0_ends b0_manX b0_manY b0_dogX b0_dogY b0_row b0_round b0_farOne b0_leads b0_drags b0_from b0_near g0_hasImage g0_remembered g0_taped g0_point g0_end g0_begin g0_deep g0_faultAt g0_steps g0_men g0_dogs g0_thrown)) hD hS hA [0] rfl
  refine va_calli (va_runV (As := [.int s1, .int 2]) (rest := []) ⟨hx, hb, hml, hown, hts⟩ (ctX11_throwsIf l dC dI cyI cyB cyJ cyZ _ a0 a1 b0_image b0_before b0_taken a2 b0_five a3 b0_far b0_lead b0_walk b0_ends b0_manX b0_manY b0_dogX b0_dogY b0_row b0_round b0_farOne b0_leads b0_drags b0_from b0_near g0_hasImage g0_remembered g0_taped g0_point g0_end g0_begin g0_deep g0_faultAt g0_steps g0_men g0_dogs g0_thrown s1 2 _ hw) (cwV 2 hts gX11_judge_X11_throwsIf rfl rfl rfl (by decide +kernel) ⟨Nat.le_of_ble_eq_true rfl, Nat.le_of_ble_eq_true rfl⟩) ⟨wPre_blind, va_recv hK hPc (ci := 11) (q0 := 0) rfl rfl, fun U hU hW => wPre_of hPc hK hDc hN hU hW⟩ rfl rfl hl.1 rfl (lv_room (Nat.le_of_ble_eq_true rfl)) dX11_judge_105 ⟨(Nat.zero_le _), (Nat.zero_le _)⟩) hS (fun q _ h => hFc q h) hFc (fun r2 u1 t H1 locs ht hvm hw hB hz1 hk1 hS => ?_)
  obtain ⟨hP1, hK1, hD1⟩ := hB
  rw [ht] at hP1
  obtain ⟨hP, hD⟩ := va_join (wr := pickW (ceX11_judge cyI cyB cyJ cyZ a0 a1 a2 a3 b0_image b0_before b0_taken b0_five b0_far b0_lead b0_walk b0_ends b0_manX b0_manY b0_dogX b0_dogY b0_row b0_round b0_farOne b0_leads b0_drags b0_from b0_near g0_hasImage g0_remembered g0_begin g0_deep g0_faultAt g0_steps g0_men g0_dogs f1 f2 g0_thrown g0_taped g0_point g0_end f3) [1, 2, 3]) (w1 := (ceX11_throwsIf cyI cyB cyJ cyZ a0 a1 b0_image b0_before b0_taken a2 b0_five a3 b0_far b0_lead b0_walk b0_ends b0_manX b0_manY b0_dogX b0_dogY b0_row b0_round b0_farOne b0_leads b0_drags b0_from b0_near g0_hasImage g0_remembered g0_taped g0_point g0_end g0_begin g0_deep g0_faultAt g0_steps g0_men g0_dogs u1)) hP hD [0] [1, 2, 3] rfl rfl (by decide) (by decide) hk1 hFc hP1 hD1
  have hP := hP.sub (ws' := (ceX11_judge cyI cyB cyJ cyZ a0 a1 a2 a3 b0_image b0_before b0_taken b0_five b0_far b0_lead b0_walk b0_ends b0_manX b0_manY b0_dogX b0_dogY b0_row b0_round b0_farOne b0_leads b0_drags b0_from b0_near g0_hasImage g0_remembered g0_begin g0_deep g0_faultAt g0_steps g0_men g0_dogs f1 f2 u1 g0_taped g0_point g0_end f3)) [3, 0, 1, 2] rfl
  have hD := hD.sub (ws' := (ceX11_judge cyI cyB cyJ cyZ a0 a1 a2 a3 b0_image b0_before b0_taken b0_five b0_far b0_lead b0_walk b0_ends b0_manX b0_manY b0_dogX b0_dogY b0_row b0_round b0_farOne b0_leads b0_drags b0_from b0_near g0_hasImage g0_remembered g0_begin g0_deep g0_faultAt g0_steps g0_men g0_dogs f1 f2 u1 g0_taped g0_point g0_end f3)) [3, 0, 1, 2] (by decide) rfl
  generalize H1 = H at hP hS ⊢
  refine lv_if_eq (tgt := 113) hx hb dX11_judge_108 (by decide) (fun hc => ?_) (fun hc => ?_)
  · have hw := hw.1 hc
    refine lv_aload_n hx hb dX11_judge_113 rfl (lv_at hl 0 rfl) ?_
    refine lv_iload_n hx hb dX11_judge_114 rfl (lv_at hl 1 rfl) ?_
    refine lv_iconst (v := 0) hx hb dX11_judge_115 (by decide) ?_
    refine lv_iload_n hx hb dX11_judge_116 rfl (lv_at hl 2 rfl) ?_
    refine lv_iconst (v := 0) hx hb dX11_judge_117 (by decide) ?_
    have hPc := hP.sub (ws' := (ceX11_isShut cyI cyB cyJ cyZ a0 a1 a3 b0_image b0_before b0_taken a2 b0_five b0_far b0_lead b0_walk b0_ends b0_manX b0_manY b0_dogX b0_dogY b0_row b0_round b0_farOne b0_leads b0_drags b0_from b0_near u1 g0_hasImage g0_remembered g0_taped g0_point g0_end g0_begin g0_deep g0_faultAt g0_steps g0_men g0_dogs f1 f3)) [0, 1, 3] rfl
    have hDc := hD.sub (ws' := (ceX11_isShut cyI cyB cyJ cyZ a0 a1 a3 b0_image b0_before b0_taken a2 b0_five b0_far b0_lead b0_walk b0_ends b0_manX b0_manY b0_dogX b0_dogY b0_row b0_round b0_farOne b0_leads b0_drags b0_from b0_near u1 g0_hasImage g0_remembered g0_taped g0_point g0_end g0_begin g0_deep g0_faultAt g0_steps g0_men g0_dogs f1 f3)) [0, 1, 3] (by decide) rfl
    have hFc := va_free (wc := (ceX11_isShut cyI cyB cyJ cyZ a0 a1 a3 b0_image b0_before b0_taken a2 b0_five b0_far b0_lead b0_walk b0_ends b0_manX b0_manY b0_dogX b0_dogY b0_row b0_round b0_farOne b0_leads b0_drags b0_from b0_near u1 g0_hasImage g0_remembered g0_taped g0_point g0_end g0_begin g0_deep g0_faultAt g0_steps g0_men g0_dogs f1 f3)) hD hS hA [0, 1, 3] rfl
    refine va_calli (va_runV (As := [.int x1, .int 0, .int x2, .int 0]) (rest := []) ⟨hx, hb, hml, hown, hts⟩ (ctX11_isShut l dC dI cyI cyB cyJ cyZ _ a0 a1 a3 b0_image b0_before b0_taken a2 b0_five b0_far b0_lead b0_walk b0_ends b0_manX b0_manY b0_dogX b0_dogY b0_row b0_round b0_farOne b0_leads b0_drags b0_from b0_near u1 g0_hasImage g0_remembered g0_taped g0_point g0_end g0_begin g0_deep g0_faultAt g0_steps g0_men g0_dogs f1 f3 x1 0 x2 0 _ hw) (cwV 4 hts gX11_judge_X11_isShut rfl rfl rfl (by decide +kernel) ⟨Nat.le_of_ble_eq_true rfl, Nat.le_of_ble_eq_true rfl⟩) ⟨wPre_blind, va_recv hK hPc (ci := 11) (q0 := 0) rfl rfl, fun U hU hW => wPre_of hPc hK hDc hN hU hW⟩ rfl rfl hl.1 rfl (lv_room (Nat.le_of_ble_eq_true rfl)) dX11_judge_118 ⟨(Nat.zero_le _), (Nat.zero_le _)⟩) hS (fun q _ h => hFc q h) hFc (fun r4 u3 t H1 locs ht hvm hw hB hz1 hk1 hS => ?_)
    obtain ⟨hP1, hK1, hD1⟩ := hB
    rw [ht] at hP1
    obtain ⟨hP, hD⟩ := va_join (wr := pickW (ceX11_judge cyI cyB cyJ cyZ a0 a1 a2 a3 b0_image b0_before b0_taken b0_five b0_far b0_lead b0_walk b0_ends b0_manX b0_manY b0_dogX b0_dogY b0_row b0_round b0_farOne b0_leads b0_drags b0_from b0_near g0_hasImage g0_remembered g0_begin g0_deep g0_faultAt g0_steps g0_men g0_dogs f1 f2 u1 g0_taped g0_point g0_end f3) [2]) (w1 := (ceX11_isShut cyI cyB cyJ cyZ a0 a1 a3 b0_image b0_before b0_taken a2 b0_five b0_far b0_lead b0_walk b0_ends b0_manX b0_manY b0_dogX b0_dogY b0_row b0_round b0_farOne b0_leads b0_drags b0_from b0_near u1 g0_hasImage g0_remembered g0_taped g0_point g0_end g0_begin g0_deep g0_faultAt g0_steps g0_men g0_dogs f1 u3)) hP hD [0, 1, 3] [2] rfl rfl (by decide) (by decide) hk1 hFc hP1 hD1
    have hP := hP.sub (ws' := (ceX11_judge cyI cyB cyJ cyZ a0 a1 a2 a3 b0_image b0_before b0_taken b0_five b0_far b0_lead b0_walk b0_ends b0_manX b0_manY b0_dogX b0_dogY b0_row b0_round b0_farOne b0_leads b0_drags b0_from b0_near g0_hasImage g0_remembered g0_begin g0_deep g0_faultAt g0_steps g0_men g0_dogs f1 f2 u1 g0_taped g0_point g0_end u3)) [1, 2, 0, 3] rfl
    have hD := hD.sub (ws' := (ceX11_judge cyI cyB cyJ cyZ a0 a1 a2 a3 b0_image b0_before b0_taken b0_five b0_far b0_lead b0_walk b0_ends b0_manX b0_manY b0_dogX b0_dogY b0_row b0_round b0_farOne b0_leads b0_drags b0_from b0_near g0_hasImage g0_remembered g0_begin g0_deep g0_faultAt g0_steps g0_men g0_dogs f1 f2 u1 g0_taped g0_point g0_end u3)) [1, 2, 0, 3] (by decide) rfl
    generalize H1 = H at hP hS ⊢
    refine lv_if_ne (tgt := 136) hx hb dX11_judge_121 (by decide) (fun hc => ?_) (fun hc => ?_)
    · have hw := hw.1 hc
      refine lv_bipush (v := (-2)) hx hb dX11_judge_136 (by decide) ?_
      rw [hQ]
      exact W.iret (v := (-2)) hx hb hr (fun t ht hW => ⟨⟨(-2), (u1, g0_taped, g0_point, g0_end, u3), rfl, hw, by rw [ht]; exact hP, va_K.moved hW.alike hK, hD⟩, hS.F ht⟩) hS.2.2 dX11_judge_138
    · have hw := hw.2 hc
      refine lv_aload_n hx hb dX11_judge_124 rfl (lv_at hl 0 rfl) ?_
      refine lv_iload_n hx hb dX11_judge_125 rfl (lv_at hl 1 rfl) ?_
      refine lv_iconst (v := 0) hx hb dX11_judge_126 (by decide) ?_
      refine lv_iload_n hx hb dX11_judge_127 rfl (lv_at hl 2 rfl) ?_
      refine lv_iconst (v := 0) hx hb dX11_judge_128 (by decide) ?_
      have hPc := hP.sub (ws' := (ceX11_farAt cyI cyB cyJ cyZ a0 a1 b0_image b0_before b0_taken a2 b0_five a3 b0_far b0_lead b0_walk b0_ends b0_manX b0_manY b0_dogX b0_dogY b0_row b0_round b0_farOne b0_leads b0_drags b0_from b0_near u1 g0_hasImage g0_remembered g0_taped g0_point g0_end g0_begin g0_deep g0_faultAt g0_steps g0_men g0_dogs f1)) [0, 1] rfl
      have hDc := hD.sub (ws' := (ceX11_farAt cyI cyB cyJ cyZ a0 a1 b0_image b0_before b0_taken a2 b0_five a3 b0_far b0_lead b0_walk b0_ends b0_manX b0_manY b0_dogX b0_dogY b0_row b0_round b0_farOne b0_leads b0_drags b0_from b0_near u1 g0_hasImage g0_remembered g0_taped g0_point g0_end g0_begin g0_deep g0_faultAt g0_steps g0_men g0_dogs f1)) [0, 1] (by decide) rfl
      have hFc := va_free (wc := (ceX11_farAt cyI cyB cyJ cyZ a0 a1 b0_image b0_before b0_taken a2 b0_five a3 b0_far b0_lead b0_walk b0_ends b0_manX b0_manY b0_dogX b0_dogY b0_row b0_round b0_farOne b0_leads b0_drags b0_from b0_near u1 g0_hasImage g0_remembered g0_taped g0_point g0_end g0_begin g0_deep g0_faultAt g0_steps g0_men g0_dogs f1)) hD hS hA [0, 1] rfl
      refine va_calli (va_runV (As := [.int x1, .int 0, .int x2, .int 0]) (rest := []) ⟨hx, hb, hml, hown, hts⟩ (ctX11_farAt l dC dI cyI cyB cyJ cyZ _ a0 a1 b0_image b0_before b0_taken a2 b0_five a3 b0_far b0_lead b0_walk b0_ends b0_manX b0_manY b0_dogX b0_dogY b0_row b0_round b0_farOne b0_leads b0_drags b0_from b0_near u1 g0_hasImage g0_remembered g0_taped g0_point g0_end g0_begin g0_deep g0_faultAt g0_steps g0_men g0_dogs f1 x1 0 x2 0 _ hw) (cwV 4 hts gX11_judge_X11_farAt rfl rfl rfl (by decide +kernel) ⟨Nat.le_of_ble_eq_true rfl, Nat.le_of_ble_eq_true rfl⟩) ⟨wPre_blind, va_recv hK hPc (ci := 11) (q0 := 0) rfl rfl, fun U hU hW => wPre_of hPc hK hDc hN hU hW⟩ rfl rfl hl.1 rfl (lv_room (Nat.le_of_ble_eq_true rfl)) dX11_judge_129 ⟨(Nat.zero_le _), (Nat.zero_le _)⟩) hS (fun q _ h => hFc q h) hFc (fun r6 u5 t H1 locs ht hvm hw hB hz1 hk1 hS => ?_)
      obtain ⟨hP1, hK1, hD1⟩ := hB
      rw [ht] at hP1
      obtain ⟨hP, hD⟩ := va_join (wr := pickW (ceX11_judge cyI cyB cyJ cyZ a0 a1 a2 a3 b0_image b0_before b0_taken b0_five b0_far b0_lead b0_walk b0_ends b0_manX b0_manY b0_dogX b0_dogY b0_row b0_round b0_farOne b0_leads b0_drags b0_from b0_near g0_hasImage g0_remembered g0_begin g0_deep g0_faultAt g0_steps g0_men g0_dogs f1 f2 u1 g0_taped g0_point g0_end u3) [2, 3]) (w1 := (ceX11_farAt cyI cyB cyJ cyZ a0 a1 b0_image b0_before b0_taken a2 b0_five a3 b0_far b0_lead b0_walk b0_ends b0_manX b0_manY b0_dogX b0_dogY b0_row b0_round b0_farOne b0_leads b0_drags b0_from b0_near u1 g0_hasImage g0_remembered g0_taped g0_point g0_end g0_begin g0_deep g0_faultAt g0_steps g0_men g0_dogs f1)) hP hD [0, 1] [2, 3] rfl rfl (by decide) (by decide) hk1 hFc hP1 hD1
      have hP := hP.sub (ws' := (ceX11_judge cyI cyB cyJ cyZ a0 a1 a2 a3 b0_image b0_before b0_taken b0_five b0_far b0_lead b0_walk b0_ends b0_manX b0_manY b0_dogX b0_dogY b0_row b0_round b0_farOne b0_leads b0_drags b0_from b0_near g0_hasImage g0_remembered g0_begin g0_deep g0_faultAt g0_steps g0_men g0_dogs f1 f2 u1 g0_taped g0_point g0_end u3)) [2, 3, 0, 1] rfl
      have hD := hD.sub (ws' := (ceX11_judge cyI cyB cyJ cyZ a0 a1 a2 a3 b0_image b0_before b0_taken b0_five b0_far b0_lead b0_walk b0_ends b0_manX b0_manY b0_dogX b0_dogY b0_row b0_round b0_farOne b0_leads b0_drags b0_from b0_near g0_hasImage g0_remembered g0_begin g0_deep g0_faultAt g0_steps g0_men g0_dogs f1 f2 u1 g0_taped g0_point g0_end u3)) [2, 3, 0, 1] (by decide) rfl
      generalize H1 = H at hP hS ⊢
      refine lv_iload_n hx hb dX11_judge_132 rfl (lv_at hl 3 rfl) ?_
      refine lv_icmp_le (tgt := 139) hx hb dX11_judge_133 (by decide) (fun hc => ?_) (fun hc => ?_)
      · have hw := hw.1 hc
        refine lv_iconst (v := 0) hx hb dX11_judge_139 (by decide) ?_
        refine lv_istore (lv' := [(5, .int 0), (0, .ref a0), (1, .int x1), (2, .int x2), (3, .int x3)]) hx hb dX11_judge_140 hl (by decide) rfl (fun ls hl => ?_)
        refine lv_iconst (v := 0) hx hb dX11_judge_142 (by decide) ?_
        refine lv_istore (lv' := [(6, .int 0), (5, .int 0), (0, .ref a0), (1, .int x1), (2, .int x2), (3, .int x3)]) hx hb dX11_judge_143 hl (by decide) rfl (fun ls hl => ?_)
        refine lv_iconst (v := 0) hx hb dX11_judge_145 (by decide) ?_
        refine lv_istore (lv' := [(7, .int 0), (6, .int 0), (5, .int 0), (0, .ref a0), (1, .int x1), (2, .int x2), (3, .int x3)]) hx hb dX11_judge_146 hl (by decide) rfl (fun ls hl => ?_)
        obtain ⟨nn, hw⟩ := hw
        exact bX11_judge_148 C0 hK hN hA hQ nn u1 g0_taped g0_point g0_end u3 x1 x2 x3 0 0 0 hw _ _ hP hD hS ls (lv_sub hl [3, 4, 5, 6, 2, 1, 0] rfl)
      · have hw := hw.2 hc
        refine lv_bipush (v := (-2)) hx hb dX11_judge_136 (by decide) ?_
        rw [hQ]
        exact W.iret (v := (-2)) hx hb hr (fun t ht hW => ⟨⟨(-2), (u1, g0_taped, g0_point, g0_end, u3), rfl, hw, by rw [ht]; exact hP, va_K.moved hW.alike hK, hD⟩, hS.F ht⟩) hS.2.2 dX11_judge_138
  · have hw := hw.2 hc
    refine lv_iconst (v := 0) hx hb dX11_judge_111 (by decide) ?_
    rw [hQ]
    exact W.iret (v := 0) hx hb hr (fun t ht hW => ⟨⟨0, (u1, g0_taped, g0_point, g0_end, f3), rfl, hw, by rw [ht]; exact hP, va_K.moved hW.alike hK, hD⟩, hS.F ht⟩) hS.2.2 dX11_judge_112
set_option maxRecDepth 100000 in
set_option maxHeartbeats 4000000 in
theorem bX11_judge_85 {p : Program} {l : Launch} {e : Env} {s : State} {m : MethodId} {args : Array Value} {below : List Frame} {meth : Method} {c : Code} {dC : Nat → ClassId} {dI : Nat → Nat → Nat} {cyI cyB cyJ cyZ : ClassId} {A : Nat → Prop} {a0 a1 a2 a3 b0_image b0_before b0_taken b0_five b0_far b0_lead b0_walk b0_ends b0_manX b0_manY b0_dogX b0_dogY b0_row b0_round b0_farOne b0_leads b0_drags b0_from b0_near : Nat} {g0_hasImage : Int32} {g0_remembered : Int32} {g0_begin : Int32} {g0_deep : Int32} {g0_faultAt : Int32} {g0_steps : Int32} {g0_men : Int32} {g0_dogs : Int32} (C0 : cxM p s m meth c args wsX11_judge RX11 cX11_judge 8 (some .int)) (hK : va_K (dC, dI) vwCl (tyA cyI cyB cyJ cyZ) s) (hN : nwA s) (hA : ∀ q : Nat, s.heap.size ≤ q → A q) {post : Int32 → (Int32 × Int32 × Int32 × Int32 × (Nat → Int32)) → Prop} {f1 : Nat → Int32} {f2 : Nat → Int32} {k49 : Int32 → Int32 → Int32 → Int32 → (Nat → Int32) → Int32 → Int32 → Int32 → Int32 → Int32 → Prop} {Q : State → Prop} (hQ : Q = MQ below (va_Qi post (fun u : Int32 × Int32 × Int32 × Int32 × (Nat → Int32) => wAt dC dI cyI cyB cyJ cyZ A (ceX11_judge cyI cyB cyJ cyZ a0 a1 a2 a3 b0_image b0_before b0_taken b0_five b0_far b0_lead b0_walk b0_ends b0_manX b0_manY b0_dogX b0_dogY b0_row b0_round b0_farOne b0_leads b0_drags b0_from b0_near g0_hasImage g0_remembered g0_begin g0_deep g0_faultAt g0_steps g0_men g0_dogs f1 f2 u.1 u.2.1 u.2.2.1 u.2.2.2.1 u.2.2.2.2)) A) args s 0 0 A) (hk49 : ∀ (g0_thrown : Int32) (g0_taped : Int32) (g0_point : Int32) (g0_end : Int32) (f3 : Nat → Int32) (x1 : Int32) (x2 : Int32) (x3 : Int32) (x4 : Int32) (x5 : Int32), k49 g0_thrown g0_taped g0_point g0_end f3 x1 x2 x3 x4 x5 → AtW p l e rmX11_judge s m args below meth c dC dI A Q 8 0 0 (ceX11_judge cyI cyB cyJ cyZ a0 a1 a2 a3 b0_image b0_before b0_taken b0_five b0_far b0_lead b0_walk b0_ends b0_manX b0_manY b0_dogX b0_dogY b0_row b0_round b0_farOne b0_leads b0_drags b0_from b0_near g0_hasImage g0_remembered g0_begin g0_deep g0_faultAt g0_steps g0_men g0_dogs f1 f2 g0_thrown g0_taped g0_point g0_end f3) [(0, .ref a0), (1, .int x1), (2, .int x2), (3, .int x3), (4, .int x4), (5, .int x5)] 49 []) : ∀ (g0_thrown : Int32) (g0_taped : Int32) (g0_point : Int32) (g0_end : Int32) (f3 : Nat → Int32) (x1 : Int32) (x2 : Int32) (x3 : Int32) (x5 : Int32) (s0 : Int32), wpX11_judge_85 k49 post f1 f2 g0_thrown g0_taped g0_point g0_end f3 x1 x2 x3 x5 s0 → AtW p l e rmX11_judge s m args below meth c dC dI A Q 8 0 0 (ceX11_judge cyI cyB cyJ cyZ a0 a1 a2 a3 b0_image b0_before b0_taken b0_five b0_far b0_lead b0_walk b0_ends b0_manX b0_manY b0_dogX b0_dogY b0_row b0_round b0_farOne b0_leads b0_drags b0_from b0_near g0_hasImage g0_remembered g0_begin g0_deep g0_faultAt g0_steps g0_men g0_dogs f1 f2 g0_thrown g0_taped g0_point g0_end f3) [(0, .ref a0), (1, .int x1), (2, .int x2), (3, .int x3), (5, .int x5)] 85 [.int s0] := by
  intro g0_thrown g0_taped g0_point g0_end f3 x1 x2 x3 x5 s0 hw H locs hP hD hS ls hl
  have C1 := C0
  obtain ⟨hx, hb, hr, hml, hown, hts, hlocks⟩ := C1
  refine lv_istore (lv' := [(4, .int s0), (0, .ref a0), (1, .int x1), (2, .int x2), (3, .int x3), (5, .int x5)]) hx hb dX11_judge_85 hl (by decide) rfl (fun ls hl => ?_)
  obtain ⟨v1, ev1⟩ : ∃ y : Int32, y = x5 + 1 := ⟨_, rfl⟩
  have hw := hw v1 ev1
  refine lv_iinc (v := v1) (lv' := [(5, .int v1), (4, .int s0), (0, .ref a0), (1, .int x1), (2, .int x2), (3, .int x3)]) hx hb dX11_judge_87 hl (k := 5) rfl (by rw [ev1]; rfl) (by decide) rfl (fun ls hl => ?_)
  refine lv_goto (tgt := 49) hx hb dX11_judge_90 (by decide) ?_
  exact hk49 g0_thrown g0_taped g0_point g0_end f3 x1 x2 x3 s0 v1 hw H locs hP hD hS ls (lv_sub hl [2, 3, 4, 5, 1, 0] rfl)
set_option maxRecDepth 100000 in
set_option maxHeartbeats 4000000 in
theorem bX11_judge_84 {p : Program} {l : Launch} {e : Env} {s : State} {m : MethodId} {args : Array Value} {below : List Frame} {meth : Method} {c : Code} {dC : Nat → ClassId} {dI : Nat → Nat → Nat} {cyI cyB cyJ cyZ : ClassId} {A : Nat → Prop} {a0 a1 a2 a3 b0_image b0_before b0_taken b0_five b0_far b0_lead b0_walk b0_ends b0_manX b0_manY b0_dogX b0_dogY b0_row b0_round b0_farOne b0_leads b0_drags b0_from b0_near : Nat} {g0_hasImage : Int32} {g0_remembered : Int32} {g0_begin : Int32} {g0_deep : Int32} {g0_faultAt : Int32} {g0_steps : Int32} {g0_men : Int32} {g0_dogs : Int32} (C0 : cxM p s m meth c args wsX11_judge RX11 cX11_judge 8 (some .int)) (hK : va_K (dC, dI) vwCl (tyA cyI cyB cyJ cyZ) s) (hN : nwA s) (hA : ∀ q : Nat, s.heap.size ≤ q → A q) {post : Int32 → (Int32 × Int32 × Int32 × Int32 × (Nat → Int32)) → Prop} {f1 : Nat → Int32} {f2 : Nat → Int32} {k49 : Int32 → Int32 → Int32 → Int32 → (Nat → Int32) → Int32 → Int32 → Int32 → Int32 → Int32 → Prop} {Q : State → Prop} (hQ : Q = MQ below (va_Qi post (fun u : Int32 × Int32 × Int32 × Int32 × (Nat → Int32) => wAt dC dI cyI cyB cyJ cyZ A (ceX11_judge cyI cyB cyJ cyZ a0 a1 a2 a3 b0_image b0_before b0_taken b0_five b0_far b0_lead b0_walk b0_ends b0_manX b0_manY b0_dogX b0_dogY b0_row b0_round b0_farOne b0_leads b0_drags b0_from b0_near g0_hasImage g0_remembered g0_begin g0_deep g0_faultAt g0_steps g0_men g0_dogs f1 f2 u.1 u.2.1 u.2.2.1 u.2.2.2.1 u.2.2.2.2)) A) args s 0 0 A) (hk49 : ∀ (g0_thrown : Int32) (g0_taped : Int32) (g0_point : Int32) (g0_end : Int32) (f3 : Nat → Int32) (x1 : Int32) (x2 : Int32) (x3 : Int32) (x4 : Int32) (x5 : Int32), k49 g0_thrown g0_taped g0_point g0_end f3 x1 x2 x3 x4 x5 → AtW p l e rmX11_judge s m args below meth c dC dI A Q 8 0 0 (ceX11_judge cyI cyB cyJ cyZ a0 a1 a2 a3 b0_image b0_before b0_taken b0_five b0_far b0_lead b0_walk b0_ends b0_manX b0_manY b0_dogX b0_dogY b0_row b0_round b0_farOne b0_leads b0_drags b0_from b0_near g0_hasImage g0_remembered g0_begin g0_deep g0_faultAt g0_steps g0_men g0_dogs f1 f2 g0_thrown g0_taped g0_point g0_end f3) [(0, .ref a0), (1, .int x1), (2, .int x2), (3, .int x3), (4, .int x4), (5, .int x5)] 49 []) : ∀ (g0_thrown : Int32) (g0_taped : Int32) (g0_point : Int32) (g0_end : Int32) (f3 : Nat → Int32) (x1 : Int32) (x2 : Int32) (x3 : Int32) (x5 : Int32), wpX11_judge_84 k49 post f1 f2 g0_thrown g0_taped g0_point g0_end f3 x1 x2 x3 x5 → AtW p l e rmX11_judge s m args below meth c dC dI A Q 8 0 0 (ceX11_judge cyI cyB cyJ cyZ a0 a1 a2 a3 b0_image b0_before b0_taken b0_five b0_far b0_lead b0_walk b0_ends b0_manX b0_manY b0_dogX b0_dogY b0_row b0_round b0_farOne b0_leads b0_drags b0_from b0_near g0_hasImage g0_remembered g0_begin g0_deep g0_faultAt g0_steps g0_men g0_dogs f1 f2 g0_thrown g0_taped g0_point g0_end f3) [(0, .ref a0), (1, .int x1), (2, .int x2), (3, .int x3), (5, .int x5)] 84 [] := by
  intro g0_thrown g0_taped g0_point g0_end f3 x1 x2 x3 x5 hw H locs hP hD hS ls hl
  have C1 := C0
  obtain ⟨hx, hb, hr, hml, hown, hts, hlocks⟩ := C1
  refine lv_iconst (v := 0) hx hb dX11_judge_84 (by decide) ?_
  exact bX11_judge_85 C0 hK hN hA hQ hk49 g0_thrown g0_taped g0_point g0_end f3 x1 x2 x3 x5 0 hw _ _ hP hD hS ls (lv_sub hl [0, 1, 2, 3, 4] rfl)
set_option maxRecDepth 100000 in
set_option maxHeartbeats 4000000 in
theorem bX11_judge_49 {p : Program} {l : Launch} {e : Env} {s : State} {m : MethodId} {args : Array Value} {below : List Frame} {meth : Method} {c : Code} {dC : Nat → ClassId} {dI : Nat → Nat → Nat} {cyI cyB cyJ cyZ : ClassId} {A : Nat → Prop} {a0 a1 a2 a3 b0_image b0_before b0_taken b0_five b0_far b0_lead b0_walk b0_ends b0_manX b0_manY b0_dogX b0_dogY b0_row b0_round b0_farOne b0_leads b0_drags b0_from b0_near : Nat} {g0_hasImage : Int32} {g0_remembered : Int32} {g0_begin : Int32} {g0_deep : Int32} {g0_faultAt : Int32} {g0_steps : Int32} {g0_men : Int32} {g0_dogs : Int32} (C0 : cxM p s m meth c args wsX11_judge RX11 cX11_judge 8 (some .int)) (hK : va_K (dC, dI) vwCl (tyA cyI cyB cyJ cyZ) s) (hN : nwA s) (hA : ∀ q : Nat, s.heap.size ≤ q → A q) {post : Int32 → (Int32 × Int32 × Int32 × Int32 × (Nat → Int32)) → Prop} {f1 : Nat → Int32} {f2 : Nat → Int32} {Q : State → Prop} (hQ : Q = MQ below (va_Qi post (fun u : Int32 × Int32 × Int32 × Int32 × (Nat → Int32) => wAt dC dI cyI cyB cyJ cyZ A (ceX11_judge cyI cyB cyJ cyZ a0 a1 a2 a3 b0_image b0_before b0_taken b0_five b0_far b0_lead b0_walk b0_ends b0_manX b0_manY b0_dogX b0_dogY b0_row b0_round b0_farOne b0_leads b0_drags b0_from b0_near g0_hasImage g0_remembered g0_begin g0_deep g0_faultAt g0_steps g0_men g0_dogs f1 f2 u.1 u.2.1 u.2.2.1 u.2.2.2.1 u.2.2.2.2)) A) args s 0 0 A) : ∀ (n : Nat) (g0_thrown : Int32) (g0_taped : Int32) (g0_point : Int32) (g0_end : Int32) (f3 : Nat → Int32) (x1 : Int32) (x2 : Int32) (x3 : Int32) (x4 : Int32) (x5 : Int32), wpX11_judge_49 post f1 f2 n g0_thrown g0_taped g0_point g0_end f3 x1 x2 x3 x4 x5 → AtW p l e rmX11_judge s m args below meth c dC dI A Q 8 0 0 (ceX11_judge cyI cyB cyJ cyZ a0 a1 a2 a3 b0_image b0_before b0_taken b0_five b0_far b0_lead b0_walk b0_ends b0_manX b0_manY b0_dogX b0_dogY b0_row b0_round b0_farOne b0_leads b0_drags b0_from b0_near g0_hasImage g0_remembered g0_begin g0_deep g0_faultAt g0_steps g0_men g0_dogs f1 f2 g0_thrown g0_taped g0_point g0_end f3) [(0, .ref a0), (1, .int x1), (2, .int x2), (3, .int x3), (4, .int x4), (5, .int x5)] 49 [] := by
  intro n
  induction n with
  | zero => intro g0_thrown g0_taped g0_point g0_end f3 x1 x2 x3 x4 x5 hw; exact False.elim hw
  | succ n ih =>
    intro g0_thrown g0_taped g0_point g0_end f3 x1 x2 x3 x4 x5 hw H locs hP hD hS ls hl
    have C1 := C0
    obtain ⟨hx, hb, hr, hml, hown, hts, hlocks⟩ := C1
    refine lv_iload hx hb dX11_judge_49 (lv_at hl 5 rfl) ?_
    refine lv_aload_n hx hb dX11_judge_51 rfl (lv_at hl 0 rfl) ?_
    refine va_get (D := (dC, dI)) (ci := 11) (v := .int g0_end) (C := RX11) (T := TX11) (N := 34) hx hb hts inX11_judge_X11 hown hK hP 0 rfl rfl 10 (by decide) (hts (.fieldLink RX11 115 "LeadParkModel" "end" "I") (List.mem_of_getElem? (i := 1) rfl)) (fun _ h9 => h9) rfl dX11_judge_52 ?_
    refine lv_icmp_ge (tgt := 93) hx hb dX11_judge_55 (by decide) (fun hc => ?_) (fun hc => ?_)
    · have hw := hw.1 hc
      refine lv_aload_n hx hb dX11_judge_93 rfl (lv_at hl 0 rfl) ?_
      refine lv_iload hx hb dX11_judge_94 (lv_at hl 4 rfl) ?_
      refine lv_if_ne (tgt := 103) hx hb dX11_judge_96 (by decide) (fun hc => ?_) (fun hc => ?_)
      · have hw := hw.1 hc
        refine lv_iconst (v := 0) hx hb dX11_judge_103 (by decide) ?_
        exact bX11_judge_104 C0 hK hN hA hQ g0_thrown g0_taped g0_point g0_end f3 x1 x2 x3 0 hw _ _ hP hD hS ls (lv_sub hl [0, 1, 2, 3] rfl)
      · have hw := hw.2 hc
        refine lv_iconst (v := 1) hx hb dX11_judge_99 (by decide) ?_
        refine lv_goto (tgt := 104) hx hb dX11_judge_100 (by decide) ?_
        exact bX11_judge_104 C0 hK hN hA hQ g0_thrown g0_taped g0_point g0_end f3 x1 x2 x3 1 hw _ _ hP hD hS ls (lv_sub hl [0, 1, 2, 3] rfl)
    · have hw := hw.2 hc
      refine lv_iload hx hb dX11_judge_58 (lv_at hl 4 rfl) ?_
      refine lv_if_eq (tgt := 84) hx hb dX11_judge_60 (by decide) (fun hc => ?_) (fun hc => ?_)
      · have hw := hw.1 hc
        exact bX11_judge_84 C0 hK hN hA hQ ih g0_thrown g0_taped g0_point g0_end f3 x1 x2 x3 x5 hw _ _ hP hD hS ls (lv_sub hl [0, 1, 2, 3, 5] rfl)
      · have hw := hw.2 hc
        refine lv_aload_n hx hb dX11_judge_63 rfl (lv_at hl 0 rfl) ?_
        refine va_get (D := (dC, dI)) (ci := 11) (v := .ref a2) (C := RX11) (T := TX11) (N := 34) hx hb hts inX11_judge_X11 hown hK hP 0 rfl rfl 7 (by decide) (hts (.fieldLink RX11 26 "LeadParkModel" "tape" "[B") (List.mem_of_getElem? (i := 2) rfl)) (fun _ h9 => h9) rfl dX11_judge_64 ?_
        refine lv_iload hx hb dX11_judge_67 (lv_at hl 5 rfl) ?_
        obtain ⟨hi, hw⟩ := hw
        refine va_bald hx hb hK hP 2 1 rfl rfl hi dX11_judge_69 ?_
        refine lv_bipush (v := 49) hx hb dX11_judge_70 (by decide) ?_
        refine lv_bipush (v := 51) hx hb dX11_judge_72 (by decide) ?_
        have hPc := hP.sub (ws' := ([] : va_W)) [] rfl
        have hDc := hD.sub (ws' := ([] : va_W)) [] (by decide) rfl
        have hFc := va_free (wc := ([] : va_W)) hD hS hA [] rfl
        refine va_calli (va_runS (As := [.int (f2 x5.toNatClampNeg), .int 49, .int 51]) (rest := []) ⟨hx, hb, hml, hown, hts⟩ (ctX11_in l dC dI cyI cyB cyJ cyZ _ (f2 x5.toNatClampNeg) 49 51 _ hw) (va_cwS 3 hts gX11_judge_X11_in rfl rfl rfl (by decide +kernel) ⟨Nat.le_of_ble_eq_true rfl, Nat.le_of_ble_eq_true rfl⟩) ⟨wPre_blind, fun U hU hW => wPre_of hPc hK hDc hN hU hW⟩ rfl rfl hl.1 rfl (lv_room (Nat.le_of_ble_eq_true rfl)) dX11_judge_74 ⟨(Nat.zero_le _), (Nat.zero_le _)⟩) hS (fun q _ h => hFc q h) hFc (fun r2 u1 t H1 locs ht hvm hw hB hz1 hk1 hS => ?_)
        obtain ⟨hP1, hK1, hD1⟩ := hB
        rw [ht] at hP1
        obtain ⟨hP, hD⟩ := va_join (wr := pickW (ceX11_judge cyI cyB cyJ cyZ a0 a1 a2 a3 b0_image b0_before b0_taken b0_five b0_far b0_lead b0_walk b0_ends b0_manX b0_manY b0_dogX b0_dogY b0_row b0_round b0_farOne b0_leads b0_drags b0_from b0_near g0_hasImage g0_remembered g0_begin g0_deep g0_faultAt g0_steps g0_men g0_dogs f1 f2 g0_thrown g0_taped g0_point g0_end f3) [0, 1, 2, 3]) (w1 := ([] : va_W)) hP hD [] [0, 1, 2, 3] rfl rfl (by decide) (by decide) hk1 hFc hP1 hD1
        have hP := hP.sub (ws' := (ceX11_judge cyI cyB cyJ cyZ a0 a1 a2 a3 b0_image b0_before b0_taken b0_five b0_far b0_lead b0_walk b0_ends b0_manX b0_manY b0_dogX b0_dogY b0_row b0_round b0_farOne b0_leads b0_drags b0_from b0_near g0_hasImage g0_remembered g0_begin g0_deep g0_faultAt g0_steps g0_men g0_dogs f1 f2 g0_thrown g0_taped g0_point g0_end f3)) [0, 1, 2, 3] rfl
        have hD := hD.sub (ws' := (ceX11_judge cyI cyB cyJ cyZ a0 a1 a2 a3 b0_image b0_before b0_taken b0_five b0_far b0_lead b0_walk b0_ends b0_manX b0_manY b0_dogX b0_dogY b0_row b0_round b0_farOne b0_leads b0_drags b0_from b0_near g0_hasImage g0_remembered g0_begin g0_deep g0_faultAt g0_steps g0_men g0_dogs f1 f2 g0_thrown g0_taped g0_point g0_end f3)) [0, 1, 2, 3] (by decide) rfl
        generalize H1 = H at hP hS ⊢
        refine lv_if_eq (tgt := 84) hx hb dX11_judge_77 (by decide) (fun hc => ?_) (fun hc => ?_)
        · have hw := hw.1 hc
          exact bX11_judge_84 C0 hK hN hA hQ ih g0_thrown g0_taped g0_point g0_end f3 x1 x2 x3 x5 hw _ _ hP hD hS ls (lv_sub hl [0, 1, 2, 3, 5] rfl)
        · have hw := hw.2 hc
          refine lv_iconst (v := 1) hx hb dX11_judge_80 (by decide) ?_
          refine lv_goto (tgt := 85) hx hb dX11_judge_81 (by decide) ?_
          exact bX11_judge_85 C0 hK hN hA hQ ih g0_thrown g0_taped g0_point g0_end f3 x1 x2 x3 x5 1 hw _ _ hP hD hS ls (lv_sub hl [0, 1, 2, 3, 5] rfl)
set_option maxRecDepth 100000 in
set_option maxHeartbeats 4000000 in
theorem bX11_judge_44 {p : Program} {l : Launch} {e : Env} {s : State} {m : MethodId} {args : Array Value} {below : List Frame} {meth : Method} {c : Code} {dC : Nat → ClassId} {dI : Nat → Nat → Nat} {cyI cyB cyJ cyZ : ClassId} {A : Nat → Prop} {a0 a1 a2 a3 b0_image b0_before b0_taken b0_five b0_far b0_lead b0_walk b0_ends b0_manX b0_manY b0_dogX b0_dogY b0_row b0_round b0_farOne b0_leads b0_drags b0_from b0_near : Nat} {g0_hasImage : Int32} {g0_remembered : Int32} {g0_begin : Int32} {g0_deep : Int32} {g0_faultAt : Int32} {g0_steps : Int32} {g0_men : Int32} {g0_dogs : Int32} (C0 : cxM p s m meth c args wsX11_judge RX11 cX11_judge 8 (some .int)) (hK : va_K (dC, dI) vwCl (tyA cyI cyB cyJ cyZ) s) (hN : nwA s) (hA : ∀ q : Nat, s.heap.size ≤ q → A q) {post : Int32 → (Int32 × Int32 × Int32 × Int32 × (Nat → Int32)) → Prop} {f1 : Nat → Int32} {f2 : Nat → Int32} {Q : State → Prop} (hQ : Q = MQ below (va_Qi post (fun u : Int32 × Int32 × Int32 × Int32 × (Nat → Int32) => wAt dC dI cyI cyB cyJ cyZ A (ceX11_judge cyI cyB cyJ cyZ a0 a1 a2 a3 b0_image b0_before b0_taken b0_five b0_far b0_lead b0_walk b0_ends b0_manX b0_manY b0_dogX b0_dogY b0_row b0_round b0_farOne b0_leads b0_drags b0_from b0_near g0_hasImage g0_remembered g0_begin g0_deep g0_faultAt g0_steps g0_men g0_dogs f1 f2 u.1 u.2.1 u.2.2.1 u.2.2.2.1 u.2.2.2.2)) A) args s 0 0 A) : ∀ (g0_thrown : Int32) (g0_taped : Int32) (g0_point : Int32) (g0_end : Int32) (f3 : Nat → Int32) (x1 : Int32) (x2 : Int32) (x3 : Int32) (s0 : Int32), wpX11_judge_44 post f1 f2 g0_thrown g0_taped g0_point g0_end f3 x1 x2 x3 s0 → AtW p l e rmX11_judge s m args below meth c dC dI A Q 8 0 0 (ceX11_judge cyI cyB cyJ cyZ a0 a1 a2 a3 b0_image b0_before b0_taken b0_five b0_far b0_lead b0_walk b0_ends b0_manX b0_manY b0_dogX b0_dogY b0_row b0_round b0_farOne b0_leads b0_drags b0_from b0_near g0_hasImage g0_remembered g0_begin g0_deep g0_faultAt g0_steps g0_men g0_dogs f1 f2 g0_thrown g0_taped g0_point g0_end f3) [(0, .ref a0), (1, .int x1), (2, .int x2), (3, .int x3)] 44 [.int s0] := by
  intro g0_thrown g0_taped g0_point g0_end f3 x1 x2 x3 s0 hw H locs hP hD hS ls hl
  have C1 := C0
  obtain ⟨hx, hb, hr, hml, hown, hts, hlocks⟩ := C1
  refine lv_istore (lv' := [(4, .int s0), (0, .ref a0), (1, .int x1), (2, .int x2), (3, .int x3)]) hx hb dX11_judge_44 hl (by decide) rfl (fun ls hl => ?_)
  refine lv_iconst (v := 0) hx hb dX11_judge_46 (by decide) ?_
  refine lv_istore (lv' := [(5, .int 0), (4, .int s0), (0, .ref a0), (1, .int x1), (2, .int x2), (3, .int x3)]) hx hb dX11_judge_47 hl (by decide) rfl (fun ls hl => ?_)
  obtain ⟨nn, hw⟩ := hw
  exact bX11_judge_49 C0 hK hN hA hQ nn g0_thrown g0_taped g0_point g0_end f3 x1 x2 x3 s0 0 hw _ _ hP hD hS ls (lv_sub hl [2, 3, 4, 5, 1, 0] rfl)
set_option maxRecDepth 100000 in
set_option maxHeartbeats 4000000 in
theorem bX11_judge_26 {p : Program} {l : Launch} {e : Env} {s : State} {m : MethodId} {args : Array Value} {below : List Frame} {meth : Method} {c : Code} {dC : Nat → ClassId} {dI : Nat → Nat → Nat} {cyI cyB cyJ cyZ : ClassId} {A : Nat → Prop} {a0 a1 a2 a3 b0_image b0_before b0_taken b0_five b0_far b0_lead b0_walk b0_ends b0_manX b0_manY b0_dogX b0_dogY b0_row b0_round b0_farOne b0_leads b0_drags b0_from b0_near : Nat} {g0_hasImage : Int32} {g0_remembered : Int32} {g0_begin : Int32} {g0_deep : Int32} {g0_faultAt : Int32} {g0_steps : Int32} {g0_men : Int32} {g0_dogs : Int32} (C0 : cxM p s m meth c args wsX11_judge RX11 cX11_judge 8 (some .int)) (hK : va_K (dC, dI) vwCl (tyA cyI cyB cyJ cyZ) s) (hN : nwA s) (hA : ∀ q : Nat, s.heap.size ≤ q → A q) {post : Int32 → (Int32 × Int32 × Int32 × Int32 × (Nat → Int32)) → Prop} {f1 : Nat → Int32} {f2 : Nat → Int32} {Q : State → Prop} (hQ : Q = MQ below (va_Qi post (fun u : Int32 × Int32 × Int32 × Int32 × (Nat → Int32) => wAt dC dI cyI cyB cyJ cyZ A (ceX11_judge cyI cyB cyJ cyZ a0 a1 a2 a3 b0_image b0_before b0_taken b0_five b0_far b0_lead b0_walk b0_ends b0_manX b0_manY b0_dogX b0_dogY b0_row b0_round b0_farOne b0_leads b0_drags b0_from b0_near g0_hasImage g0_remembered g0_begin g0_deep g0_faultAt g0_steps g0_men g0_dogs f1 f2 u.1 u.2.1 u.2.2.1 u.2.2.2.1 u.2.2.2.2)) A) args s 0 0 A) : ∀ (g0_thrown : Int32) (g0_taped : Int32) (g0_point : Int32) (g0_end : Int32) (f3 : Nat → Int32) (x1 : Int32) (x2 : Int32) (x3 : Int32) (s1 : Int32), wpX11_judge_26 post f1 f2 g0_thrown g0_taped g0_point g0_end f3 x1 x2 x3 s1 → AtW p l e rmX11_judge s m args below meth c dC dI A Q 8 0 0 (ceX11_judge cyI cyB cyJ cyZ a0 a1 a2 a3 b0_image b0_before b0_taken b0_five b0_far b0_lead b0_walk b0_ends b0_manX b0_manY b0_dogX b0_dogY b0_row b0_round b0_farOne b0_leads b0_drags b0_from b0_near g0_hasImage g0_remembered g0_begin g0_deep g0_faultAt g0_steps g0_men g0_dogs f1 f2 g0_thrown g0_taped g0_point g0_end f3) [(0, .ref a0), (1, .int x1), (2, .int x2), (3, .int x3)] 26 [.int s1, .ref a0] := by
  intro g0_thrown g0_taped g0_point g0_end f3 x1 x2 x3 s1 hw H locs hP hD hS ls hl
  have C1 := C0
  obtain ⟨hx, hb, hr, hml, hown, hts, hlocks⟩ := C1
  refine lv_iconst (v := 1) hx hb dX11_judge_26 (by decide) ?_
  have hPc := hP.sub (ws' := (ceX11_throwsIf cyI cyB cyJ cyZ a0 a1 b0_image b0_before b0_taken a2 b0_five a3 b0_far b0_lead b0_walk b0_ends b0_manX b0_manY b0_dogX b0_dogY b0_row b0_round b0_farOne b0_leads b0_drags b0_from b0_near g0_hasImage g0_remembered g0_taped g0_point g0_end g0_begin g0_deep g0_faultAt g0_steps g0_men g0_dogs g0_thrown)) [0] rfl
  have hDc := hD.sub (ws' := (ceX11_throwsIf cyI cyB cyJ cyZ a0 a1 b0_image b0_before b0_taken a2 b0_five a3 b0_far b0_lead b0_walk b0_ends b0_manX b0_manY b0_dogX b0_dogY b0_row b0_round b0_farOne b0_leads b0_drags b0_from b0_near g0_hasImage g0_remembered g0_taped g0_point g0_end g0_begin g0_deep g0_faultAt g0_steps g0_men g0_dogs g0_thrown)) [0] (by decide) rfl
  have hFc := va_free (wc := (ceX11_throwsIf cyI cyB cyJ cyZ a0 a1 b0_image b0_before b0_taken a2 b0_five a3 b0_far b0_lead b0_walk b0_ends b0_manX b0_manY b0_dogX b0_dogY b0_row b0_round b0_farOne b0_leads b0_drags b0_from b0_near g0_hasImage g0_remembered g0_taped g0_point g0_end g0_begin g0_deep g0_faultAt g0_steps g0_men g0_dogs g0_thrown)) hD hS hA [0] rfl
  refine va_calli (va_runV (As := [.int s1, .int 1]) (rest := []) ⟨hx, hb, hml, hown, hts⟩ (ctX11_throwsIf l dC dI cyI cyB cyJ cyZ _ a0 a1 b0_image b0_before b0_taken a2 b0_five a3 b0_far b0_lead b0_walk b0_ends b0_manX b0_manY b0_dogX b0_dogY b0_row b0_round b0_farOne b0_leads b0_drags b0_from b0_near g0_hasImage g0_remembered g0_taped g0_point g0_end g0_begin g0_deep g0_faultAt g0_steps g0_men g0_dogs g0_thrown s1 1 _ hw) (cwV 2 hts gX11_judge_X11_throwsIf rfl rfl rfl (by decide +kernel) ⟨Nat.le_of_ble_eq_true rfl, Nat.le_of_ble_eq_true rfl⟩) ⟨wPre_blind, va_recv hK hPc (ci := 11) (q0 := 0) rfl rfl, fun U hU hW => wPre_of hPc hK hDc hN hU hW⟩ rfl rfl hl.1 rfl (lv_room (Nat.le_of_ble_eq_true rfl)) dX11_judge_27 ⟨(Nat.zero_le _), (Nat.zero_le _)⟩) hS (fun q _ h => hFc q h) hFc (fun r2 u1 t H1 locs ht hvm hw hB hz1 hk1 hS => ?_)
  obtain ⟨hP1, hK1, hD1⟩ := hB
  rw [ht] at hP1
  obtain ⟨hP, hD⟩ := va_join (wr := pickW (ceX11_judge cyI cyB cyJ cyZ a0 a1 a2 a3 b0_image b0_before b0_taken b0_five b0_far b0_lead b0_walk b0_ends b0_manX b0_manY b0_dogX b0_dogY b0_row b0_round b0_farOne b0_leads b0_drags b0_from b0_near g0_hasImage g0_remembered g0_begin g0_deep g0_faultAt g0_steps g0_men g0_dogs f1 f2 g0_thrown g0_taped g0_point g0_end f3) [1, 2, 3]) (w1 := (ceX11_throwsIf cyI cyB cyJ cyZ a0 a1 b0_image b0_before b0_taken a2 b0_five a3 b0_far b0_lead b0_walk b0_ends b0_manX b0_manY b0_dogX b0_dogY b0_row b0_round b0_farOne b0_leads b0_drags b0_from b0_near g0_hasImage g0_remembered g0_taped g0_point g0_end g0_begin g0_deep g0_faultAt g0_steps g0_men g0_dogs u1)) hP hD [0] [1, 2, 3] rfl rfl (by decide) (by decide) hk1 hFc hP1 hD1
  have hP := hP.sub (ws' := (ceX11_judge cyI cyB cyJ cyZ a0 a1 a2 a3 b0_image b0_before b0_taken b0_five b0_far b0_lead b0_walk b0_ends b0_manX b0_manY b0_dogX b0_dogY b0_row b0_round b0_farOne b0_leads b0_drags b0_from b0_near g0_hasImage g0_remembered g0_begin g0_deep g0_faultAt g0_steps g0_men g0_dogs f1 f2 u1 g0_taped g0_point g0_end f3)) [3, 0, 1, 2] rfl
  have hD := hD.sub (ws' := (ceX11_judge cyI cyB cyJ cyZ a0 a1 a2 a3 b0_image b0_before b0_taken b0_five b0_far b0_lead b0_walk b0_ends b0_manX b0_manY b0_dogX b0_dogY b0_row b0_round b0_farOne b0_leads b0_drags b0_from b0_near g0_hasImage g0_remembered g0_begin g0_deep g0_faultAt g0_steps g0_men g0_dogs f1 f2 u1 g0_taped g0_point g0_end f3)) [3, 0, 1, 2] (by decide) rfl
  generalize H1 = H at hP hS ⊢
  refine lv_if_eq (tgt := 35) hx hb dX11_judge_30 (by decide) (fun hc => ?_) (fun hc => ?_)
  · have hw := hw.1 hc
    refine lv_iload_n hx hb dX11_judge_35 rfl (lv_at hl 3 rfl) ?_
    refine lv_if_lt (tgt := 43) hx hb dX11_judge_36 (by decide) (fun hc => ?_) (fun hc => ?_)
    · have hw := hw.1 hc
      refine lv_iconst (v := 0) hx hb dX11_judge_43 (by decide) ?_
      exact bX11_judge_44 C0 hK hN hA hQ u1 g0_taped g0_point g0_end f3 x1 x2 x3 0 hw _ _ hP hD hS ls (lv_sub hl [0, 1, 2, 3] rfl)
    · have hw := hw.2 hc
      refine lv_iconst (v := 1) hx hb dX11_judge_39 (by decide) ?_
      refine lv_goto (tgt := 44) hx hb dX11_judge_40 (by decide) ?_
      exact bX11_judge_44 C0 hK hN hA hQ u1 g0_taped g0_point g0_end f3 x1 x2 x3 1 hw _ _ hP hD hS ls (lv_sub hl [0, 1, 2, 3] rfl)
  · have hw := hw.2 hc
    refine lv_iconst (v := 0) hx hb dX11_judge_33 (by decide) ?_
    rw [hQ]
    exact W.iret (v := 0) hx hb hr (fun t ht hW => ⟨⟨0, (u1, g0_taped, g0_point, g0_end, f3), rfl, hw, by rw [ht]; exact hP, va_K.moved hW.alike hK, hD⟩, hS.F ht⟩) hS.2.2 dX11_judge_34
set_option maxRecDepth 100000 in
set_option maxHeartbeats 4000000 in
theorem bX11_judge_21 {p : Program} {l : Launch} {e : Env} {s : State} {m : MethodId} {args : Array Value} {below : List Frame} {meth : Method} {c : Code} {dC : Nat → ClassId} {dI : Nat → Nat → Nat} {cyI cyB cyJ cyZ : ClassId} {A : Nat → Prop} {a0 a1 a2 a3 b0_image b0_before b0_taken b0_five b0_far b0_lead b0_walk b0_ends b0_manX b0_manY b0_dogX b0_dogY b0_row b0_round b0_farOne b0_leads b0_drags b0_from b0_near : Nat} {g0_hasImage : Int32} {g0_remembered : Int32} {g0_begin : Int32} {g0_deep : Int32} {g0_faultAt : Int32} {g0_steps : Int32} {g0_men : Int32} {g0_dogs : Int32} (C0 : cxM p s m meth c args wsX11_judge RX11 cX11_judge 8 (some .int)) (hK : va_K (dC, dI) vwCl (tyA cyI cyB cyJ cyZ) s) (hN : nwA s) (hA : ∀ q : Nat, s.heap.size ≤ q → A q) {post : Int32 → (Int32 × Int32 × Int32 × Int32 × (Nat → Int32)) → Prop} {f1 : Nat → Int32} {f2 : Nat → Int32} {Q : State → Prop} (hQ : Q = MQ below (va_Qi post (fun u : Int32 × Int32 × Int32 × Int32 × (Nat → Int32) => wAt dC dI cyI cyB cyJ cyZ A (ceX11_judge cyI cyB cyJ cyZ a0 a1 a2 a3 b0_image b0_before b0_taken b0_five b0_far b0_lead b0_walk b0_ends b0_manX b0_manY b0_dogX b0_dogY b0_row b0_round b0_farOne b0_leads b0_drags b0_from b0_near g0_hasImage g0_remembered g0_begin g0_deep g0_faultAt g0_steps g0_men g0_dogs f1 f2 u.1 u.2.1 u.2.2.1 u.2.2.2.1 u.2.2.2.2)) A) args s 0 0 A) : ∀ (g0_thrown : Int32) (g0_taped : Int32) (g0_point : Int32) (g0_end : Int32) (f3 : Nat → Int32) (x1 : Int32) (x2 : Int32) (x3 : Int32), wpX11_judge_21 post f1 f2 g0_thrown g0_taped g0_point g0_end f3 x1 x2 x3 → AtW p l e rmX11_judge s m args below meth c dC dI A Q 8 0 0 (ceX11_judge cyI cyB cyJ cyZ a0 a1 a2 a3 b0_image b0_before b0_taken b0_five b0_far b0_lead b0_walk b0_ends b0_manX b0_manY b0_dogX b0_dogY b0_row b0_round b0_farOne b0_leads b0_drags b0_from b0_near g0_hasImage g0_remembered g0_begin g0_deep g0_faultAt g0_steps g0_men g0_dogs f1 f2 g0_thrown g0_taped g0_point g0_end f3) [(0, .ref a0), (1, .int x1), (2, .int x2), (3, .int x3)] 21 [.ref a0] := by
  intro g0_thrown g0_taped g0_point g0_end f3 x1 x2 x3 hw H locs hP hD hS ls hl
  have C1 := C0
  obtain ⟨hx, hb, hr, hml, hown, hts, hlocks⟩ := C1
  refine lv_iconst (v := 1) hx hb dX11_judge_21 (by decide) ?_
  refine lv_goto (tgt := 26) hx hb dX11_judge_22 (by decide) ?_
  exact bX11_judge_26 C0 hK hN hA hQ g0_thrown g0_taped g0_point g0_end f3 x1 x2 x3 1 hw _ _ hP hD hS ls (lv_sub hl [0, 1, 2, 3] rfl)
set_option maxRecDepth 100000 in
set_option maxHeartbeats 4000000 in
theorem ctX11_judge (l : Launch) (dC : Nat → ClassId) (dI : Nat → Nat → Nat) (cyI cyB cyJ cyZ : ClassId) (sz : Nat) (a0 a1 a2 a3 b0_image b0_before b0_taken b0_five b0_far b0_lead b0_walk b0_ends b0_manX b0_manY b0_dogX b0_dogY b0_row b0_round b0_farOne b0_leads b0_drags b0_from b0_near : Nat) (g0_hasImage : Int32) (g0_remembered : Int32) (g0_begin : Int32) (g0_deep : Int32) (g0_faultAt : Int32) (g0_steps : Int32) (g0_men : Int32) (g0_dogs : Int32) (f1 : Nat → Int32) (f2 : Nat → Int32) (g0_thrown : Int32) (g0_taped : Int32) (g0_point : Int32) (g0_end : Int32) (f3 : Nat → Int32) (p0 : Int32) (p1 : Int32) (p2 : Int32) (post : Int32 → (Int32 × Int32 × Int32 × Int32 × (Nat → Int32)) → Prop) (hw : wpX11_judge post f1 f2 g0_thrown g0_taped g0_point g0_end f3 p0 p1 p2) : Met l yX11_judge wsX11_judge rmX11_judge (va_Pc [.ref a0, .int p0, .int p1, .int p2] (wPre dC dI cyI cyB cyJ cyZ sz (ceX11_judge cyI cyB cyJ cyZ a0 a1 a2 a3 b0_image b0_before b0_taken b0_five b0_far b0_lead b0_walk b0_ends b0_manX b0_manY b0_dogX b0_dogY b0_row b0_round b0_farOne b0_leads b0_drags b0_from b0_near g0_hasImage g0_remembered g0_begin g0_deep g0_faultAt g0_steps g0_men g0_dogs f1 f2 g0_thrown g0_taped g0_point g0_end f3))) (va_Qi post (fun u : Int32 × Int32 × Int32 × Int32 × (Nat → Int32) => wAt dC dI cyI cyB cyJ cyZ (va_A (ceX11_judge cyI cyB cyJ cyZ a0 a1 a2 a3 b0_image b0_before b0_taken b0_five b0_far b0_lead b0_walk b0_ends b0_manX b0_manY b0_dogX b0_dogY b0_row b0_round b0_farOne b0_leads b0_drags b0_from b0_near g0_hasImage g0_remembered g0_begin g0_deep g0_faultAt g0_steps g0_men g0_dogs f1 f2 g0_thrown g0_taped g0_point g0_end f3) sz) (ceX11_judge cyI cyB cyJ cyZ a0 a1 a2 a3 b0_image b0_before b0_taken b0_five b0_far b0_lead b0_walk b0_ends b0_manX b0_manY b0_dogX b0_dogY b0_row b0_round b0_farOne b0_leads b0_drags b0_from b0_near g0_hasImage g0_remembered g0_begin g0_deep g0_faultAt g0_steps g0_men g0_dogs f1 f2 u.1 u.2.1 u.2.2.1 u.2.2.2.1 u.2.2.2.2)) (va_A (ceX11_judge cyI cyB cyJ cyZ a0 a1 a2 a3 b0_image b0_before b0_taken b0_five b0_far b0_lead b0_walk b0_ends b0_manX b0_manY b0_dogX b0_dogY b0_row b0_round b0_farOne b0_leads b0_drags b0_from b0_near g0_hasImage g0_remembered g0_begin g0_deep g0_faultAt g0_steps g0_men g0_dogs f1 f2 g0_thrown g0_taped g0_point g0_end f3) sz)) 0 0 (va_A (ceX11_judge cyI cyB cyJ cyZ a0 a1 a2 a3 b0_image b0_before b0_taken b0_five b0_far b0_lead b0_walk b0_ends b0_manX b0_manY b0_dogX b0_dogY b0_row b0_round b0_farOne b0_leads b0_drags b0_from b0_near g0_hasImage g0_remembered g0_begin g0_deep g0_faultAt g0_steps g0_men g0_dogs f1 f2 g0_thrown g0_taped g0_point g0_end f3) sz) := by
  refine Met.ofW (cc := cX11_judge) (maxL := 8) (ret := (some .int)) (by decide) rfl ?_
  intro p e s m args below meth c s₁ B hml hv
  obtain ⟨rfl, hsz, hP, hK, hD0, hN⟩ := hv
  have hx := B.exec
  have hb := B.bytes
  have hr := B.returns
  have hts := atoms_spec (ws := wsX11_judge) B.pre
  have hown : s.vm.findClass RX11 = some m.cls := findClass_of_methodNamed B.named
  have hlocks := B.notSynchronized
  subst hsz
  have hD := hD0.self (sz := s.heap.size)
  generalize hAe : va_A (ceX11_judge cyI cyB cyJ cyZ a0 a1 a2 a3 b0_image b0_before b0_taken b0_five b0_far b0_lead b0_walk b0_ends b0_manX b0_manY b0_dogX b0_dogY b0_row b0_round b0_farOne b0_leads b0_drags b0_from b0_near g0_hasImage g0_remembered g0_begin g0_deep g0_faultAt g0_steps g0_men g0_dogs f1 f2 g0_thrown g0_taped g0_point g0_end f3) s.heap.size = A at hD ⊢
  have hA : ∀ q : Nat, s.heap.size ≤ q → A q := fun q h => by rw [← hAe]; exact Or.inr h
  have hS : va_S A s.heap s.heap [] := va_S.rf
  have C0 : cxM p s m meth c _ wsX11_judge RX11 cX11_judge 8 (some .int) := ⟨hx, hb, hr, hml, hown, hts, hlocks⟩
  have hl := lv_entry ([.ref a0, .int p0, .int p1, .int p2]) (n := 8) (Nat.le_of_ble_eq_true rfl)
  rw [lg_entry_eq]
  generalize (lg_sl ([.ref a0, .int p0, .int p1, .int p2]) ++ List.replicate (8 - (lg_sl ([.ref a0, .int p0, .int p1, .int p2])).length) Slot.unset).toArray = ls at hl ⊢
  have hl : lv_has ls 8 [(0, .ref a0), (1, .int p0), (2, .int p1), (3, .int p2)] := hl
  show W p l e rmX11_judge s m _ below meth c _ _ _ _ _ _
  refine wq (fun Q hQ => ?_)
  refine lv_aload_n hx hb dX11_judge_0 rfl (lv_at hl 0 rfl) ?_
  have hPc := hP.sub (ws' := (ceX11_uses cyI cyB cyJ cyZ a0 a1 b0_image b0_before b0_taken a2 b0_five a3 b0_far b0_lead b0_walk b0_ends b0_manX b0_manY b0_dogX b0_dogY b0_row b0_round b0_farOne b0_leads b0_drags b0_from b0_near g0_hasImage g0_remembered g0_begin g0_deep g0_faultAt g0_steps g0_men g0_dogs g0_thrown g0_taped g0_point g0_end)) [0] rfl
  have hDc := hD.sub (ws' := (ceX11_uses cyI cyB cyJ cyZ a0 a1 b0_image b0_before b0_taken a2 b0_five a3 b0_far b0_lead b0_walk b0_ends b0_manX b0_manY b0_dogX b0_dogY b0_row b0_round b0_farOne b0_leads b0_drags b0_from b0_near g0_hasImage g0_remembered g0_begin g0_deep g0_faultAt g0_steps g0_men g0_dogs g0_thrown g0_taped g0_point g0_end)) [0] (by decide) rfl
  have hFc := va_free (wc := (ceX11_uses cyI cyB cyJ cyZ a0 a1 b0_image b0_before b0_taken a2 b0_five a3 b0_far b0_lead b0_walk b0_ends b0_manX b0_manY b0_dogX b0_dogY b0_row b0_round b0_farOne b0_leads b0_drags b0_from b0_near g0_hasImage g0_remembered g0_begin g0_deep g0_faultAt g0_steps g0_men g0_dogs g0_thrown g0_taped g0_point g0_end)) hD hS hA [0] rfl
  refine va_callv (va_runV (As := []) (rest := []) ⟨hx, hb, hml, hown, hts⟩ (ctX11_uses l dC dI cyI cyB cyJ cyZ _ a0 a1 b0_image b0_before b0_taken a2 b0_five a3 b0_far b0_lead b0_walk b0_ends b0_manX b0_manY b0_dogX b0_dogY b0_row b0_round b0_farOne b0_leads b0_drags b0_from b0_near g0_hasImage g0_remembered g0_begin g0_deep g0_faultAt g0_steps g0_men g0_dogs g0_thrown g0_taped g0_point g0_end _ hw) (cwV 0 hts gX11_judge_X11_uses rfl rfl rfl (by decide +kernel) ⟨Nat.le_of_ble_eq_true rfl, Nat.le_of_ble_eq_true rfl⟩) ⟨wPre_blind, va_recv hK hPc (ci := 11) (q0 := 0) rfl rfl, fun U hU hW => wPre_of hPc hK hDc hN hU hW⟩ rfl rfl hl.1 rfl (lv_room (Nat.le_of_ble_eq_true rfl)) dX11_judge_1 ⟨(Nat.zero_le _), (Nat.zero_le _)⟩) hS (fun q _ h => hFc q h) hFc (fun u1 t H1 locs ht hvm hw hB hz1 hk1 hS => ?_)
  obtain ⟨hP1, hK1, hD1⟩ := hB
  rw [ht] at hP1
  obtain ⟨hP, hD⟩ := va_join (wr := pickW (ceX11_judge cyI cyB cyJ cyZ a0 a1 a2 a3 b0_image b0_before b0_taken b0_five b0_far b0_lead b0_walk b0_ends b0_manX b0_manY b0_dogX b0_dogY b0_row b0_round b0_farOne b0_leads b0_drags b0_from b0_near g0_hasImage g0_remembered g0_begin g0_deep g0_faultAt g0_steps g0_men g0_dogs f1 f2 g0_thrown g0_taped g0_point g0_end f3) [1, 2, 3]) (w1 := (ceX11_uses cyI cyB cyJ cyZ a0 a1 b0_image b0_before b0_taken a2 b0_five a3 b0_far b0_lead b0_walk b0_ends b0_manX b0_manY b0_dogX b0_dogY b0_row b0_round b0_farOne b0_leads b0_drags b0_from b0_near g0_hasImage g0_remembered g0_begin g0_deep g0_faultAt g0_steps g0_men g0_dogs u1.1 u1.2.1 u1.2.2.1 u1.2.2.2)) hP hD [0] [1, 2, 3] rfl rfl (by decide) (by decide) hk1 hFc hP1 hD1
  have hP := hP.sub (ws' := (ceX11_judge cyI cyB cyJ cyZ a0 a1 a2 a3 b0_image b0_before b0_taken b0_five b0_far b0_lead b0_walk b0_ends b0_manX b0_manY b0_dogX b0_dogY b0_row b0_round b0_farOne b0_leads b0_drags b0_from b0_near g0_hasImage g0_remembered g0_begin g0_deep g0_faultAt g0_steps g0_men g0_dogs f1 f2 u1.1 u1.2.1 u1.2.2.1 u1.2.2.2 f3)) [3, 0, 1, 2] rfl
  have hD := hD.sub (ws' := (ceX11_judge cyI cyB cyJ cyZ a0 a1 a2 a3 b0_image b0_before b0_taken b0_five b0_far b0_lead b0_walk b0_ends b0_manX b0_manY b0_dogX b0_dogY b0_row b0_round b0_farOne b0_leads b0_drags b0_from b0_near g0_hasImage g0_remembered g0_begin g0_deep g0_faultAt g0_steps g0_men g0_dogs f1 f2 u1.1 u1.2.1 u1.2.2.1 u1.2.2.2 f3)) [3, 0, 1, 2] (by decide) rfl
  generalize H1 = H at hP hS ⊢
  refine lv_aload_n hx hb dX11_judge_4 rfl (lv_at hl 0 rfl) ?_
  refine lv_aload_n hx hb dX11_judge_5 rfl (lv_at hl 0 rfl) ?_
  refine lv_iload_n hx hb dX11_judge_6 rfl (lv_at hl 1 rfl) ?_
  have hPc := hP.sub (ws' := (ceX11_noWay cyI cyB cyJ cyZ a0 a1 b0_image b0_before b0_taken a2 b0_five a3 b0_far b0_lead b0_walk b0_ends b0_manX b0_manY b0_dogX b0_dogY b0_row b0_round b0_farOne b0_leads b0_drags b0_from b0_near u1.1 g0_hasImage g0_remembered u1.2.1 u1.2.2.1 u1.2.2.2 g0_begin g0_deep g0_faultAt g0_steps g0_men g0_dogs f1)) [0, 1] rfl
  have hDc := hD.sub (ws' := (ceX11_noWay cyI cyB cyJ cyZ a0 a1 b0_image b0_before b0_taken a2 b0_five a3 b0_far b0_lead b0_walk b0_ends b0_manX b0_manY b0_dogX b0_dogY b0_row b0_round b0_farOne b0_leads b0_drags b0_from b0_near u1.1 g0_hasImage g0_remembered u1.2.1 u1.2.2.1 u1.2.2.2 g0_begin g0_deep g0_faultAt g0_steps g0_men g0_dogs f1)) [0, 1] (by decide) rfl
  have hFc := va_free (wc := (ceX11_noWay cyI cyB cyJ cyZ a0 a1 b0_image b0_before b0_taken a2 b0_five a3 b0_far b0_lead b0_walk b0_ends b0_manX b0_manY b0_dogX b0_dogY b0_row b0_round b0_farOne b0_leads b0_drags b0_from b0_near u1.1 g0_hasImage g0_remembered u1.2.1 u1.2.2.1 u1.2.2.2 g0_begin g0_deep g0_faultAt g0_steps g0_men g0_dogs f1)) hD hS hA [0, 1] rfl
  refine va_calli (va_runV (As := [.int p0]) (rest := [.ref a0]) ⟨hx, hb, hml, hown, hts⟩ (ctX11_noWay l dC dI cyI cyB cyJ cyZ _ a0 a1 b0_image b0_before b0_taken a2 b0_five a3 b0_far b0_lead b0_walk b0_ends b0_manX b0_manY b0_dogX b0_dogY b0_row b0_round b0_farOne b0_leads b0_drags b0_from b0_near u1.1 g0_hasImage g0_remembered u1.2.1 u1.2.2.1 u1.2.2.2 g0_begin g0_deep g0_faultAt g0_steps g0_men g0_dogs f1 p0 _ hw) (cwV 1 hts gX11_judge_X11_noWay rfl rfl rfl (by decide +kernel) ⟨Nat.le_of_ble_eq_true rfl, Nat.le_of_ble_eq_true rfl⟩) ⟨wPre_blind, va_recv hK hPc (ci := 11) (q0 := 0) rfl rfl, fun U hU hW => wPre_of hPc hK hDc hN hU hW⟩ rfl rfl hl.1 rfl (lv_room (Nat.le_of_ble_eq_true rfl)) dX11_judge_7 ⟨(Nat.zero_le _), (Nat.zero_le _)⟩) hS (fun q _ h => hFc q h) hFc (fun r3 u2 t H1 locs ht hvm hw hB hz1 hk1 hS => ?_)
  obtain ⟨hP1, hK1, hD1⟩ := hB
  rw [ht] at hP1
  obtain ⟨hP, hD⟩ := va_join (wr := pickW (ceX11_judge cyI cyB cyJ cyZ a0 a1 a2 a3 b0_image b0_before b0_taken b0_five b0_far b0_lead b0_walk b0_ends b0_manX b0_manY b0_dogX b0_dogY b0_row b0_round b0_farOne b0_leads b0_drags b0_from b0_near g0_hasImage g0_remembered g0_begin g0_deep g0_faultAt g0_steps g0_men g0_dogs f1 f2 u1.1 u1.2.1 u1.2.2.1 u1.2.2.2 f3) [2, 3]) (w1 := (ceX11_noWay cyI cyB cyJ cyZ a0 a1 b0_image b0_before b0_taken a2 b0_five a3 b0_far b0_lead b0_walk b0_ends b0_manX b0_manY b0_dogX b0_dogY b0_row b0_round b0_farOne b0_leads b0_drags b0_from b0_near u1.1 g0_hasImage g0_remembered u1.2.1 u1.2.2.1 u1.2.2.2 g0_begin g0_deep g0_faultAt g0_steps g0_men g0_dogs f1)) hP hD [0, 1] [2, 3] rfl rfl (by decide) (by decide) hk1 hFc hP1 hD1
  have hP := hP.sub (ws' := (ceX11_judge cyI cyB cyJ cyZ a0 a1 a2 a3 b0_image b0_before b0_taken b0_five b0_far b0_lead b0_walk b0_ends b0_manX b0_manY b0_dogX b0_dogY b0_row b0_round b0_farOne b0_leads b0_drags b0_from b0_near g0_hasImage g0_remembered g0_begin g0_deep g0_faultAt g0_steps g0_men g0_dogs f1 f2 u1.1 u1.2.1 u1.2.2.1 u1.2.2.2 f3)) [2, 3, 0, 1] rfl
  have hD := hD.sub (ws' := (ceX11_judge cyI cyB cyJ cyZ a0 a1 a2 a3 b0_image b0_before b0_taken b0_five b0_far b0_lead b0_walk b0_ends b0_manX b0_manY b0_dogX b0_dogY b0_row b0_round b0_farOne b0_leads b0_drags b0_from b0_near g0_hasImage g0_remembered g0_begin g0_deep g0_faultAt g0_steps g0_men g0_dogs f1 f2 u1.1 u1.2.1 u1.2.2.1 u1.2.2.2 f3)) [2, 3, 0, 1] (by decide) rfl
  generalize H1 = H at hP hS ⊢
  refine lv_if_ne (tgt := 21) hx hb dX11_judge_10 (by decide) (fun hc => ?_) (fun hc => ?_)
  · have hw := hw.1 hc
    exact bX11_judge_21 C0 hK hN hA hQ u1.1 u1.2.1 u1.2.2.1 u1.2.2.2 f3 p0 p1 p2 hw _ _ hP hD hS ls (lv_sub hl [0, 1, 2, 3] rfl)
  · have hw := hw.2 hc
    refine lv_aload_n hx hb dX11_judge_13 rfl (lv_at hl 0 rfl) ?_
    refine lv_iload_n hx hb dX11_judge_14 rfl (lv_at hl 2 rfl) ?_
    have hPc := hP.sub (ws' := (ceX11_noWay cyI cyB cyJ cyZ a0 a1 b0_image b0_before b0_taken a2 b0_five a3 b0_far b0_lead b0_walk b0_ends b0_manX b0_manY b0_dogX b0_dogY b0_row b0_round b0_farOne b0_leads b0_drags b0_from b0_near u1.1 g0_hasImage g0_remembered u1.2.1 u1.2.2.1 u1.2.2.2 g0_begin g0_deep g0_faultAt g0_steps g0_men g0_dogs f1)) [0, 1] rfl
    have hDc := hD.sub (ws' := (ceX11_noWay cyI cyB cyJ cyZ a0 a1 b0_image b0_before b0_taken a2 b0_five a3 b0_far b0_lead b0_walk b0_ends b0_manX b0_manY b0_dogX b0_dogY b0_row b0_round b0_farOne b0_leads b0_drags b0_from b0_near u1.1 g0_hasImage g0_remembered u1.2.1 u1.2.2.1 u1.2.2.2 g0_begin g0_deep g0_faultAt g0_steps g0_men g0_dogs f1)) [0, 1] (by decide) rfl
    have hFc := va_free (wc := (ceX11_noWay cyI cyB cyJ cyZ a0 a1 b0_image b0_before b0_taken a2 b0_five a3 b0_far b0_lead b0_walk b0_ends b0_manX b0_manY b0_dogX b0_dogY b0_row b0_round b0_farOne b0_leads b0_drags b0_from b0_near u1.1 g0_hasImage g0_remembered u1.2.1 u1.2.2.1 u1.2.2.2 g0_begin g0_deep g0_faultAt g0_steps g0_men g0_dogs f1)) hD hS hA [0, 1] rfl
    refine va_calli (va_runV (As := [.int p1]) (rest := [.ref a0]) ⟨hx, hb, hml, hown, hts⟩ (ctX11_noWay l dC dI cyI cyB cyJ cyZ _ a0 a1 b0_image b0_before b0_taken a2 b0_five a3 b0_far b0_lead b0_walk b0_ends b0_manX b0_manY b0_dogX b0_dogY b0_row b0_round b0_farOne b0_leads b0_drags b0_from b0_near u1.1 g0_hasImage g0_remembered u1.2.1 u1.2.2.1 u1.2.2.2 g0_begin g0_deep g0_faultAt g0_steps g0_men g0_dogs f1 p1 _ hw) (cwV 1 hts gX11_judge_X11_noWay rfl rfl rfl (by decide +kernel) ⟨Nat.le_of_ble_eq_true rfl, Nat.le_of_ble_eq_true rfl⟩) ⟨wPre_blind, va_recv hK hPc (ci := 11) (q0 := 0) rfl rfl, fun U hU hW => wPre_of hPc hK hDc hN hU hW⟩ rfl rfl hl.1 rfl (lv_room (Nat.le_of_ble_eq_true rfl)) dX11_judge_15 ⟨(Nat.zero_le _), (Nat.zero_le _)⟩) hS (fun q _ h => hFc q h) hFc (fun r5 u4 t H1 locs ht hvm hw hB hz1 hk1 hS => ?_)
    obtain ⟨hP1, hK1, hD1⟩ := hB
    rw [ht] at hP1
    obtain ⟨hP, hD⟩ := va_join (wr := pickW (ceX11_judge cyI cyB cyJ cyZ a0 a1 a2 a3 b0_image b0_before b0_taken b0_five b0_far b0_lead b0_walk b0_ends b0_manX b0_manY b0_dogX b0_dogY b0_row b0_round b0_farOne b0_leads b0_drags b0_from b0_near g0_hasImage g0_remembered g0_begin g0_deep g0_faultAt g0_steps g0_men g0_dogs f1 f2 u1.1 u1.2.1 u1.2.2.1 u1.2.2.2 f3) [2, 3]) (w1 := (ceX11_noWay cyI cyB cyJ cyZ a0 a1 b0_image b0_before b0_taken a2 b0_five a3 b0_far b0_lead b0_walk b0_ends b0_manX b0_manY b0_dogX b0_dogY b0_row b0_round b0_farOne b0_leads b0_drags b0_from b0_near u1.1 g0_hasImage g0_remembered u1.2.1 u1.2.2.1 u1.2.2.2 g0_begin g0_deep g0_faultAt g0_steps g0_men g0_dogs f1)) hP hD [0, 1] [2, 3] rfl rfl (by decide) (by decide) hk1 hFc hP1 hD1
    have hP := hP.sub (ws' := (ceX11_judge cyI cyB cyJ cyZ a0 a1 a2 a3 b0_image b0_before b0_taken b0_five b0_far b0_lead b0_walk b0_ends b0_manX b0_manY b0_dogX b0_dogY b0_row b0_round b0_farOne b0_leads b0_drags b0_from b0_near g0_hasImage g0_remembered g0_begin g0_deep g0_faultAt g0_steps g0_men g0_dogs f1 f2 u1.1 u1.2.1 u1.2.2.1 u1.2.2.2 f3)) [2, 3, 0, 1] rfl
    have hD := hD.sub (ws' := (ceX11_judge cyI cyB cyJ cyZ a0 a1 a2 a3 b0_image b0_before b0_taken b0_five b0_far b0_lead b0_walk b0_ends b0_manX b0_manY b0_dogX b0_dogY b0_row b0_round b0_farOne b0_leads b0_drags b0_from b0_near g0_hasImage g0_remembered g0_begin g0_deep g0_faultAt g0_steps g0_men g0_dogs f1 f2 u1.1 u1.2.1 u1.2.2.1 u1.2.2.2 f3)) [2, 3, 0, 1] (by decide) rfl
    generalize H1 = H at hP hS ⊢
    refine lv_if_eq (tgt := 25) hx hb dX11_judge_18 (by decide) (fun hc => ?_) (fun hc => ?_)
    · have hw := hw.1 hc
      refine lv_iconst (v := 0) hx hb dX11_judge_25 (by decide) ?_
      exact bX11_judge_26 C0 hK hN hA hQ u1.1 u1.2.1 u1.2.2.1 u1.2.2.2 f3 p0 p1 p2 0 hw _ _ hP hD hS ls (lv_sub hl [0, 1, 2, 3] rfl)
    · have hw := hw.2 hc
      exact bX11_judge_21 C0 hK hN hA hQ u1.1 u1.2.1 u1.2.2.1 u1.2.2.2 f3 p0 p1 p2 hw _ _ hP hD hS ls (lv_sub hl [0, 1, 2, 3] rfl)
/-! LeadParkModel.points (II[I[I)I -/
abbrev ceX11_points (cyI cyB cyJ cyZ : ClassId) (a0 a1 a2 a3 b0_image b0_before b0_taken b0_tape b0_five b0_value b0_far b0_lead b0_walk b0_ends b0_manX b0_manY b0_dogX b0_dogY b0_row b0_round b0_farOne b0_leads b0_drags b0_from b0_near n2 n3 : Nat) (g0_thrown : Int32) (g0_hasImage : Int32) (g0_remembered : Int32) (g0_taped : Int32) (g0_point : Int32) (g0_end : Int32) (g0_begin : Int32) (g0_deep : Int32) (g0_faultAt : Int32) (g0_steps : Int32) (g0_men : Int32) (g0_dogs : Int32) (f1 : Nat → Int32) (f2 : Nat → Int32) (f3 : Nat → Int32) : va_W := [(a0, .inr (11, [.int g0_thrown, .ref a1, .ref b0_image, .ref b0_before, .int g0_hasImage, .ref b0_taken, .int g0_remembered, .ref b0_tape, .int g0_taped, .int g0_point, .int g0_end, .int g0_begin, .int g0_deep, .int g0_faultAt, .ref b0_five, .int g0_steps, .ref b0_value, .ref b0_far, .int g0_men, .int g0_dogs, .ref b0_lead, .ref b0_walk, .ref b0_ends, .ref b0_manX, .ref b0_manY, .ref b0_dogX, .ref b0_dogY, .ref b0_row, .ref b0_round, .ref b0_farOne, .ref b0_leads, .ref b0_drags, .ref b0_from, .ref b0_near])), (a1, .inl (cyI, 2508, .inl f1)), (a2, .inl (cyI, n2, .inl f2)), (a3, .inl (cyI, n3, .inl f3))]

abbrev rmX11_points : Room := { frames := 1, cells := 0, slots := 0, locals := 40 }
def wpX11_points_16 (n2 : Nat) (n3 : Nat) (post : Int32 → ((Nat → Int32) × (Nat → Int32)) → Prop) (f1 : Nat → Int32) : Nat → (Nat → Int32) → (Nat → Int32) → Int32 → Int32 → Int32 → Int32 → Prop
  | 0, _, _, _, _, _, _ => False
  | n_16 + 1, f2, f3, x1, x2, x5, x6 =>
    (x5 ≤ x6 →
     post x5 (f2, f3)) ∧
    (¬ x5 ≤ x6 →
     ¬ x2 = 0 ∧
     ∀ v1 : Int32, v1 = x6 / x2 →
     ¬ x2 = 0 ∧
     ∀ v2 : Int32, v2 = x6 - x6 / x2 * x2 →
     wpX11_cornersOf (fun (r4 : Int32) (u3 : Unit) =>
      ∀ v5 : Int32, v5 = iMin (r4 - 1) (v1 + 1) →
      wpX11_xOf (fun (r7 : Int32) (u6 : Unit) =>
       wpX11_xOf (fun (r9 : Int32) (u8 : Unit) =>
        wpX11_xOf (fun (r11 : Int32) (u10 : Unit) =>
         vp_in x6 n2 ∧
         wpX11_yOf (fun (r13 : Int32) (u12 : Unit) =>
          wpX11_yOf (fun (r15 : Int32) (u14 : Unit) =>
           wpX11_yOf (fun (r17 : Int32) (u16 : Unit) =>
            vp_in x6 n3 ∧
            ∀ v18 : Int32, v18 = x6 + 1 →
            wpX11_points_16 n2 n3 post f1 n_16 (upd f2 x6.toNatClampNeg ((x2 * r7) + (v2 * (r9 - r11)))) (upd f3 x6.toNatClampNeg ((x2 * r13) + (v2 * (r15 - r17)))) x1 x2 x5 v18) f1 x1 v1) f1 x1 v5) f1 x1 v1) f1 x1 v1) f1 x1 v5) f1 x1 v1) f1 x1)
def wpX11_points (n2 : Nat) (n3 : Nat) (post : Int32 → ((Nat → Int32) × (Nat → Int32)) → Prop) (f1 : Nat → Int32) (f2 : Nat → Int32) (f3 : Nat → Int32) (p0 : Int32) (p1 : Int32) : Prop :=
  wpX11_cornersOf (fun (r2 : Int32) (u1 : Unit) =>
   ∀ v3 : Int32, v3 = (p1 * (r2 - 1)) + 1 →
   ∃ n_16 : Nat, wpX11_points_16 n2 n3 post f1 n_16 f2 f3 p0 p1 v3 0) f1 p0
set_option maxRecDepth 100000 in
set_option maxHeartbeats 4000000 in
theorem bX11_points_16 {p : Program} {l : Launch} {e : Env} {s : State} {m : MethodId} {args : Array Value} {below : List Frame} {meth : Method} {c : Code} {dC : Nat → ClassId} {dI : Nat → Nat → Nat} {cyI cyB cyJ cyZ : ClassId} {A : Nat → Prop} {a0 a1 a2 a3 b0_image b0_before b0_taken b0_tape b0_five b0_value b0_far b0_lead b0_walk b0_ends b0_manX b0_manY b0_dogX b0_dogY b0_row b0_round b0_farOne b0_leads b0_drags b0_from b0_near n2 n3 : Nat} {g0_thrown : Int32} {g0_hasImage : Int32} {g0_remembered : Int32} {g0_taped : Int32} {g0_point : Int32} {g0_end : Int32} {g0_begin : Int32} {g0_deep : Int32} {g0_faultAt : Int32} {g0_steps : Int32} {g0_men : Int32} {g0_dogs : Int32} (C0 : cxM p s m meth c args wsX11_points RX11 cX11_points 10 (some .int)) (hK : va_K (dC, dI) vwCl (tyA cyI cyB cyJ cyZ) s) (hN : nwA s) (hA : ∀ q : Nat, s.heap.size ≤ q → A q) {post : Int32 → ((Nat → Int32) × (Nat → Int32)) → Prop} {f1 : Nat → Int32} {Q : State → Prop} (hQ : Q = MQ below (va_Qi post (fun u : (Nat → Int32) × (Nat → Int32) => wAt dC dI cyI cyB cyJ cyZ A (ceX11_points cyI cyB cyJ cyZ a0 a1 a2 a3 b0_image b0_before b0_taken b0_tape b0_five b0_value b0_far b0_lead b0_walk b0_ends b0_manX b0_manY b0_dogX b0_dogY b0_row b0_round b0_farOne b0_leads b0_drags b0_from b0_near n2 n3 g0_thrown g0_hasImage g0_remembered g0_taped g0_point g0_end g0_begin g0_deep g0_faultAt g0_steps g0_men g0_dogs f1 u.1 u.2)) A) args s 0 0 A) : ∀ (n : Nat) (f2 : Nat → Int32) (f3 : Nat → Int32) (x1 : Int32) (x2 : Int32) (x5 : Int32) (x6 : Int32), wpX11_points_16 n2 n3 post f1 n f2 f3 x1 x2 x5 x6 → AtW p l e rmX11_points s m args below meth c dC dI A Q 10 0 0 (ceX11_points cyI cyB cyJ cyZ a0 a1 a2 a3 b0_image b0_before b0_taken b0_tape b0_five b0_value b0_far b0_lead b0_walk b0_ends b0_manX b0_manY b0_dogX b0_dogY b0_row b0_round b0_farOne b0_leads b0_drags b0_from b0_near n2 n3 g0_thrown g0_hasImage g0_remembered g0_taped g0_point g0_end g0_begin g0_deep g0_faultAt g0_steps g0_men g0_dogs f1 f2 f3) [(0, .ref a0), (1, .int x1), (2, .int x2), (3, .ref a2), (4, .ref a3), (5, .int x5), (6, .int x6)] 16 [] := by
  intro n
  induction n with
  | zero => intro f2 f3 x1 x2 x5 x6 hw; exact False.elim hw
  | succ n ih =>
    intro f2 f3 x1 x2 x5 x6 hw H locs hP hD hS ls hl
    have C1 := C0
    obtain ⟨hx, hb, hr, hml, hown, hts, hlocks⟩ := C1
    refine lv_iload hx hb dX11_points_16 (lv_at hl 6 rfl) ?_
    refine lv_iload hx hb dX11_points_18 (lv_at hl 5 rfl) ?_
    refine lv_icmp_ge (tgt := 122) hx hb dX11_points_20 (by decide) (fun hc => ?_) (fun hc => ?_)
    · have hw := hw.1 hc
      refine lv_iload hx hb dX11_points_122 (lv_at hl 5 rfl) ?_
      rw [hQ]
      exact W.iret (v := x5) hx hb hr (fun t ht hW => ⟨⟨x5, (f2, f3), rfl, hw, by rw [ht]; exact hP, va_K.moved hW.alike hK, hD⟩, hS.F ht⟩) hS.2.2 dX11_points_124
    · have hw := hw.2 hc
      refine lv_iload hx hb dX11_points_23 (lv_at hl 6 rfl) ?_
      refine lv_iload_n hx hb dX11_points_25 rfl (lv_at hl 2 rfl) ?_
      obtain ⟨h0, hw⟩ := hw
      refine lv_idiv hx hb dX11_points_26 h0 ?_
      refine lv_topi (fun v1 ev1 => ?_)
      have hw := hw v1 ev1
      refine lv_istore (lv' := [(7, .int v1), (0, .ref a0), (1, .int x1), (2, .int x2), (3, .ref a2), (4, .ref a3), (5, .int x5), (6, .int x6)]) hx hb dX11_points_27 hl (by decide) rfl (fun ls hl => ?_)
      refine lv_iload hx hb dX11_points_29 (lv_at hl 7 rfl) ?_
      refine lv_iload_n hx hb dX11_points_31 rfl (lv_at hl 3 rfl) ?_
      obtain ⟨h0, hw⟩ := hw
      refine lv_irem hx hb dX11_points_32 h0 ?_
      refine lv_topi (fun v2 ev2 => ?_)
      have hw := hw v2 ev2
      refine lv_istore (lv' := [(8, .int v2), (7, .int v1), (0, .ref a0), (1, .int x1), (2, .int x2), (3, .ref a2), (4, .ref a3), (5, .int x5), (6, .int x6)]) hx hb dX11_points_33 hl (by decide) rfl (fun ls hl => ?_)
      refine lv_aload_n hx hb dX11_points_35 rfl (lv_at hl 2 rfl) ?_
      refine lv_iload_n hx hb dX11_points_36 rfl (lv_at hl 3 rfl) ?_
      have hPc := hP.sub (ws' := (ceX11_cornersOf cyI cyB cyJ cyZ a0 a1 b0_image b0_before b0_taken b0_tape b0_five b0_value b0_far b0_lead b0_walk b0_ends b0_manX b0_manY b0_dogX b0_dogY b0_row b0_round b0_farOne b0_leads b0_drags b0_from b0_near g0_thrown g0_hasImage g0_remembered g0_taped g0_point g0_end g0_begin g0_deep g0_faultAt g0_steps g0_men g0_dogs f1)) [0, 1] rfl
      have hDc := hD.sub (ws' := (ceX11_cornersOf cyI cyB cyJ cyZ a0 a1 b0_image b0_before b0_taken b0_tape b0_five b0_value b0_far b0_lead b0_walk b0_ends b0_manX b0_manY b0_dogX b0_dogY b0_row b0_round b0_farOne b0_leads b0_drags b0_from b0_near g0_thrown g0_hasImage g0_remembered g0_taped g0_point g0_end g0_begin g0_deep g0_faultAt g0_steps g0_men g0_dogs f1)) [0, 1] (by decide) rfl
      have hFc := va_free (wc := (ceX11_cornersOf cyI cyB cyJ cyZ a0 a1 b0_image b0_before b0_taken b0_tape b0_five b0_value b0_far b0_lead b0_walk b0_ends b0_manX b0_manY b0_dogX b0_dogY b0_row b0_round b0_farOne b0_leads b0_drags b0_from b0_near g0_thrown g0_hasImage g0_remembered g0_taped g0_point g0_end g0_begin g0_deep g0_faultAt g0_steps g0_men g0_dogs f1)) hD hS hA [0, 1] rfl
      refine va_calli (va_runV (As := [.int x1]) (rest := []) ⟨hx, hb, hml, hown, hts⟩ (ctX11_cornersOf l dC dI cyI cyB cyJ cyZ _ a0 a1 b0_image b0_before b0_taken b0_tape b0_five b0_value b0_far b0_lead b0_walk b0_ends b0_manX b0_manY b0_dogX b0_dogY b0_row b0_round b0_farOne b0_leads b0_drags b0_from b0_near g0_thrown g0_hasImage g0_remembered g0_taped g0_point g0_end g0_begin g0_deep g0_faultAt g0_steps g0_men g0_dogs f1 x1 _ hw) (cwV 1 hts gX11_points_X11_cornersOf rfl rfl rfl (by decide +kernel) ⟨Nat.le_of_ble_eq_true rfl, Nat.le_of_ble_eq_true rfl⟩) ⟨wPre_blind, va_recv hK hPc (ci := 11) (q0 := 0) rfl rfl, fun U hU hW => wPre_of hPc hK hDc hN hU hW⟩ rfl rfl hl.1 rfl (lv_room (Nat.le_of_ble_eq_true rfl)) dX11_points_37 ⟨(Nat.zero_le _), (Nat.zero_le _)⟩) hS (fun q _ h => hFc q h) hFc (fun r4 u3 t H1 locs ht hvm hw hB hz1 hk1 hS => ?_)
      obtain ⟨hP1, hK1, hD1⟩ := hB
      rw [ht] at hP1
      obtain ⟨hP, hD⟩ := va_join (wr := pickW (ceX11_points cyI cyB cyJ cyZ a0 a1 a2 a3 b0_image b0_before b0_taken b0_tape b0_five b0_value b0_far b0_lead b0_walk b0_ends b0_manX b0_manY b0_dogX b0_dogY b0_row b0_round b0_farOne b0_leads b0_drags b0_from b0_near n2 n3 g0_thrown g0_hasImage g0_remembered g0_taped g0_point g0_end g0_begin g0_deep g0_faultAt g0_steps g0_men g0_dogs f1 f2 f3) [2, 3]) (w1 := (ceX11_cornersOf cyI cyB cyJ cyZ a0 a1 b0_image b0_before b0_taken b0_tape b0_five b0_value b0_far b0_lead b0_walk b0_ends b0_manX b0_manY b0_dogX b0_dogY b0_row b0_round b0_farOne b0_leads b0_drags b0_from b0_near g0_thrown g0_hasImage g0_remembered g0_taped g0_point g0_end g0_begin g0_deep g0_faultAt g0_steps g0_men g0_dogs f1)) hP hD [0, 1] [2, 3] rfl rfl (by decide) (by decide) hk1 hFc hP1 hD1
      have hP := hP.sub (ws' := (ceX11_points cyI cyB cyJ cyZ a0 a1 a2 a3 b0_image b0_before b0_taken b0_tape b0_five b0_value b0_far b0_lead b0_walk b0_ends b0_manX b0_manY b0_dogX b0_dogY b0_row b0_round b0_farOne b0_leads b0_drags b0_from b0_near n2 n3 g0_thrown g0_hasImage g0_remembered g0_taped g0_point g0_end g0_begin g0_deep g0_faultAt g0_steps g0_men g0_dogs f1 f2 f3)) [2, 3, 0, 1] rfl
      have hD := hD.sub (ws' := (ceX11_points cyI cyB cyJ cyZ a0 a1 a2 a3 b0_image b0_before b0_taken b0_tape b0_five b0_value b0_far b0_lead b0_walk b0_ends b0_manX b0_manY b0_dogX b0_dogY b0_row b0_round b0_farOne b0_leads b0_drags b0_from b0_near n2 n3 g0_thrown g0_hasImage g0_remembered g0_taped g0_point g0_end g0_begin g0_deep g0_faultAt g0_steps g0_men g0_dogs f1 f2 f3)) [2, 3, 0, 1] (by decide) rfl
      generalize H1 = H at hP hS ⊢
      refine lv_iconst (v := 1) hx hb dX11_points_40 (by decide) ?_
      refine lv_isub hx hb dX11_points_41 ?_
      refine lv_iload hx hb dX11_points_42 (lv_at hl 1 rfl) ?_
      refine lv_iconst (v := 1) hx hb dX11_points_44 (by decide) ?_
      refine lv_iadd hx hb dX11_points_45 ?_
      refine va_mmin hx hb (hml.trans hl.1.symm) hown (hts (.methodLink RX11 268 Lib.Math.min.name) (List.mem_of_getElem? (i := 1) rfl)) (hts (.static Lib.Math.min.name) (List.mem_of_getElem? (i := 2) rfl)) (hts (.initialized "java/lang/Math") (List.mem_of_getElem? (i := 3) rfl)) (hts (.code Lib.Math.min.name Lib.Math.min.code 2 (some .int)) (List.mem_of_getElem? (i := 4) rfl)) (Nat.le_of_ble_eq_true rfl) (Nat.le_of_ble_eq_true rfl) (by decide) (by decide) dX11_points_46 ?_
      refine lv_topi (fun v5 ev5 => ?_)
      have hw := hw v5 ev5
      refine lv_istore (lv' := [(9, .int v5), (8, .int v2), (7, .int v1), (0, .ref a0), (1, .int x1), (2, .int x2), (3, .ref a2), (4, .ref a3), (5, .int x5), (6, .int x6)]) hx hb dX11_points_49 hl (by decide) rfl (fun ls hl => ?_)
      refine lv_aload_n hx hb dX11_points_51 rfl (lv_at hl 6 rfl) ?_
      refine lv_iload hx hb dX11_points_52 (lv_at hl 9 rfl) ?_
      refine lv_iload_n hx hb dX11_points_54 rfl (lv_at hl 5 rfl) ?_
      refine lv_aload_n hx hb dX11_points_55 rfl (lv_at hl 3 rfl) ?_
      refine lv_iload_n hx hb dX11_points_56 rfl (lv_at hl 4 rfl) ?_
      refine lv_iload hx hb dX11_points_57 (lv_at hl 2 rfl) ?_
      have hPc := hP.sub (ws' := (ceX11_xOf cyI cyB cyJ cyZ a0 a1 b0_image b0_before b0_taken b0_tape b0_five b0_value b0_far b0_lead b0_walk b0_ends b0_manX b0_manY b0_dogX b0_dogY b0_row b0_round b0_farOne b0_leads b0_drags b0_from b0_near g0_thrown g0_hasImage g0_remembered g0_taped g0_point g0_end g0_begin g0_deep g0_faultAt g0_steps g0_men g0_dogs f1)) [0, 1] rfl
      have hDc := hD.sub (ws' := (ceX11_xOf cyI cyB cyJ cyZ a0 a1 b0_image b0_before b0_taken b0_tape b0_five b0_value b0_far b0_lead b0_walk b0_ends b0_manX b0_manY b0_dogX b0_dogY b0_row b0_round b0_farOne b0_leads b0_drags b0_from b0_near g0_thrown g0_hasImage g0_remembered g0_taped g0_point g0_end g0_begin g0_deep g0_faultAt g0_steps g0_men g0_dogs f1)) [0, 1] (by decide) rfl
      have hFc := va_free (wc := (ceX11_xOf cyI cyB cyJ cyZ a0 a1 b0_image b0_before b0_taken b0_tape b0_five b0_value b0_far b0_lead b0_walk b0_ends b0_manX b0_manY b0_dogX b0_dogY b0_row b0_round b0_farOne b0_leads b0_drags b0_from b0_near g0_thrown g0_hasImage g0_remembered g0_taped g0_point g0_end g0_begin g0_deep g0_faultAt g0_steps g0_men g0_dogs f1)) hD hS hA [0, 1] rfl
      refine va_calli (va_runV (As := [.int x1, .int v1]) (rest := [.int x2, .int x6, .ref a2]) ⟨hx, hb, hml, hown, hts⟩ (ctX11_xOf l dC dI cyI cyB cyJ cyZ _ a0 a1 b0_image b0_before b0_taken b0_tape b0_five b0_value b0_far b0_lead b0_walk b0_ends b0_manX b0_manY b0_dogX b0_dogY b0_row b0_round b0_farOne b0_leads b0_drags b0_from b0_near g0_thrown g0_hasImage g0_remembered g0_taped g0_point g0_end g0_begin g0_deep g0_faultAt g0_steps g0_men g0_dogs f1 x1 v1 _ hw) (cwV 2 hts gX11_points_X11_xOf rfl rfl rfl (by decide +kernel) ⟨Nat.le_of_ble_eq_true rfl, Nat.le_of_ble_eq_true rfl⟩) ⟨wPre_blind, va_recv hK hPc (ci := 11) (q0 := 0) rfl rfl, fun U hU hW => wPre_of hPc hK hDc hN hU hW⟩ rfl rfl hl.1 rfl (lv_room (Nat.le_of_ble_eq_true rfl)) dX11_points_59 ⟨(Nat.zero_le _), (Nat.zero_le _)⟩) hS (fun q _ h => hFc q h) hFc (fun r7 u6 t H1 locs ht hvm hw hB hz1 hk1 hS => ?_)
      obtain ⟨hP1, hK1, hD1⟩ := hB
      rw [ht] at hP1
      obtain ⟨hP, hD⟩ := va_join (wr := pickW (ceX11_points cyI cyB cyJ cyZ a0 a1 a2 a3 b0_image b0_before b0_taken b0_tape b0_five b0_value b0_far b0_lead b0_walk b0_ends b0_manX b0_manY b0_dogX b0_dogY b0_row b0_round b0_farOne b0_leads b0_drags b0_from b0_near n2 n3 g0_thrown g0_hasImage g0_remembered g0_taped g0_point g0_end g0_begin g0_deep g0_faultAt g0_steps g0_men g0_dogs f1 f2 f3) [2, 3]) (w1 := (ceX11_xOf cyI cyB cyJ cyZ a0 a1 b0_image b0_before b0_taken b0_tape b0_five b0_value b0_far b0_lead b0_walk b0_ends b0_manX b0_manY b0_dogX b0_dogY b0_row b0_round b0_farOne b0_leads b0_drags b0_from b0_near g0_thrown g0_hasImage g0_remembered g0_taped g0_point g0_end g0_begin g0_deep g0_faultAt g0_steps g0_men g0_dogs f1)) hP hD [0, 1] [2, 3] rfl rfl (by decide) (by decide) hk1 hFc hP1 hD1
      have hP := hP.sub (ws' := (ceX11_points cyI cyB cyJ cyZ a0 a1 a2 a3 b0_image b0_before b0_taken b0_tape b0_five b0_value b0_far b0_lead b0_walk b0_ends b0_manX b0_manY b0_dogX b0_dogY b0_row b0_round b0_farOne b0_leads b0_drags b0_from b0_near n2 n3 g0_thrown g0_hasImage g0_remembered g0_taped g0_point g0_end g0_begin g0_deep g0_faultAt g0_steps g0_men g0_dogs f1 f2 f3)) [2, 3, 0, 1] rfl
      have hD := hD.sub (ws' := (ceX11_points cyI cyB cyJ cyZ a0 a1 a2 a3 b0_image b0_before b0_taken b0_tape b0_five b0_value b0_far b0_lead b0_walk b0_ends b0_manX b0_manY b0_dogX b0_dogY b0_row b0_round b0_farOne b0_leads b0_drags b0_from b0_near n2 n3 g0_thrown g0_hasImage g0_remembered g0_taped g0_point g0_end g0_begin g0_deep g0_faultAt g0_steps g0_men g0_dogs f1 f2 f3)) [2, 3, 0, 1] (by decide) rfl
      generalize H1 = H at hP hS ⊢
      refine lv_imul hx hb dX11_points_62 ?_
      refine lv_iload hx hb dX11_points_63 (lv_at hl 1 rfl) ?_
      refine lv_aload_n hx hb dX11_points_65 rfl (lv_at hl 3 rfl) ?_
      refine lv_iload_n hx hb dX11_points_66 rfl (lv_at hl 4 rfl) ?_
      refine lv_iload hx hb dX11_points_67 (lv_at hl 0 rfl) ?_
      have hPc := hP.sub (ws' := (ceX11_xOf cyI cyB cyJ cyZ a0 a1 b0_image b0_before b0_taken b0_tape b0_five b0_value b0_far b0_lead b0_walk b0_ends b0_manX b0_manY b0_dogX b0_dogY b0_row b0_round b0_farOne b0_leads b0_drags b0_from b0_near g0_thrown g0_hasImage g0_remembered g0_taped g0_point g0_end g0_begin g0_deep g0_faultAt g0_steps g0_men g0_dogs f1)) [0, 1] rfl
      have hDc := hD.sub (ws' := (ceX11_xOf cyI cyB cyJ cyZ a0 a1 b0_image b0_before b0_taken b0_tape b0_five b0_value b0_far b0_lead b0_walk b0_ends b0_manX b0_manY b0_dogX b0_dogY b0_row b0_round b0_farOne b0_leads b0_drags b0_from b0_near g0_thrown g0_hasImage g0_remembered g0_taped g0_point g0_end g0_begin g0_deep g0_faultAt g0_steps g0_men g0_dogs f1)) [0, 1] (by decide) rfl
      have hFc := va_free (wc := (ceX11_xOf cyI cyB cyJ cyZ a0 a1 b0_image b0_before b0_taken b0_tape b0_five b0_value b0_far b0_lead b0_walk b0_ends b0_manX b0_manY b0_dogX b0_dogY b0_row b0_round b0_farOne b0_leads b0_drags b0_from b0_near g0_thrown g0_hasImage g0_remembered g0_taped g0_point g0_end g0_begin g0_deep g0_faultAt g0_steps g0_men g0_dogs f1)) hD hS hA [0, 1] rfl
      refine va_calli (va_runV (As := [.int x1, .int v5]) (rest := [.int v2, .int (x2 * r7), .int x6, .ref a2]) ⟨hx, hb, hml, hown, hts⟩ (ctX11_xOf l dC dI cyI cyB cyJ cyZ _ a0 a1 b0_image b0_before b0_taken b0_tape b0_five b0_value b0_far b0_lead b0_walk b0_ends b0_manX b0_manY b0_dogX b0_dogY b0_row b0_round b0_farOne b0_leads b0_drags b0_from b0_near g0_thrown g0_hasImage g0_remembered g0_taped g0_point g0_end g0_begin g0_deep g0_faultAt g0_steps g0_men g0_dogs f1 x1 v5 _ hw) (cwV 2 hts gX11_points_X11_xOf rfl rfl rfl (by decide +kernel) ⟨Nat.le_of_ble_eq_true rfl, Nat.le_of_ble_eq_true rfl⟩) ⟨wPre_blind, va_recv hK hPc (ci := 11) (q0 := 0) rfl rfl, fun U hU hW => wPre_of hPc hK hDc hN hU hW⟩ rfl rfl hl.1 rfl (lv_room (Nat.le_of_ble_eq_true rfl)) dX11_points_69 ⟨(Nat.zero_le _), (Nat.zero_le _)⟩) hS (fun q _ h => hFc q h) hFc (fun r9 u8 t H1 locs ht hvm hw hB hz1 hk1 hS => ?_)
      obtain ⟨hP1, hK1, hD1⟩ := hB
      rw [ht] at hP1
      obtain ⟨hP, hD⟩ := va_join (wr := pickW (ceX11_points cyI cyB cyJ cyZ a0 a1 a2 a3 b0_image b0_before b0_taken b0_tape b0_five b0_value b0_far b0_lead b0_walk b0_ends b0_manX b0_manY b0_dogX b0_dogY b0_row b0_round b0_farOne b0_leads b0_drags b0_from b0_near n2 n3 g0_thrown g0_hasImage g0_remembered g0_taped g0_point g0_end g0_begin g0_deep g0_faultAt g0_steps g0_men g0_dogs f1 f2 f3) [2, 3]) (w1 := (ceX11_xOf cyI cyB cyJ cyZ a0 a1 b0_image b0_before b0_taken b0_tape b0_five b0_value b0_far b0_lead b0_walk b0_ends b0_manX b0_manY b0_dogX b0_dogY b0_row b0_round b0_farOne b0_leads b0_drags b0_from b0_near g0_thrown g0_hasImage g0_remembered g0_taped g0_point g0_end g0_begin g0_deep g0_faultAt g0_steps g0_men g0_dogs f1)) hP hD [0, 1] [2, 3] rfl rfl (by decide) (by decide) hk1 hFc hP1 hD1
      have hP := hP.sub (ws' := (ceX11_points cyI cyB cyJ cyZ a0 a1 a2 a3 b0_image b0_before b0_taken b0_tape b0_five b0_value b0_far b0_lead b0_walk b0_ends b0_manX b0_manY b0_dogX b0_dogY b0_row b0_round b0_farOne b0_leads b0_drags b0_from b0_near n2 n3 g0_thrown g0_hasImage g0_remembered g0_taped g0_point g0_end g0_begin g0_deep g0_faultAt g0_steps g0_men g0_dogs f1 f2 f3)) [2, 3, 0, 1] rfl
      have hD := hD.sub (ws' := (ceX11_points cyI cyB cyJ cyZ a0 a1 a2 a3 b0_image b0_before b0_taken b0_tape b0_five b0_value b0_far b0_lead b0_walk b0_ends b0_manX b0_manY b0_dogX b0_dogY b0_row b0_round b0_farOne b0_leads b0_drags b0_from b0_near n2 n3 g0_thrown g0_hasImage g0_remembered g0_taped g0_point g0_end g0_begin g0_deep g0_faultAt g0_steps g0_men g0_dogs f1 f2 f3)) [2, 3, 0, 1] (by decide) rfl
      generalize H1 = H at hP hS ⊢
      refine lv_aload_n hx hb dX11_points_72 rfl (lv_at hl 3 rfl) ?_
      refine lv_iload_n hx hb dX11_points_73 rfl (lv_at hl 4 rfl) ?_
      refine lv_iload hx hb dX11_points_74 (lv_at hl 2 rfl) ?_
      have hPc := hP.sub (ws' := (ceX11_xOf cyI cyB cyJ cyZ a0 a1 b0_image b0_before b0_taken b0_tape b0_five b0_value b0_far b0_lead b0_walk b0_ends b0_manX b0_manY b0_dogX b0_dogY b0_row b0_round b0_farOne b0_leads b0_drags b0_from b0_near g0_thrown g0_hasImage g0_remembered g0_taped g0_point g0_end g0_begin g0_deep g0_faultAt g0_steps g0_men g0_dogs f1)) [0, 1] rfl
      have hDc := hD.sub (ws' := (ceX11_xOf cyI cyB cyJ cyZ a0 a1 b0_image b0_before b0_taken b0_tape b0_five b0_value b0_far b0_lead b0_walk b0_ends b0_manX b0_manY b0_dogX b0_dogY b0_row b0_round b0_farOne b0_leads b0_drags b0_from b0_near g0_thrown g0_hasImage g0_remembered g0_taped g0_point g0_end g0_begin g0_deep g0_faultAt g0_steps g0_men g0_dogs f1)) [0, 1] (by decide) rfl
      have hFc := va_free (wc := (ceX11_xOf cyI cyB cyJ cyZ a0 a1 b0_image b0_before b0_taken b0_tape b0_five b0_value b0_far b0_lead b0_walk b0_ends b0_manX b0_manY b0_dogX b0_dogY b0_row b0_round b0_farOne b0_leads b0_drags b0_from b0_near g0_thrown g0_hasImage g0_remembered g0_taped g0_point g0_end g0_begin g0_deep g0_faultAt g0_steps g0_men g0_dogs f1)) hD hS hA [0, 1] rfl
      refine va_calli (va_runV (As := [.int x1, .int v1]) (rest := [.int r9, .int v2, .int (x2 * r7), .int x6, .ref a2]) ⟨hx, hb, hml, hown, hts⟩ (ctX11_xOf l dC dI cyI cyB cyJ cyZ _ a0 a1 b0_image b0_before b0_taken b0_tape b0_five b0_value b0_far b0_lead b0_walk b0_ends b0_manX b0_manY b0_dogX b0_dogY b0_row b0_round b0_farOne b0_leads b0_drags b0_from b0_near g0_thrown g0_hasImage g0_remembered g0_taped g0_point g0_end g0_begin g0_deep g0_faultAt g0_steps g0_men g0_dogs f1 x1 v1 _ hw) (cwV 2 hts gX11_points_X11_xOf rfl rfl rfl (by decide +kernel) ⟨Nat.le_of_ble_eq_true rfl, Nat.le_of_ble_eq_true rfl⟩) ⟨wPre_blind, va_recv hK hPc (ci := 11) (q0 := 0) rfl rfl, fun U hU hW => wPre_of hPc hK hDc hN hU hW⟩ rfl rfl hl.1 rfl (lv_room (Nat.le_of_ble_eq_true rfl)) dX11_points_76 ⟨(Nat.zero_le _), (Nat.zero_le _)⟩) hS (fun q _ h => hFc q h) hFc (fun r11 u10 t H1 locs ht hvm hw hB hz1 hk1 hS => ?_)
      obtain ⟨hP1, hK1, hD1⟩ := hB
      rw [ht] at hP1
      obtain ⟨hP, hD⟩ := va_join (wr := pickW (ceX11_points cyI cyB cyJ cyZ a0 a1 a2 a3 b0_image b0_before b0_taken b0_tape b0_five b0_value b0_far b0_lead b0_walk b0_ends b0_manX b0_manY b0_dogX b0_dogY b0_row b0_round b0_farOne b0_leads b0_drags b0_from b0_near n2 n3 g0_thrown g0_hasImage g0_remembered g0_taped g0_point g0_end g0_begin g0_deep g0_faultAt g0_steps g0_men g0_dogs f1 f2 f3) [2, 3]) (w1 := (ceX11_xOf cyI cyB cyJ cyZ a0 a1 b0_image b0_before b0_taken b0_tape b0_five b0_value b0_far b0_lead b0_walk b0_ends b0_manX b0_manY b0_dogX b0_dogY b0_row b0_round b0_farOne b0_leads b0_drags b0_from b0_near g0_thrown g0_hasImage g0_remembered g0_taped g0_point g0_end g0_begin g0_deep g0_faultAt g0_steps g0_men g0_dogs f1)) hP hD [0, 1] [2, 3] rfl rfl (by decide) (by decide) hk1 hFc hP1 hD1
      have hP := hP.sub (ws' := (ceX11_points cyI cyB cyJ cyZ a0 a1 a2 a3 b0_image b0_before b0_taken b0_tape b0_five b0_value b0_far b0_lead b0_walk b0_ends b0_manX b0_manY b0_dogX b0_dogY b0_row b0_round b0_farOne b0_leads b0_drags b0_from b0_near n2 n3 g0_thrown g0_hasImage g0_remembered g0_taped g0_point g0_end g0_begin g0_deep g0_faultAt g0_steps g0_men g0_dogs f1 f2 f3)) [2, 3, 0, 1] rfl
      have hD := hD.sub (ws' := (ceX11_points cyI cyB cyJ cyZ a0 a1 a2 a3 b0_image b0_before b0_taken b0_tape b0_five b0_value b0_far b0_lead b0_walk b0_ends b0_manX b0_manY b0_dogX b0_dogY b0_row b0_round b0_farOne b0_leads b0_drags b0_from b0_near n2 n3 g0_thrown g0_hasImage g0_remembered g0_taped g0_point g0_end g0_begin g0_deep g0_faultAt g0_steps g0_men g0_dogs f1 f2 f3)) [2, 3, 0, 1] (by decide) rfl
      generalize H1 = H at hP hS ⊢
      refine lv_isub hx hb dX11_points_79 ?_
      refine lv_imul hx hb dX11_points_80 ?_
      refine lv_iadd hx hb dX11_points_81 ?_
      obtain ⟨hi, hw⟩ := hw
      refine va_iast hx hb hK hP hD hS 2 0 rfl rfl hi dX11_points_82 (fun H locs hP hD hS => ?_)
      have hP : va_P (dC, dI) vwCl (ceX11_points cyI cyB cyJ cyZ a0 a1 a2 a3 b0_image b0_before b0_taken b0_tape b0_five b0_value b0_far b0_lead b0_walk b0_ends b0_manX b0_manY b0_dogX b0_dogY b0_row b0_round b0_farOne b0_leads b0_drags b0_from b0_near n2 n3 g0_thrown g0_hasImage g0_remembered g0_taped g0_point g0_end g0_begin g0_deep g0_faultAt g0_steps g0_men g0_dogs f1 (upd f2 x6.toNatClampNeg ((x2 * r7) + (v2 * (r9 - r11)))) f3) H := hP
      have hD : va_D A (ceX11_points cyI cyB cyJ cyZ a0 a1 a2 a3 b0_image b0_before b0_taken b0_tape b0_five b0_value b0_far b0_lead b0_walk b0_ends b0_manX b0_manY b0_dogX b0_dogY b0_row b0_round b0_farOne b0_leads b0_drags b0_from b0_near n2 n3 g0_thrown g0_hasImage g0_remembered g0_taped g0_point g0_end g0_begin g0_deep g0_faultAt g0_steps g0_men g0_dogs f1 (upd f2 x6.toNatClampNeg ((x2 * r7) + (v2 * (r9 - r11)))) f3) := hD
      refine lv_aload hx hb dX11_points_83 (lv_at hl 7 rfl) ?_
      refine lv_iload hx hb dX11_points_85 (lv_at hl 9 rfl) ?_
      refine lv_iload_n hx hb dX11_points_87 rfl (lv_at hl 5 rfl) ?_
      refine lv_aload_n hx hb dX11_points_88 rfl (lv_at hl 3 rfl) ?_
      refine lv_iload_n hx hb dX11_points_89 rfl (lv_at hl 4 rfl) ?_
      refine lv_iload hx hb dX11_points_90 (lv_at hl 2 rfl) ?_
      have hPc := hP.sub (ws' := (ceX11_yOf cyI cyB cyJ cyZ a0 a1 b0_image b0_before b0_taken b0_tape b0_five b0_value b0_far b0_lead b0_walk b0_ends b0_manX b0_manY b0_dogX b0_dogY b0_row b0_round b0_farOne b0_leads b0_drags b0_from b0_near g0_thrown g0_hasImage g0_remembered g0_taped g0_point g0_end g0_begin g0_deep g0_faultAt g0_steps g0_men g0_dogs f1)) [0, 1] rfl
      have hDc := hD.sub (ws' := (ceX11_yOf cyI cyB cyJ cyZ a0 a1 b0_image b0_before b0_taken b0_tape b0_five b0_value b0_far b0_lead b0_walk b0_ends b0_manX b0_manY b0_dogX b0_dogY b0_row b0_round b0_farOne b0_leads b0_drags b0_from b0_near g0_thrown g0_hasImage g0_remembered g0_taped g0_point g0_end g0_begin g0_deep g0_faultAt g0_steps g0_men g0_dogs f1)) [0, 1] (by decide) rfl
      have hFc := va_free (wc := (ceX11_yOf cyI cyB cyJ cyZ a0 a1 b0_image b0_before b0_taken b0_tape b0_five b0_value b0_far b0_lead b0_walk b0_ends b0_manX b0_manY b0_dogX b0_dogY b0_row b0_round b0_farOne b0_leads b0_drags b0_from b0_near g0_thrown g0_hasImage g0_remembered g0_taped g0_point g0_end g0_begin g0_deep g0_faultAt g0_steps g0_men g0_dogs f1)) hD hS hA [0, 1] rfl
      refine va_calli (va_runV (As := [.int x1, .int v1]) (rest := [.int x2, .int x6, .ref a3]) ⟨hx, hb, hml, hown, hts⟩ (ctX11_yOf l dC dI cyI cyB cyJ cyZ _ a0 a1 b0_image b0_before b0_taken b0_tape b0_five b0_value b0_far b0_lead b0_walk b0_ends b0_manX b0_manY b0_dogX b0_dogY b0_row b0_round b0_farOne b0_leads b0_drags b0_from b0_near g0_thrown g0_hasImage g0_remembered g0_taped g0_point g0_end g0_begin g0_deep g0_faultAt g0_steps g0_men g0_dogs f1 x1 v1 _ hw) (cwV 2 hts gX11_points_X11_yOf rfl rfl rfl (by decide +kernel) ⟨Nat.le_of_ble_eq_true rfl, Nat.le_of_ble_eq_true rfl⟩) ⟨wPre_blind, va_recv hK hPc (ci := 11) (q0 := 0) rfl rfl, fun U hU hW => wPre_of hPc hK hDc hN hU hW⟩ rfl rfl hl.1 rfl (lv_room (Nat.le_of_ble_eq_true rfl)) dX11_points_92 ⟨(Nat.zero_le _), (Nat.zero_le _)⟩) hS (fun q _ h => hFc q h) hFc (fun r13 u12 t H1 locs ht hvm hw hB hz1 hk1 hS => ?_)
      obtain ⟨hP1, hK1, hD1⟩ := hB
      rw [ht] at hP1
      obtain ⟨hP, hD⟩ := va_join (wr := pickW (ceX11_points cyI cyB cyJ cyZ a0 a1 a2 a3 b0_image b0_before b0_taken b0_tape b0_five b0_value b0_far b0_lead b0_walk b0_ends b0_manX b0_manY b0_dogX b0_dogY b0_row b0_round b0_farOne b0_leads b0_drags b0_from b0_near n2 n3 g0_thrown g0_hasImage g0_remembered g0_taped g0_point g0_end g0_begin g0_deep g0_faultAt g0_steps g0_men g0_dogs f1 (upd f2 x6.toNatClampNeg ((x2 * r7) + (v2 * (r9 - r11)))) f3) [2, 3]) (w1 := (ceX11_yOf cyI cyB cyJ cyZ a0 a1 b0_image b0_before b0_taken b0_tape b0_five b0_value b0_far b0_lead b0_walk b0_ends b0_manX b0_manY b0_dogX b0_dogY b0_row b0_round b0_farOne b0_leads b0_drags b0_from b0_near g0_thrown g0_hasImage g0_remembered g0_taped g0_point g0_end g0_begin g0_deep g0_faultAt g0_steps g0_men g0_dogs f1)) hP hD [0, 1] [2, 3] rfl rfl (by decide) (by decide) hk1 hFc hP1 hD1
      have hP := hP.sub (ws' := (ceX11_points cyI cyB cyJ cyZ a0 a1 a2 a3 b0_image b0_before b0_taken b0_tape b0_five b0_value b0_far b0_lead b0_walk b0_ends b0_manX b0_manY b0_dogX b0_dogY b0_row b0_round b0_farOne b0_leads b0_drags b0_from b0_near n2 n3 g0_thrown g0_hasImage g0_remembered g0_taped g0_point g0_end g0_begin g0_deep g0_faultAt g0_steps g0_men g0_dogs f1 (upd f2 x6.toNatClampNeg ((x2 * r7) + (v2 * (r9 - r11)))) f3)) [2, 3, 0, 1] rfl
      have hD := hD.sub (ws' := (ceX11_points cyI cyB cyJ cyZ a0 a1 a2 a3 b0_image b0_before b0_taken b0_tape b0_five b0_value b0_far b0_lead b0_walk b0_ends b0_manX b0_manY b0_dogX b0_dogY b0_row b0_round b0_farOne b0_leads b0_drags b0_from b0_near n2 n3 g0_thrown g0_hasImage g0_remembered g0_taped g0_point g0_end g0_begin g0_deep g0_faultAt g0_steps g0_men g0_dogs f1 (upd f2 x6.toNatClampNeg ((x2 * r7) + (v2 * (r9 - r11)))) f3)) [2, 3, 0, 1] (by decide) rfl
      generalize H1 = H at hP hS ⊢
      refine lv_imul hx hb dX11_points_95 ?_
      refine lv_iload hx hb dX11_points_96 (lv_at hl 1 rfl) ?_
      refine lv_aload_n hx hb dX11_points_98 rfl (lv_at hl 3 rfl) ?_
      refine lv_iload_n hx hb dX11_points_99 rfl (lv_at hl 4 rfl) ?_
      refine lv_iload hx hb dX11_points_100 (lv_at hl 0 rfl) ?_
      have hPc := hP.sub (ws' := (ceX11_yOf cyI cyB cyJ cyZ a0 a1 b0_image b0_before b0_taken b0_tape b0_five b0_value b0_far b0_lead b0_walk b0_ends b0_manX b0_manY b0_dogX b0_dogY b0_row b0_round b0_farOne b0_leads b0_drags b0_from b0_near g0_thrown g0_hasImage g0_remembered g0_taped g0_point g0_end g0_begin g0_deep g0_faultAt g0_steps g0_men g0_dogs f1)) [0, 1] rfl
      have hDc := hD.sub (ws' := (ceX11_yOf cyI cyB cyJ cyZ a0 a1 b0_image b0_before b0_taken b0_tape b0_five b0_value b0_far b0_lead b0_walk b0_ends b0_manX b0_manY b0_dogX b0_dogY b0_row b0_round b0_farOne b0_leads b0_drags b0_from b0_near g0_thrown g0_hasImage g0_remembered g0_taped g0_point g0_end g0_begin g0_deep g0_faultAt g0_steps g0_men g0_dogs f1)) [0, 1] (by decide) rfl
      have hFc := va_free (wc := (ceX11_yOf cyI cyB cyJ cyZ a0 a1 b0_image b0_before b0_taken b0_tape b0_five b0_value b0_far b0_lead b0_walk b0_ends b0_manX b0_manY b0_dogX b0_dogY b0_row b0_round b0_farOne b0_leads b0_drags b0_from b0_near g0_thrown g0_hasImage g0_remembered g0_taped g0_point g0_end g0_begin g0_deep g0_faultAt g0_steps g0_men g0_dogs f1)) hD hS hA [0, 1] rfl
      refine va_calli (va_runV (As := [.int x1, .int v5]) (rest := [.int v2, .int (x2 * r13), .int x6, .ref a3]) ⟨hx, hb, hml, hown, hts⟩ (ctX11_yOf l dC dI cyI cyB cyJ cyZ _ a0 a1 b0_image b0_before b0_taken b0_tape b0_five b0_value b0_far b0_lead b0_walk b0_ends b0_manX b0_manY b0_dogX b0_dogY b0_row b0_round b0_farOne b0_leads b0_drags b0_from b0_near g0_thrown g0_hasImage g0_remembered g0_taped g0_point g0_end g0_begin g0_deep g0_faultAt g0_steps g0_men g0_dogs f1 x1 v5 _ hw) (cwV 2 hts gX11_points_X11_yOf rfl rfl rfl (by decide +kernel) ⟨Nat.le_of_ble_eq_true rfl, Nat.le_of_ble_eq_true rfl⟩) ⟨wPre_blind, va_recv hK hPc (ci := 11) (q0 := 0) rfl rfl, fun U hU hW => wPre_of hPc hK hDc hN hU hW⟩ rfl rfl hl.1 rfl (lv_room (Nat.le_of_ble_eq_true rfl)) dX11_points_102 ⟨(Nat.zero_le _), (Nat.zero_le _)⟩) hS (fun q _ h => hFc q h) hFc (fun r15 u14 t H1 locs ht hvm hw hB hz1 hk1 hS => ?_)
      obtain ⟨hP1, hK1, hD1⟩ := hB
      rw [ht] at hP1
      obtain ⟨hP, hD⟩ := va_join (wr := pickW (ceX11_points cyI cyB cyJ cyZ a0 a1 a2 a3 b0_image b0_before b0_taken b0_tape b0_five b0_value b0_far b0_lead b0_walk b0_ends b0_manX b0_manY b0_dogX b0_dogY b0_row b0_round b0_farOne b0_leads b0_drags b0_from b0_near n2 n3 g0_thrown g0_hasImage g0_remembered g0_taped g0_point g0_end g0_begin g0_deep g0_faultAt g0_steps g0_men g0_dogs f1 (upd f2 x6.toNatClampNeg ((x2 * r7) + (v2 * (r9 - r11)))) f3) [2, 3]) (w1 := (ceX11_yOf cyI cyB cyJ cyZ a0 a1 b0_image b0_before b0_taken b0_tape b0_five b0_value b0_far b0_lead b0_walk b0_ends b0_manX b0_manY b0_dogX b0_dogY b0_row b0_round b0_farOne b0_leads b0_drags b0_from b0_near g0_thrown g0_hasImage g0_remembered g0_taped g0_point g0_end g0_begin g0_deep g0_faultAt g0_steps g0_men g0_dogs f1)) hP hD [0, 1] [2, 3] rfl rfl (by decide) (by decide) hk1 hFc hP1 hD1
      have hP := hP.sub (ws' := (ceX11_points cyI cyB cyJ cyZ a0 a1 a2 a3 b0_image b0_before b0_taken b0_tape b0_five b0_value b0_far b0_lead b0_walk b0_ends b0_manX b0_manY b0_dogX b0_dogY b0_row b0_round b0_farOne b0_leads b0_drags b0_from b0_near n2 n3 g0_thrown g0_hasImage g0_remembered g0_taped g0_point g0_end g0_begin g0_deep g0_faultAt g0_steps g0_men g0_dogs f1 (upd f2 x6.toNatClampNeg ((x2 * r7) + (v2 * (r9 - r11)))) f3)) [2, 3, 0, 1] rfl
      have hD := hD.sub (ws' := (ceX11_points cyI cyB cyJ cyZ a0 a1 a2 a3 b0_image b0_before b0_taken b0_tape b0_five b0_value b0_far b0_lead b0_walk b0_ends b0_manX b0_manY b0_dogX b0_dogY b0_row b0_round b0_farOne b0_leads b0_drags b0_from b0_near n2 n3 g0_thrown g0_hasImage g0_remembered g0_taped g0_point g0_end g0_begin g0_deep g0_faultAt g0_steps g0_men g0_dogs f1 (upd f2 x6.toNatClampNeg ((x2 * r7) + (v2 * (r9 - r11)))) f3)) [2, 3, 0, 1] (by decide) rfl
      generalize H1 = H at hP hS ⊢
      refine lv_aload_n hx hb dX11_points_105 rfl (lv_at hl 3 rfl) ?_
      refine lv_iload_n hx hb dX11_points_106 rfl (lv_at hl 4 rfl) ?_
      refine lv_iload hx hb dX11_points_107 (lv_at hl 2 rfl) ?_
      have hPc := hP.sub (ws' := (ceX11_yOf cyI cyB cyJ cyZ a0 a1 b0_image b0_before b0_taken b0_tape b0_five b0_value b0_far b0_lead b0_walk b0_ends b0_manX b0_manY b0_dogX b0_dogY b0_row b0_round b0_farOne b0_leads b0_drags b0_from b0_near g0_thrown g0_hasImage g0_remembered g0_taped g0_point g0_end g0_begin g0_deep g0_faultAt g0_steps g0_men g0_dogs f1)) [0, 1] rfl
      have hDc := hD.sub (ws' := (ceX11_yOf cyI cyB cyJ cyZ a0 a1 b0_image b0_before b0_taken b0_tape b0_five b0_value b0_far b0_lead b0_walk b0_ends b0_manX b0_manY b0_dogX b0_dogY b0_row b0_round b0_farOne b0_leads b0_drags b0_from b0_near g0_thrown g0_hasImage g0_remembered g0_taped g0_point g0_end g0_begin g0_deep g0_faultAt g0_steps g0_men g0_dogs f1)) [0, 1] (by decide) rfl
      have hFc := va_free (wc := (ceX11_yOf cyI cyB cyJ cyZ a0 a1 b0_image b0_before b0_taken b0_tape b0_five b0_value b0_far b0_lead b0_walk b0_ends b0_manX b0_manY b0_dogX b0_dogY b0_row b0_round b0_farOne b0_leads b0_drags b0_from b0_near g0_thrown g0_hasImage g0_remembered g0_taped g0_point g0_end g0_begin g0_deep g0_faultAt g0_steps g0_men g0_dogs f1)) hD hS hA [0, 1] rfl
      refine va_calli (va_runV (As := [.int x1, .int v1]) (rest := [.int r15, .int v2, .int (x2 * r13), .int x6, .ref a3]) ⟨hx, hb, hml, hown, hts⟩ (ctX11_yOf l dC dI cyI cyB cyJ cyZ _ a0 a1 b0_image b0_before b0_taken b0_tape b0_five b0_value b0_far b0_lead b0_walk b0_ends b0_manX b0_manY b0_dogX b0_dogY b0_row b0_round b0_farOne b0_leads b0_drags b0_from b0_near g0_thrown g0_hasImage g0_remembered g0_taped g0_point g0_end g0_begin g0_deep g0_faultAt g0_steps g0_men g0_dogs f1 x1 v1 _ hw) (cwV 2 hts gX11_points_X11_yOf rfl rfl rfl (by decide +kernel) ⟨Nat.le_of_ble_eq_true rfl, Nat.le_of_ble_eq_true rfl⟩) ⟨wPre_blind, va_recv hK hPc (ci := 11) (q0 := 0) rfl rfl, fun U hU hW => wPre_of hPc hK hDc hN hU hW⟩ rfl rfl hl.1 rfl (lv_room (Nat.le_of_ble_eq_true rfl)) dX11_points_109 ⟨(Nat.zero_le _), (Nat.zero_le _)⟩) hS (fun q _ h => hFc q h) hFc (fun r17 u16 t H1 locs ht hvm hw hB hz1 hk1 hS => ?_)
      obtain ⟨hP1, hK1, hD1⟩ := hB
      rw [ht] at hP1
      obtain ⟨hP, hD⟩ := va_join (wr := pickW (ceX11_points cyI cyB cyJ cyZ a0 a1 a2 a3 b0_image b0_before b0_taken b0_tape b0_five b0_value b0_far b0_lead b0_walk b0_ends b0_manX b0_manY b0_dogX b0_dogY b0_row b0_round b0_farOne b0_leads b0_drags b0_from b0_near n2 n3 g0_thrown g0_hasImage g0_remembered g0_taped g0_point g0_end g0_begin g0_deep g0_faultAt g0_steps g0_men g0_dogs f1 (upd f2 x6.toNatClampNeg ((x2 * r7) + (v2 * (r9 - r11)))) f3) [2, 3]) (w1 := (ceX11_yOf cyI cyB cyJ cyZ a0 a1 b0_image b0_before b0_taken b0_tape b0_five b0_value b0_far b0_lead b0_walk b0_ends b0_manX b0_manY b0_dogX b0_dogY b0_row b0_round b0_farOne b0_leads b0_drags b0_from b0_near g0_thrown g0_hasImage g0_remembered g0_taped g0_point g0_end g0_begin g0_deep g0_faultAt g0_steps g0_men g0_dogs f1)) hP hD [0, 1] [2, 3] rfl rfl (by decide) (by decide) hk1 hFc hP1 hD1
      have hP := hP.sub (ws' := (ceX11_points cyI cyB cyJ cyZ a0 a1 a2 a3 b0_image b0_before b0_taken b0_tape b0_five b0_value b0_far b0_lead b0_walk b0_ends b0_manX b0_manY b0_dogX b0_dogY b0_row b0_round b0_farOne b0_leads b0_drags b0_from b0_near n2 n3 g0_thrown g0_hasImage g0_remembered g0_taped g0_point g0_end g0_begin g0_deep g0_faultAt g0_steps g0_men g0_dogs f1 (upd f2 x6.toNatClampNeg ((x2 * r7) + (v2 * (r9 - r11)))) f3)) [2, 3, 0, 1] rfl
      have hD := hD.sub (ws' := (ceX11_points cyI cyB cyJ cyZ a0 a1 a2 a3 b0_image b0_before b0_taken b0_tape b0_five b0_value b0_far b0_lead b0_walk b0_ends b0_manX b0_manY b0_dogX b0_dogY b0_row b0_round b0_farOne b0_leads b0_drags b0_from b0_near n2 n3 g0_thrown g0_hasImage g0_remembered g0_taped g0_point g0_end g0_begin g0_deep g0_faultAt g0_steps g0_men g0_dogs f1 (upd f2 x6.toNatClampNeg ((x2 * r7) + (v2 * (r9 - r11)))) f3)) [2, 3, 0, 1] (by decide) rfl
      generalize H1 = H at hP hS ⊢
      refine lv_isub hx hb dX11_points_112 ?_
      refine lv_imul hx hb dX11_points_113 ?_
      refine lv_iadd hx hb dX11_points_114 ?_
      obtain ⟨hi, hw⟩ := hw
      refine va_iast hx hb hK hP hD hS 3 0 rfl rfl hi dX11_points_115 (fun H locs hP hD hS => ?_)
      have hP : va_P (dC, dI) vwCl (ceX11_points cyI cyB cyJ cyZ a0 a1 a2 a3 b0_image b0_before b0_taken b0_tape b0_five b0_value b0_far b0_lead b0_walk b0_ends b0_manX b0_manY b0_dogX b0_dogY b0_row b0_round b0_farOne b0_leads b0_drags b0_from b0_near n2 n3 g0_thrown g0_hasImage g0_remembered g0_taped g0_point g0_end g0_begin g0_deep g0_faultAt g0_steps g0_men g0_dogs f1 (upd f2 x6.toNatClampNeg ((x2 * r7) + (v2 * (r9 - r11)))) (upd f3 x6.toNatClampNeg ((x2 * r13) + (v2 * (r15 - r17))))) H := hP
      have hD : va_D A (ceX11_points cyI cyB cyJ cyZ a0 a1 a2 a3 b0_image b0_before b0_taken b0_tape b0_five b0_value b0_far b0_lead b0_walk b0_ends b0_manX b0_manY b0_dogX b0_dogY b0_row b0_round b0_farOne b0_leads b0_drags b0_from b0_near n2 n3 g0_thrown g0_hasImage g0_remembered g0_taped g0_point g0_end g0_begin g0_deep g0_faultAt g0_steps g0_men g0_dogs f1 (upd f2 x6.toNatClampNeg ((x2 * r7) + (v2 * (r9 - r11)))) (upd f3 x6.toNatClampNeg ((x2 * r13) + (v2 * (r15 - r17))))) := hD
      obtain ⟨v18, ev18⟩ : ∃ y : Int32, y = x6 + 1 := ⟨_, rfl⟩
      have hw := hw v18 ev18
      refine lv_iinc (v := v18) (lv' := [(6, .int v18), (9, .int v5), (8, .int v2), (7, .int v1), (0, .ref a0), (1, .int x1), (2, .int x2), (3, .ref a2), (4, .ref a3), (5, .int x5)]) hx hb dX11_points_116 hl (k := 9) rfl (by rw [ev18]; rfl) (by decide) rfl (fun ls hl => ?_)
      refine lv_goto (tgt := 16) hx hb dX11_points_119 (by decide) ?_
      exact ih (upd f2 x6.toNatClampNeg ((x2 * r7) + (v2 * (r9 - r11)))) (upd f3 x6.toNatClampNeg ((x2 * r13) + (v2 * (r15 - r17)))) x1 x2 x5 v18 hw H locs hP hD hS ls (lv_sub hl [4, 5, 6, 7, 8, 9, 0] rfl)
set_option maxRecDepth 100000 in
set_option maxHeartbeats 4000000 in
theorem ctX11_points (l : Launch) (dC : Nat → ClassId) (dI : Nat → Nat → Nat) (cyI cyB cyJ cyZ : ClassId) (sz : Nat) (a0 a1 a2 a3 b0_image b0_before b0_taken b0_tape b0_five b0_value b0_far b0_lead b0_walk b0_ends b0_manX b0_manY b0_dogX b0_dogY b0_row b0_round b0_farOne b0_leads b0_drags b0_from b0_near n2 n3 : Nat) (g0_thrown : Int32) (g0_hasImage : Int32) (g0_remembered : Int32) (g0_taped : Int32) (g0_point : Int32) (g0_end : Int32) (g0_begin : Int32) (g0_deep : Int32) (g0_faultAt : Int32) (g0_steps : Int32) (g0_men : Int32) (g0_dogs : Int32) (f1 : Nat → Int32) (f2 : Nat → Int32) (f3 : Nat → Int32) (p0 : Int32) (p1 : Int32) (post : Int32 → ((Nat → Int32) × (Nat → Int32)) → Prop) (hw : wpX11_points n2 n3 post f1 f2 f3 p0 p1) : Met l yX11_points wsX11_points rmX11_points (va_Pc [.ref a0, .int p0, .int p1, .ref a2, .ref a3] (wPre dC dI cyI cyB cyJ cyZ sz (ceX11_points cyI cyB cyJ cyZ a0 a1 a2 a3 b0_image b0_before b0_taken b0_tape b0_five b0_value b0_far b0_lead b0_walk b0_ends b0_manX b0_manY b0_dogX b0_dogY b0_row b0_round b0_farOne b0_leads b0_drags b0_from b0_near n2 n3 g0_thrown g0_hasImage g0_remembered g0_taped g0_point g0_end g0_begin g0_deep g0_faultAt g0_steps g0_men g0_dogs f1 f2 f3))) (va_Qi post (fun u : (Nat → Int32) × (Nat → Int32) => wAt dC dI cyI cyB cyJ cyZ (va_A (ceX11_points cyI cyB cyJ cyZ a0 a1 a2 a3 b0_image b0_before b0_taken b0_tape b0_five b0_value b0_far b0_lead b0_walk b0_ends b0_manX b0_manY b0_dogX b0_dogY b0_row b0_round b0_farOne b0_leads b0_drags b0_from b0_near n2 n3 g0_thrown g0_hasImage g0_remembered g0_taped g0_point g0_end g0_begin g0_deep g0_faultAt g0_steps g0_men g0_dogs f1 f2 f3) sz) (ceX11_points cyI cyB cyJ cyZ a0 a1 a2 a3 b0_image b0_before b0_taken b0_tape b0_five b0_value b0_far b0_lead b0_walk b0_ends b0_manX b0_manY b0_dogX b0_dogY b0_row b0_round b0_farOne b0_leads b0_drags b0_from b0_near n2 n3 g0_thrown g0_hasImage g0_remembered g0_taped g0_point g0_end g0_begin g0_deep g0_faultAt g0_steps g0_men g0_dogs f1 u.1 u.2)) (va_A (ceX11_points cyI cyB cyJ cyZ a0 a1 a2 a3 b0_image b0_before b0_taken b0_tape b0_five b0_value b0_far b0_lead b0_walk b0_ends b0_manX b0_manY b0_dogX b0_dogY b0_row b0_round b0_farOne b0_leads b0_drags b0_from b0_near n2 n3 g0_thrown g0_hasImage g0_remembered g0_taped g0_point g0_end g0_begin g0_deep g0_faultAt g0_steps g0_men g0_dogs f1 f2 f3) sz)) 0 0 (va_A (ceX11_points cyI cyB cyJ cyZ a0 a1 a2 a3 b0_image b0_before b0_taken b0_tape b0_five b0_value b0_far b0_lead b0_walk b0_ends b0_manX b0_manY b0_dogX b0_dogY b0_row b0_round b0_farOne b0_leads b0_drags b0_from b0_near n2 n3 g0_thrown g0_hasImage g0_remembered g0_taped g0_point g0_end g0_begin g0_deep g0_faultAt g0_steps g0_men g0_dogs f1 f2 f3) sz) := by
  refine Met.ofW (cc := cX11_points) (maxL := 10) (ret := (some .int)) (by decide) rfl ?_
  intro p e s m args below meth c s₁ B hml hv
  obtain ⟨rfl, hsz, hP, hK, hD0, hN⟩ := hv
  have hx := B.exec
  have hb := B.bytes
  have hr := B.returns
  have hts := atoms_spec (ws := wsX11_points) B.pre
  have hown : s.vm.findClass RX11 = some m.cls := findClass_of_methodNamed B.named
  have hlocks := B.notSynchronized
  subst hsz
  have hD := hD0.self (sz := s.heap.size)
  generalize hAe : va_A (ceX11_points cyI cyB cyJ cyZ a0 a1 a2 a3 b0_image b0_before b0_taken b0_tape b0_five b0_value b0_far b0_lead b0_walk b0_ends b0_manX b0_manY b0_dogX b0_dogY b0_row b0_round b0_farOne b0_leads b0_drags b0_from b0_near n2 n3 g0_thrown g0_hasImage g0_remembered g0_taped g0_point g0_end g0_begin g0_deep g0_faultAt g0_steps g0_men g0_dogs f1 f2 f3) s.heap.size = A at hD ⊢
  have hA : ∀ q : Nat, s.heap.size ≤ q → A q := fun q h => by rw [← hAe]; exact Or.inr h
  have hS : va_S A s.heap s.heap [] := va_S.rf
  have C0 : cxM p s m meth c _ wsX11_points RX11 cX11_points 10 (some .int) := ⟨hx, hb, hr, hml, hown, hts, hlocks⟩
  have hl := lv_entry ([.ref a0, .int p0, .int p1, .ref a2, .ref a3]) (n := 10) (Nat.le_of_ble_eq_true rfl)
  rw [lg_entry_eq]
  generalize (lg_sl ([.ref a0, .int p0, .int p1, .ref a2, .ref a3]) ++ List.replicate (10 - (lg_sl ([.ref a0, .int p0, .int p1, .ref a2, .ref a3])).length) Slot.unset).toArray = ls at hl ⊢
  have hl : lv_has ls 10 [(0, .ref a0), (1, .int p0), (2, .int p1), (3, .ref a2), (4, .ref a3)] := hl
  show W p l e rmX11_points s m _ below meth c _ _ _ _ _ _
  refine wq (fun Q hQ => ?_)
  refine lv_iload_n hx hb dX11_points_0 rfl (lv_at hl 2 rfl) ?_
  refine lv_aload_n hx hb dX11_points_1 rfl (lv_at hl 0 rfl) ?_
  refine lv_iload_n hx hb dX11_points_2 rfl (lv_at hl 1 rfl) ?_
  have hPc := hP.sub (ws' := (ceX11_cornersOf cyI cyB cyJ cyZ a0 a1 b0_image b0_before b0_taken b0_tape b0_five b0_value b0_far b0_lead b0_walk b0_ends b0_manX b0_manY b0_dogX b0_dogY b0_row b0_round b0_farOne b0_leads b0_drags b0_from b0_near g0_thrown g0_hasImage g0_remembered g0_taped g0_point g0_end g0_begin g0_deep g0_faultAt g0_steps g0_men g0_dogs f1)) [0, 1] rfl
  have hDc := hD.sub (ws' := (ceX11_cornersOf cyI cyB cyJ cyZ a0 a1 b0_image b0_before b0_taken b0_tape b0_five b0_value b0_far b0_lead b0_walk b0_ends b0_manX b0_manY b0_dogX b0_dogY b0_row b0_round b0_farOne b0_leads b0_drags b0_from b0_near g0_thrown g0_hasImage g0_remembered g0_taped g0_point g0_end g0_begin g0_deep g0_faultAt g0_steps g0_men g0_dogs f1)) [0, 1] (by decide) rfl
  have hFc := va_free (wc := (ceX11_cornersOf cyI cyB cyJ cyZ a0 a1 b0_image b0_before b0_taken b0_tape b0_five b0_value b0_far b0_lead b0_walk b0_ends b0_manX b0_manY b0_dogX b0_dogY b0_row b0_round b0_farOne b0_leads b0_drags b0_from b0_near g0_thrown g0_hasImage g0_remembered g0_taped g0_point g0_end g0_begin g0_deep g0_faultAt g0_steps g0_men g0_dogs f1)) hD hS hA [0, 1] rfl
  refine va_calli (va_runV (As := [.int p0]) (rest := [.int p1]) ⟨hx, hb, hml, hown, hts⟩ (ctX11_cornersOf l dC dI cyI cyB cyJ cyZ _ a0 a1 b0_image b0_before b0_taken b0_tape b0_five b0_value b0_far b0_lead b0_walk b0_ends b0_manX b0_manY b0_dogX b0_dogY b0_row b0_round b0_farOne b0_leads b0_drags b0_from b0_near g0_thrown g0_hasImage g0_remembered g0_taped g0_point g0_end g0_begin g0_deep g0_faultAt g0_steps g0_men g0_dogs f1 p0 _ hw) (cwV 1 hts gX11_points_X11_cornersOf rfl rfl rfl (by decide +kernel) ⟨Nat.le_of_ble_eq_true rfl, Nat.le_of_ble_eq_true rfl⟩) ⟨wPre_blind, va_recv hK hPc (ci := 11) (q0 := 0) rfl rfl, fun U hU hW => wPre_of hPc hK hDc hN hU hW⟩ rfl rfl hl.1 rfl (lv_room (Nat.le_of_ble_eq_true rfl)) dX11_points_3 ⟨(Nat.zero_le _), (Nat.zero_le _)⟩) hS (fun q _ h => hFc q h) hFc (fun r2 u1 t H1 locs ht hvm hw hB hz1 hk1 hS => ?_)
  obtain ⟨hP1, hK1, hD1⟩ := hB
  rw [ht] at hP1
  obtain ⟨hP, hD⟩ := va_join (wr := pickW (ceX11_points cyI cyB cyJ cyZ a0 a1 a2 a3 b0_image b0_before b0_taken b0_tape b0_five b0_value b0_far b0_lead b0_walk b0_ends b0_manX b0_manY b0_dogX b0_dogY b0_row b0_round b0_farOne b0_leads b0_drags b0_from b0_near n2 n3 g0_thrown g0_hasImage g0_remembered g0_taped g0_point g0_end g0_begin g0_deep g0_faultAt g0_steps g0_men g0_dogs f1 f2 f3) [2, 3]) (w1 := (ceX11_cornersOf cyI cyB cyJ cyZ a0 a1 b0_image b0_before b0_taken b0_tape b0_five b0_value b0_far b0_lead b0_walk b0_ends b0_manX b0_manY b0_dogX b0_dogY b0_row b0_round b0_farOne b0_leads b0_drags b0_from b0_near g0_thrown g0_hasImage g0_remembered g0_taped g0_point g0_end g0_begin g0_deep g0_faultAt g0_steps g0_men g0_dogs f1)) hP hD [0, 1] [2, 3] rfl rfl (by decide) (by decide) hk1 hFc hP1 hD1
  have hP := hP.sub (ws' := (ceX11_points cyI cyB cyJ cyZ a0 a1 a2 a3 b0_image b0_before b0_taken b0_tape b0_five b0_value b0_far b0_lead b0_walk b0_ends b0_manX b0_manY b0_dogX b0_dogY b0_row b0_round b0_farOne b0_leads b0_drags b0_from b0_near n2 n3 g0_thrown g0_hasImage g0_remembered g0_taped g0_point g0_end g0_begin g0_deep g0_faultAt g0_steps g0_men g0_dogs f1 f2 f3)) [2, 3, 0, 1] rfl
  have hD := hD.sub (ws' := (ceX11_points cyI cyB cyJ cyZ a0 a1 a2 a3 b0_image b0_before b0_taken b0_tape b0_five b0_value b0_far b0_lead b0_walk b0_ends b0_manX b0_manY b0_dogX b0_dogY b0_row b0_round b0_farOne b0_leads b0_drags b0_from b0_near n2 n3 g0_thrown g0_hasImage g0_remembered g0_taped g0_point g0_end g0_begin g0_deep g0_faultAt g0_steps g0_men g0_dogs f1 f2 f3)) [2, 3, 0, 1] (by decide) rfl
  generalize H1 = H at hP hS ⊢
  refine lv_iconst (v := 1) hx hb dX11_points_6 (by decide) ?_
  refine lv_isub hx hb dX11_points_7 ?_
  refine lv_imul hx hb dX11_points_8 ?_
  refine lv_iconst (v := 1) hx hb dX11_points_9 (by decide) ?_
  refine lv_iadd hx hb dX11_points_10 ?_
  refine lv_topi (fun v3 ev3 => ?_)
  have hw := hw v3 ev3
  refine lv_istore (lv' := [(5, .int v3), (0, .ref a0), (1, .int p0), (2, .int p1), (3, .ref a2), (4, .ref a3)]) hx hb dX11_points_11 hl (by decide) rfl (fun ls hl => ?_)
  refine lv_iconst (v := 0) hx hb dX11_points_13 (by decide) ?_
  refine lv_istore (lv' := [(6, .int 0), (5, .int v3), (0, .ref a0), (1, .int p0), (2, .int p1), (3, .ref a2), (4, .ref a3)]) hx hb dX11_points_14 hl (by decide) rfl (fun ls hl => ?_)
  obtain ⟨nn, hw⟩ := hw
  exact bX11_points_16 C0 hK hN hA hQ nn f2 f3 p0 p1 v3 0 hw _ _ hP hD hS ls (lv_sub hl [2, 3, 4, 5, 6, 1, 0] rfl)
