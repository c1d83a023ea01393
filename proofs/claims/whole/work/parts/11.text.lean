/-! texts: what is known of a String constant, and of the statics that its methods read -/
def txO (bs : List Int32) (a : Nat) (A : Nat → Prop) (U : State) (H : Heap) : Prop := ∃ v : Nat, va_O "java/lang/String" a A U H ∧ va_OF "java/lang/String" "coder" "B" (.int 0) a A U H ∧ va_OF "java/lang/String" "value" "[B" (.ref v) a A U H ∧ va_T .byte v bs.length (fun j => .int (bs.getD j 0)) A U H
def txZ (A : Nat → Prop) (U : State) (H : Heap) : Prop := va_Z "java/lang/String" "COMPACT_STRINGS" "Z" (.int 1) A U H ∧ va_Zq "jdk/internal/util/Preconditions" "SIOOBE_FORMATTER" "Ljava/util/function/BiFunction;" A U H
abbrev xT : Type := (Nat → Prop) → State → Heap → Prop
/-- facts that stay: over a call, over what is written in A, over fewer cells -/
def xOk (X : xT) : Prop := (∀ (A : Nat → Prop) (u U : State) (H : Heap), u.vm = U.vm → X A u H → X A U H) ∧ (∀ (A : Nat → Prop) (s U : State) (H : Heap), s.WarmedH U.vm → X A s H → X A U H) ∧ (∀ (A : Nat → Prop) (U : State) (H H1 : Heap), (∀ a : Nat, a < H.size → ¬ A a → H1[a]? = H[a]?) → X A U H → X A U H1) ∧ (∀ (A B : Nat → Prop) (U : State) (H : Heap), (∀ q, B q → A q) → X A U H → X B U H)
theorem xOk.and {X Y : xT} (hX : xOk X) (hY : xOk Y) : xOk (fun A U H => X A U H ∧ Y A U H) := ⟨fun A u U H h q => ⟨hX.1 A u U H h q.1, hY.1 A u U H h q.2⟩, fun A s U H h q => ⟨hX.2.1 A s U H h q.1, hY.2.1 A s U H h q.2⟩, fun A U H H1 h q => ⟨hX.2.2.1 A U H H1 h q.1, hY.2.2.1 A U H H1 h q.2⟩, fun A B U H h q => ⟨hX.2.2.2 A B U H h q.1, hY.2.2.2 A B U H h q.2⟩⟩
theorem al_same {u U : State} (h : u.vm = U.vm) : u.vm.Alike U.vm := by rw [h]; exact Vm.Alike.refl _
theorem xOk_txO (bs : List Int32) (a : Nat) : xOk (txO bs a) :=
  ⟨fun A u U H h ⟨v, h1, h2, h3, h4⟩ => ⟨v, h1.moved (al_same h), h2.moved (al_same h), h3.moved (al_same h), h4.moved (al_same h)⟩,
   fun A s U H hW ⟨v, h1, h2, h3, h4⟩ => ⟨v, h1.moved hW.alike, h2.moved hW.alike, h3.moved hW.alike, h4.moved hW.alike⟩,
   fun A U H H1 hq ⟨v, h1, h2, h3, h4⟩ => ⟨v, h1.kept hq, h2.kept hq, h3.kept hq, h4.kept hq⟩,
   fun A B U H hq ⟨v, h1, h2, h3, h4⟩ => ⟨v, h1.narrow hq, h2.narrow hq, h3.narrow hq, h4.narrow hq⟩⟩
theorem xOk_txZ : xOk txZ :=
  ⟨fun A u U H h ⟨h1, h2⟩ => ⟨h1.moved (al_same h), h2.moved (al_same h)⟩, fun A s U H hW ⟨h1, h2⟩ => ⟨h1.moved hW.alike, h2.moved hW.alike⟩, fun A U H H1 hq ⟨h1, h2⟩ => ⟨h1.kept hq, h2.kept hq⟩, fun A B U H hq ⟨h1, h2⟩ => ⟨h1.narrow hq, h2.narrow hq⟩⟩
abbrev txS (bs : List Int32) (a : Nat) : xT := fun A U H => txZ A U H ∧ txO bs a A U H
theorem xOk_txS (bs : List Int32) (a : Nat) : xOk (txS bs a) := xOk_txZ.and (xOk_txO bs a)
abbrev txB (v N : Nat) (f : Nat → Value) : xT := fun A U H => txZ A U H ∧ va_T .byte v N f A U H
theorem xOk_txB (v N : Nat) (f : Nat → Value) : xOk (txB v N f) := xOk_txZ.and ⟨fun A u U H h q => q.moved (al_same h), fun A s U H hW q => q.moved hW.alike, fun A U H H1 hq q => q.kept hq, fun A B U H hq q => q.narrow hq⟩
def txW : List (String × Nat × String × List Int32) := [(RX1, 77, "way", [119, 97, 121]), (RX1, 87, "more", [109, 111, 114, 101]), (RX1, 95, "wall", [119, 97, 108, 108]), (RX2, 56, "bar", [98, 97, 114]), (RX2, 65, "if", [105, 102]), (RX2, 82, "and", [97, 110, 100]), (RX2, 84, "or", [111, 114]), (RX2, 86, "not", [110, 111, 116]), (RX2, 106, "man", [109, 97, 110]), (RX2, 108, "dog", [100, 111, 103]), (RX2, 110, "far", [102, 97, 114]), (RX2, 112, "mx", [109, 120]), (RX2, 114, "my", [109, 121]), (RX2, 116, "dx", [100, 120]), (RX2, 118, "dy", [100, 121]), (RX11, 155, "way", [119, 97, 121]), (RX11, 161, "wall", [119, 97, 108, 108]), (RX11, 166, "more", [109, 111, 114, 101]), (RX11, 176, "man", [109, 97, 110]), (RX11, 178, "dog", [100, 111, 103]), (RX11, 180, "far", [102, 97, 114]), (RX11, 181, "mx", [109, 120]), (RX11, 183, "my", [109, 121]), (RX11, 185, "dx", [100, 120]), (RX11, 187, "dy", [100, 121]), (RX11, 201, "not", [110, 111, 116]), (RX11, 212, "and", [97, 110, 100]), (RX11, 217, "or", [111, 114]), (RX11, 219, "bar", [98, 97, 114]), (RX11, 221, "if", [105, 102]), (RX10, 104, "the text of the park is wrong", [116, 104, 101, 32, 116, 101, 120, 116, 32, 111, 102, 32, 116, 104, 101, 32, 112, 97, 114, 107, 32, 105, 115, 32, 119, 114, 111, 110, 103]), (RX10, 114, "there are 16 texts of the park", [116, 104, 101, 114, 101, 32, 97, 114, 101, 32, 49, 54, 32, 116, 101, 120, 116, 115, 32, 111, 102, 32, 116, 104, 101, 32, 112, 97, 114, 107]), (RX10, 127, "the text of the law is wrong", [116, 104, 101, 32, 116, 101, 120, 116, 32, 111, 102, 32, 116, 104, 101, 32, 108, 97, 119, 32, 105, 115, 32, 119, 114, 111, 110, 103]), (RX10, 167, "no such step", [110, 111, 32, 115, 117, 99, 104, 32, 115, 116, 101, 112]), (RX10, 180, "no lead, or no steps", [110, 111, 32, 108, 101, 97, 100, 44, 32, 111, 114, 32, 110, 111, 32, 115, 116, 101, 112, 115]), (RX10, 195, "an edge cannot be parted so", [97, 110, 32, 101, 100, 103, 101, 32, 99, 97, 110, 110, 111, 116, 32, 98, 101, 32, 112, 97, 114, 116, 101, 100, 32, 115, 111]), (RX10, 235, "no lead is below 0", [110, 111, 32, 108, 101, 97, 100, 32, 105, 115, 32, 98, 101, 108, 111, 119, 32, 48]), (RX10, 247, "no such minute or point", [110, 111, 32, 115, 117, 99, 104, 32, 109, 105, 110, 117, 116, 101, 32, 111, 114, 32, 112, 111, 105, 110, 116]), (RX10, 256, "there are 20 marks", [116, 104, 101, 114, 101, 32, 97, 114, 101, 32, 50, 48, 32, 109, 97, 114, 107, 115]), (RX10, 265, "no such length or pace", [110, 111, 32, 115, 117, 99, 104, 32, 108, 101, 110, 103, 116, 104, 32, 111, 114, 32, 112, 97, 99, 101]), (RX10, 286, "so many steps are not drawn", [115, 111, 32, 109, 97, 110, 121, 32, 115, 116, 101, 112, 115, 32, 97, 114, 101, 32, 110, 111, 116, 32, 100, 114, 97, 119, 110]), (RX10, 293, "a walk tells no such thing", [97, 32, 119, 97, 108, 107, 32, 116, 101, 108, 108, 115, 32, 110, 111, 32, 115, 117, 99, 104, 32, 116, 104, 105, 110, 103]), (RX10, 319, "no such way", [110, 111, 32, 115, 117, 99, 104, 32, 119, 97, 121]), (RX10, 325, "no such corner", [110, 111, 32, 115, 117, 99, 104, 32, 99, 111, 114, 110, 101, 114])]
/-- all the texts of the three files that load some -/
def txA (adS : Nat → Nat) : xT := fun A U H => txZ A U H ∧ ∀ (i : Nat) (q : String × Nat × String × List Int32), txW[i]? = some q → vk_R q.1 q.2.1 q.2.2.1 (adS i) U ∧ txO q.2.2.2 (adS i) A U H
theorem xOk_txA (adS : Nat → Nat) : xOk (txA adS) :=
  ⟨fun A u U H h q => ⟨xOk_txZ.1 A u U H h q.1, fun i x hx => ⟨(q.2 i x hx).1.same h.symm, (xOk_txO _ _).1 A u U H h (q.2 i x hx).2⟩⟩,
   fun A s U H hW q => ⟨xOk_txZ.2.1 A s U H hW q.1, fun i x hx => ⟨(q.2 i x hx).1.warm hW, (xOk_txO _ _).2.1 A s U H hW (q.2 i x hx).2⟩⟩,
   fun A U H H1 hq q => ⟨xOk_txZ.2.2.1 A U H H1 hq q.1, fun i x hx => ⟨(q.2 i x hx).1, (xOk_txO _ _).2.2.1 A U H H1 hq (q.2 i x hx).2⟩⟩,
   fun A B U H hq q => ⟨xOk_txZ.2.2.2 A B U H hq q.1, fun i x hx => ⟨(q.2 i x hx).1, (xOk_txO _ _).2.2.2 A B U H hq (q.2 i x hx).2⟩⟩⟩
def wPreX (dC : Nat → ClassId) (dI : Nat → Nat → Nat) (cyI cyB cyJ cyZ : ClassId) (sz : Nat) (ws : va_W) (X : xT) (U : State) : Prop := wPre dC dI cyI cyB cyJ cyZ sz ws U ∧ X (va_A ws sz) U U.heap
theorem wPreX_blind {av : List Value} {dC : Nat → ClassId} {dI : Nat → Nat → Nat} {cyI cyB cyJ cyZ : ClassId} {sz : Nat} {ws : va_W} {X : xT} (hX : xOk X) : FrameBlind (va_Pc av (wPreX dC dI cyI cyB cyJ cyZ sz ws X)) := fun a U g mk q => by
  obtain ⟨q0, q1, q2⟩ := q
  exact ⟨q0, (wPre_blind (av := av) a U g mk ⟨q0, q1⟩).2, hX.1 _ U (U.calling g mk a) _ rfl q2⟩
theorem wPreX_of {av : List Value} {dC : Nat → ClassId} {dI : Nat → Nat → Nat} {cyI cyB cyJ cyZ : ClassId} {ws : va_W} {s U : State} {H : Heap} {locs : List Loc} {A : Nat → Prop} {X : xT} (hX : xOk X) (hP : va_P (dC, dI) vwCl ws H) (hK : va_K (dC, dI) vwCl (tyA cyI cyB cyJ cyZ) s) (hD : va_D A ws) (hN : nwA s) (hXs : X A s s.heap) (hS : va_S A s.heap H locs) (hF : ∀ q, va_A ws H.size q → A q) (hU : U.heap = H) (hW : s.WarmedH U.vm) : va_Pc av (wPreX dC dI cyI cyB cyJ cyZ H.size ws X) av.toArray U :=
  ⟨rfl, (wPre_of (av := av) hP hK hD hN hU hW).2, by rw [hU]; exact hX.2.2.2 _ _ _ _ hF (hX.2.1 _ _ _ _ hW (hX.2.2.1 _ _ _ _ hS.2.1 hXs))⟩
abbrev rmJ0_coder_7d493 : Room := { frames := 0, cells := 0, slots := 0, locals := 0 }
set_option maxRecDepth 100000 in
set_option maxHeartbeats 4000000 in
theorem ctJ0_coder_7d493 (l : Launch) (dC : Nat → ClassId) (dI : Nat → Nat → Nat) (cyI cyB cyJ cyZ : ClassId) (sz : Nat) (bs : List Int32) (a : Nat) (post : Int32 → Unit → Prop) (hw : post 0 ()) : Met l yJ0_coder_7d493 wsJ0_coder_7d493 rmJ0_coder_7d493 (va_Pc [.ref a] (wPreX dC dI cyI cyB cyJ cyZ sz [] (txS bs a))) (va_Qi post (fun u : Unit => wAt dC dI cyI cyB cyJ cyZ (va_A [] sz) []) (va_A [] sz)) 0 0 (va_A [] sz) := by
  refine Met.ofW (cc := cJ0_coder_7d493) (maxL := 1) (ret := (some .byte)) (by decide) rfl ?_
  intro p e s m args below meth c s₁ B hml hv
  obtain ⟨rfl, ⟨hsz, hP, hK, hD0, hN⟩, hXs⟩ := hv
  have hx := B.exec
  have hb := B.bytes
  have hr := B.returns
  have hts := atoms_spec (ws := wsJ0_coder_7d493) B.pre
  have hown : s.vm.findClass RJ0 = some m.cls := findClass_of_methodNamed B.named
  have hlocks := B.notSynchronized
  subst hsz
  have hD := hD0.self (sz := s.heap.size)
  generalize hAe : va_A [] s.heap.size = A at hD hXs ⊢
  have hA : ∀ q : Nat, s.heap.size ≤ q → A q := fun q h => by rw [← hAe]; exact Or.inr h
  have hS : va_S A s.heap s.heap [] := va_S.rf
  have hl := lv_entry ([.ref a]) (n := 1) (Nat.le_of_ble_eq_true rfl)
  rw [lg_entry_eq]
  generalize (lg_sl ([.ref a]) ++ List.replicate (1 - (lg_sl ([.ref a])).length) Slot.unset).toArray = ls at hl ⊢
  have hl : lv_has ls 1 [(0, .ref a)] := hl
  show W p l e rmJ0_coder_7d493 s m _ below meth c _ _ _ _ _ _
  obtain ⟨hZ, v0, hO, hC, hV, hT⟩ := id hXs
  refine va_gets hx hb hXs.1.1 hS hown (hts (.fieldLink RJ0 38 "java/lang/String" "COMPACT_STRINGS" "Z") (List.mem_of_getElem? (i := 1) rfl)) (fun _ h9 => h9) dJ0_coder_7d493_0 ?_
  refine lv_if_eq (tgt := 13) hx hb dJ0_coder_7d493_3 (by decide) (fun hc => absurd hc (by decide)) (fun hc => ?_)
  refine lv_aload_n hx hb dJ0_coder_7d493_6 rfl (lv_at hl 0 rfl) ?_
  refine vk_getf hx hb hC hS hown (hts (.fieldLink RJ0 15 "java/lang/String" "coder" "B") (List.mem_of_getElem? (i := 2) rfl)) (fun _ h9 => h9) dJ0_coder_7d493_7 ?_
  refine lv_goto (tgt := 14) hx hb dJ0_coder_7d493_10 (by decide) ?_
  exact W.zret (v := 0) (ty := .byte) hx hb hr rfl (fun t ht hW => ⟨⟨0, (), rfl, hw, by rw [ht]; exact hP, va_K.moved hW.alike hK, hD⟩, hS.F ht⟩) hS.2.2 dJ0_coder_7d493_14
abbrev rmJ0_isLatin1_aae02 : Room := { frames := 0, cells := 0, slots := 0, locals := 0 }
set_option maxRecDepth 100000 in
set_option maxHeartbeats 4000000 in
theorem ctJ0_isLatin1_aae02 (l : Launch) (dC : Nat → ClassId) (dI : Nat → Nat → Nat) (cyI cyB cyJ cyZ : ClassId) (sz : Nat) (bs : List Int32) (a : Nat) (post : Int32 → Unit → Prop) (hw : post 1 ()) : Met l yJ0_isLatin1_aae02 wsJ0_isLatin1_aae02 rmJ0_isLatin1_aae02 (va_Pc [.ref a] (wPreX dC dI cyI cyB cyJ cyZ sz [] (txS bs a))) (va_Qi post (fun u : Unit => wAt dC dI cyI cyB cyJ cyZ (va_A [] sz) []) (va_A [] sz)) 0 0 (va_A [] sz) := by
  refine Met.ofW (cc := cJ0_isLatin1_aae02) (maxL := 1) (ret := (some .boolean)) (by decide) rfl ?_
  intro p e s m args below meth c s₁ B hml hv
  obtain ⟨rfl, ⟨hsz, hP, hK, hD0, hN⟩, hXs⟩ := hv
  have hx := B.exec
  have hb := B.bytes
  have hr := B.returns
  have hts := atoms_spec (ws := wsJ0_isLatin1_aae02) B.pre
  have hown : s.vm.findClass RJ0 = some m.cls := findClass_of_methodNamed B.named
  have hlocks := B.notSynchronized
  subst hsz
  have hD := hD0.self (sz := s.heap.size)
  generalize hAe : va_A [] s.heap.size = A at hD hXs ⊢
  have hA : ∀ q : Nat, s.heap.size ≤ q → A q := fun q h => by rw [← hAe]; exact Or.inr h
  have hS : va_S A s.heap s.heap [] := va_S.rf
  have hl := lv_entry ([.ref a]) (n := 1) (Nat.le_of_ble_eq_true rfl)
  rw [lg_entry_eq]
  generalize (lg_sl ([.ref a]) ++ List.replicate (1 - (lg_sl ([.ref a])).length) Slot.unset).toArray = ls at hl ⊢
  have hl : lv_has ls 1 [(0, .ref a)] := hl
  show W p l e rmJ0_isLatin1_aae02 s m _ below meth c _ _ _ _ _ _
  obtain ⟨hZ, v0, hO, hC, hV, hT⟩ := id hXs
  refine va_gets hx hb hXs.1.1 hS hown (hts (.fieldLink RJ0 38 "java/lang/String" "COMPACT_STRINGS" "Z") (List.mem_of_getElem? (i := 1) rfl)) (fun _ h9 => h9) dJ0_isLatin1_aae02_0 ?_
  refine lv_if_eq (tgt := 17) hx hb dJ0_isLatin1_aae02_3 (by decide) (fun hc => absurd hc (by decide)) (fun hc => ?_)
  refine lv_aload_n hx hb dJ0_isLatin1_aae02_6 rfl (lv_at hl 0 rfl) ?_
  refine vk_getf hx hb hC hS hown (hts (.fieldLink RJ0 15 "java/lang/String" "coder" "B") (List.mem_of_getElem? (i := 2) rfl)) (fun _ h9 => h9) dJ0_isLatin1_aae02_7 ?_
  refine lv_if_ne (tgt := 17) hx hb dJ0_isLatin1_aae02_10 (by decide) (fun hc => absurd rfl hc) (fun hc => ?_)
  refine lv_iconst (v := 1) hx hb dJ0_isLatin1_aae02_13 (by decide) ?_
  refine lv_goto (tgt := 18) hx hb dJ0_isLatin1_aae02_14 (by decide) ?_
  exact W.zret (v := 1) (ty := .boolean) hx hb hr rfl (fun t ht hW => ⟨⟨1, (), rfl, hw, by rw [ht]; exact hP, va_K.moved hW.alike hK, hD⟩, hS.F ht⟩) hS.2.2 dJ0_isLatin1_aae02_18
abbrev rmJ0_length_8abf5 : Room := { frames := 1, cells := 0, slots := 0, locals := 20 }
set_option maxRecDepth 100000 in
set_option maxHeartbeats 4000000 in
theorem ctJ0_length_8abf5 (l : Launch) (dC : Nat → ClassId) (dI : Nat → Nat → Nat) (cyI cyB cyJ cyZ : ClassId) (sz : Nat) (bs : List Int32) (a : Nat) (post : Int32 → Unit → Prop) (hw0 : post (nI bs.length) ()) : Met l yJ0_length_8abf5 wsJ0_length_8abf5 rmJ0_length_8abf5 (va_Pc [.ref a] (wPreX dC dI cyI cyB cyJ cyZ sz [] (txS bs a))) (va_Qi post (fun u : Unit => wAt dC dI cyI cyB cyJ cyZ (va_A [] sz) []) (va_A [] sz)) 0 0 (va_A [] sz) := by
  refine Met.ofW (cc := cJ0_length_8abf5) (maxL := 1) (ret := (some .int)) (by decide) rfl ?_
  intro p e s m args below meth c s₁ B hml hv
  obtain ⟨rfl, ⟨hsz, hP, hK, hD0, hN⟩, hXs⟩ := hv
  have hx := B.exec
  have hb := B.bytes
  have hr := B.returns
  have hts := atoms_spec (ws := wsJ0_length_8abf5) B.pre
  have hown : s.vm.findClass RJ0 = some m.cls := findClass_of_methodNamed B.named
  have hlocks := B.notSynchronized
  subst hsz
  have hD := hD0.self (sz := s.heap.size)
  generalize hAe : va_A [] s.heap.size = A at hD hXs ⊢
  have hA : ∀ q : Nat, s.heap.size ≤ q → A q := fun q h => by rw [← hAe]; exact Or.inr h
  have hS : va_S A s.heap s.heap [] := va_S.rf
  have hl := lv_entry ([.ref a]) (n := 1) (Nat.le_of_ble_eq_true rfl)
  rw [lg_entry_eq]
  generalize (lg_sl ([.ref a]) ++ List.replicate (1 - (lg_sl ([.ref a])).length) Slot.unset).toArray = ls at hl ⊢
  have hl : lv_has ls 1 [(0, .ref a)] := hl
  show W p l e rmJ0_length_8abf5 s m _ below meth c _ _ _ _ _ _
  obtain ⟨hZ, v0, hO, hC, hV, hT⟩ := id hXs
  refine lv_aload_n hx hb dJ0_length_8abf5_0 rfl (lv_at hl 0 rfl) ?_
  refine vk_getf hx hb hV hS hown (hts (.fieldLink RJ0 9 "java/lang/String" "value" "[B") (List.mem_of_getElem? (i := 1) rfl)) (fun _ h9 => h9) dJ0_length_8abf5_1 ?_
  refine va_tlen hx hb hT hS rfl dJ0_length_8abf5_4 ?_
  refine lv_aload_n hx hb dJ0_length_8abf5_5 rfl (lv_at hl 0 rfl) ?_
  have hPc := hP.sub (ws' := []) [] rfl
  have hDc := hD.sub (ws' := []) [] (by decide) rfl
  have hFc := va_free (wc := []) hD hS hA [] rfl
  refine va_calli (va_runV (As := []) (rest := [.int (Int32.ofNat bs.length)]) ⟨hx, hb, hml, hown, hts⟩ (ctJ0_coder_7d493 l dC dI cyI cyB cyJ cyZ _ bs a (fun r _ => r = 0) rfl) (cwV 0 hts gJ0_length_8abf5_J0_coder_7d493 rfl rfl rfl (by decide +kernel) ⟨Nat.le_of_ble_eq_true rfl, Nat.le_of_ble_eq_true rfl⟩) ⟨wPreX_blind (xOk_txS bs a), by obtain ⟨cell, c1, c2, c3, c4⟩ := hO; exact ⟨cell, by rw [hS.2.1 _ (Array.getElem?_eq_some_iff.mp c1).1 c4]; exact c1, c2, c3⟩, fun U hU hW => wPreX_of (xOk_txS bs a) hPc hK hDc hN (hXs) hS hFc hU hW⟩ rfl rfl hl.1 rfl (lv_room (Nat.le_of_ble_eq_true rfl)) dJ0_length_8abf5_6 ⟨(Nat.zero_le _), (Nat.zero_le _)⟩) hS (fun q _ h => hFc q h) hFc (fun r1 u t H1 locs ht hvm hw hB hz1 hk1 hS => ?_)
  obtain ⟨hP1, hK1, hD1⟩ := hB
  rw [ht] at hP1
  have hP := hP1
  generalize H1 = H at hP hS ⊢
  subst hw
  refine lv_ishr hx hb dJ0_length_8abf5_9 ?_
  have hw : post (Int32.ofNat bs.length >>> ((0 : Int32) &&& 31)) () := by rw [sb_shr0]; exact hw0
  exact W.iret (v := Int32.ofNat bs.length >>> ((0 : Int32) &&& 31)) hx hb hr (fun t ht hW => ⟨⟨Int32.ofNat bs.length >>> ((0 : Int32) &&& 31), (), rfl, hw, by rw [ht]; exact hP, va_K.moved hW.alike hK, hD⟩, hS.F ht⟩) hS.2.2 dJ0_length_8abf5_10
abbrev rmJ3_checkIndex_8e157 : Room := { frames := 0, cells := 0, slots := 0, locals := 0 }
set_option maxRecDepth 100000 in
set_option maxHeartbeats 4000000 in
theorem ctJ3_checkIndex_8e157 (l : Launch) (dC : Nat → ClassId) (dI : Nat → Nat → Nat) (cyI cyB cyJ cyZ : ClassId) (sz : Nat) (z : Nat) (i n : Int32) (h0 : ¬ i < 0) (h1 : i < n) (post : Int32 → Unit → Prop) (hw : post i ()) : Met l yJ3_checkIndex_8e157 wsJ3_checkIndex_8e157 rmJ3_checkIndex_8e157 (va_Pc [.int i, .int n, .ref z] (wPreX dC dI cyI cyB cyJ cyZ sz [] (fun _ _ _ => True))) (va_Qi post (fun u : Unit => wAt dC dI cyI cyB cyJ cyZ (va_A [] sz) []) (va_A [] sz)) 0 0 (va_A [] sz) := by
  refine Met.ofW (cc := cJ3_checkIndex_8e157) (maxL := 3) (ret := (some .int)) (by decide) rfl ?_
  intro p e s m args below meth c s₁ B hml hv
  obtain ⟨rfl, ⟨hsz, hP, hK, hD0, hN⟩, hXs⟩ := hv
  have hx := B.exec
  have hb := B.bytes
  have hr := B.returns
  have hts := atoms_spec (ws := wsJ3_checkIndex_8e157) B.pre
  have hown : s.vm.findClass RJ3 = some m.cls := findClass_of_methodNamed B.named
  have hlocks := B.notSynchronized
  subst hsz
  have hD := hD0.self (sz := s.heap.size)
  generalize hAe : va_A [] s.heap.size = A at hD hXs ⊢
  have hA : ∀ q : Nat, s.heap.size ≤ q → A q := fun q h => by rw [← hAe]; exact Or.inr h
  have hS : va_S A s.heap s.heap [] := va_S.rf
  have hl := lv_entry ([.int i, .int n, .ref z]) (n := 3) (Nat.le_of_ble_eq_true rfl)
  rw [lg_entry_eq]
  generalize (lg_sl ([.int i, .int n, .ref z]) ++ List.replicate (3 - (lg_sl ([.int i, .int n, .ref z])).length) Slot.unset).toArray = ls at hl ⊢
  have hl : lv_has ls 3 [(0, .int i), (1, .int n), (2, .ref z)] := hl
  show W p l e rmJ3_checkIndex_8e157 s m _ below meth c _ _ _ _ _ _
  refine lv_iload_n hx hb dJ3_checkIndex_8e157_0 rfl (lv_at hl 0 rfl) ?_
  refine lv_if_lt (tgt := 9) hx hb dJ3_checkIndex_8e157_1 (by decide) (fun hc => absurd hc h0) (fun hc => ?_)
  refine lv_iload_n hx hb dJ3_checkIndex_8e157_4 rfl (lv_at hl 0 rfl) ?_
  refine lv_iload_n hx hb dJ3_checkIndex_8e157_5 rfl (lv_at hl 1 rfl) ?_
  refine lv_icmp_lt (tgt := 16) hx hb dJ3_checkIndex_8e157_6 (by decide) (fun hc => ?_) (fun hc => absurd h1 hc)
  refine lv_iload_n hx hb dJ3_checkIndex_8e157_16 rfl (lv_at hl 0 rfl) ?_
  exact W.iret (v := i) hx hb hr (fun t ht hW => ⟨⟨i, (), rfl, hw, by rw [ht]; exact hP, va_K.moved hW.alike hK, hD⟩, hS.F ht⟩) hS.2.2 dJ3_checkIndex_8e157_17
abbrev rmJ3_checkIndex_8e157n : Room := { frames := 0, cells := 0, slots := 0, locals := 0 }
set_option maxRecDepth 100000 in
set_option maxHeartbeats 4000000 in
theorem ctJ3_checkIndex_8e157n (l : Launch) (dC : Nat → ClassId) (dI : Nat → Nat → Nat) (cyI cyB cyJ cyZ : ClassId) (sz : Nat) (i n : Int32) (h0 : ¬ i < 0) (h1 : i < n) (post : Int32 → Unit → Prop) (hw : post i ()) : Met l yJ3_checkIndex_8e157 wsJ3_checkIndex_8e157 rmJ3_checkIndex_8e157n (va_Pc [.int i, .int n, .null] (wPreX dC dI cyI cyB cyJ cyZ sz [] (fun _ _ _ => True))) (va_Qi post (fun u : Unit => wAt dC dI cyI cyB cyJ cyZ (va_A [] sz) []) (va_A [] sz)) 0 0 (va_A [] sz) := by
  refine Met.ofW (cc := cJ3_checkIndex_8e157) (maxL := 3) (ret := (some .int)) (by decide) rfl ?_
  intro p e s m args below meth c s₁ B hml hv
  obtain ⟨rfl, ⟨hsz, hP, hK, hD0, hN⟩, hXs⟩ := hv
  have hx := B.exec
  have hb := B.bytes
  have hr := B.returns
  have hts := atoms_spec (ws := wsJ3_checkIndex_8e157) B.pre
  have hown : s.vm.findClass RJ3 = some m.cls := findClass_of_methodNamed B.named
  have hlocks := B.notSynchronized
  subst hsz
  have hD := hD0.self (sz := s.heap.size)
  generalize hAe : va_A [] s.heap.size = A at hD hXs ⊢
  have hA : ∀ q : Nat, s.heap.size ≤ q → A q := fun q h => by rw [← hAe]; exact Or.inr h
  have hS : va_S A s.heap s.heap [] := va_S.rf
  have hl := lv_entry ([.int i, .int n, .null]) (n := 3) (Nat.le_of_ble_eq_true rfl)
  rw [lg_entry_eq]
  generalize (lg_sl ([.int i, .int n, .null]) ++ List.replicate (3 - (lg_sl ([.int i, .int n, .null])).length) Slot.unset).toArray = ls at hl ⊢
  have hl : lv_has ls 3 [(0, .int i), (1, .int n), (2, .null)] := hl
  show W p l e rmJ3_checkIndex_8e157n s m _ below meth c _ _ _ _ _ _
  refine lv_iload_n hx hb dJ3_checkIndex_8e157_0 rfl (lv_at hl 0 rfl) ?_
  refine lv_if_lt (tgt := 9) hx hb dJ3_checkIndex_8e157_1 (by decide) (fun hc => absurd hc h0) (fun hc => ?_)
  refine lv_iload_n hx hb dJ3_checkIndex_8e157_4 rfl (lv_at hl 0 rfl) ?_
  refine lv_iload_n hx hb dJ3_checkIndex_8e157_5 rfl (lv_at hl 1 rfl) ?_
  refine lv_icmp_lt (tgt := 16) hx hb dJ3_checkIndex_8e157_6 (by decide) (fun hc => ?_) (fun hc => absurd h1 hc)
  refine lv_iload_n hx hb dJ3_checkIndex_8e157_16 rfl (lv_at hl 0 rfl) ?_
  exact W.iret (v := i) hx hb hr (fun t ht hW => ⟨⟨i, (), rfl, hw, by rw [ht]; exact hP, va_K.moved hW.alike hK, hD⟩, hS.F ht⟩) hS.2.2 dJ3_checkIndex_8e157_17
theorem xOk_tt : xOk (fun _ _ _ => True) := ⟨fun _ _ _ _ _ q => q, fun _ _ _ _ _ q => q, fun _ _ _ _ _ q => q, fun _ _ _ _ _ q => q⟩
abbrev rmJ0_checkIndex_df160 : Room := { frames := 1, cells := 0, slots := 0, locals := 22 }
set_option maxRecDepth 100000 in
set_option maxHeartbeats 4000000 in
theorem ctJ0_checkIndex_df160 (l : Launch) (dC : Nat → ClassId) (dI : Nat → Nat → Nat) (cyI cyB cyJ cyZ : ClassId) (sz : Nat) (i n : Int32) (h0 : ¬ i < 0) (h1 : i < n) (post : Unit → Prop) (hw0 : post ()) : Met l yJ0_checkIndex_df160 wsJ0_checkIndex_df160 rmJ0_checkIndex_df160 (va_Pc [.int i, .int n] (wPreX dC dI cyI cyB cyJ cyZ sz [] (txZ))) (va_Qv post (fun u : Unit => wAt dC dI cyI cyB cyJ cyZ (va_A [] sz) []) (va_A [] sz)) 0 0 (va_A [] sz) := by
  refine Met.ofW (cc := cJ0_checkIndex_df160) (maxL := 2) (ret := none) (by decide) rfl ?_
  intro p e s m args below meth c s₁ B hml hv
  obtain ⟨rfl, ⟨hsz, hP, hK, hD0, hN⟩, hXs⟩ := hv
  have hx := B.exec
  have hb := B.bytes
  have hr := B.returns
  have hts := atoms_spec (ws := wsJ0_checkIndex_df160) B.pre
  have hown : s.vm.findClass RJ0 = some m.cls := findClass_of_methodNamed B.named
  have hlocks := B.notSynchronized
  subst hsz
  have hD := hD0.self (sz := s.heap.size)
  generalize hAe : va_A [] s.heap.size = A at hD hXs ⊢
  have hA : ∀ q : Nat, s.heap.size ≤ q → A q := fun q h => by rw [← hAe]; exact Or.inr h
  have hS : va_S A s.heap s.heap [] := va_S.rf
  have hl := lv_entry ([.int i, .int n]) (n := 2) (Nat.le_of_ble_eq_true rfl)
  rw [lg_entry_eq]
  generalize (lg_sl ([.int i, .int n]) ++ List.replicate (2 - (lg_sl ([.int i, .int n])).length) Slot.unset).toArray = ls at hl ⊢
  have hl : lv_has ls 2 [(0, .int i), (1, .int n)] := hl
  show W p l e rmJ0_checkIndex_df160 s m _ below meth c _ _ _ _ _ _
  refine lv_iload_n hx hb dJ0_checkIndex_df160_0 rfl (lv_at hl 0 rfl) ?_
  refine lv_iload_n hx hb dJ0_checkIndex_df160_1 rfl (lv_at hl 1 rfl) ?_
  rcases hXs.2 with hz | ⟨z, hz⟩
  · refine va_gets hx hb hz hS hown (hts (.fieldLink RJ0 1053 "jdk/internal/util/Preconditions" "SIOOBE_FORMATTER" "Ljava/util/function/BiFunction;") (List.mem_of_getElem? (i := 1) rfl)) (fun _ h9 => h9) dJ0_checkIndex_df160_2 ?_
    have hPc := hP.sub (ws' := []) [] rfl
    have hDc := hD.sub (ws' := []) [] (by decide) rfl
    have hFc := va_free (wc := []) hD hS hA [] rfl
    refine va_calli (va_runS (As := [.int i, .int n, .null]) (rest := []) ⟨hx, hb, hml, hown, hts⟩ (ctJ3_checkIndex_8e157n l dC dI cyI cyB cyJ cyZ _ i n h0 h1 (fun _ _ => True) trivial) (va_cwS 3 hts gJ0_checkIndex_df160_J3_checkIndex_8e157 rfl rfl rfl (by decide +kernel) ⟨Nat.le_of_ble_eq_true rfl, Nat.le_of_ble_eq_true rfl⟩) ⟨wPreX_blind (xOk_tt), fun U hU hW => wPreX_of (xOk_tt) hPc hK hDc hN (trivial) hS hFc hU hW⟩ rfl rfl hl.1 rfl (lv_room (Nat.le_of_ble_eq_true rfl)) dJ0_checkIndex_df160_5 ⟨(Nat.zero_le _), (Nat.zero_le _)⟩) hS (fun q _ h => hFc q h) hFc (fun r1 u t H1 locs ht hvm hw hB hz1 hk1 hS => ?_)
    obtain ⟨hP1, hK1, hD1⟩ := hB
    rw [ht] at hP1
    have hP := hP1
    generalize H1 = H at hP hS ⊢
    refine lv_pop hx hb dJ0_checkIndex_df160_8 rfl ?_
    exact W.vret hx hb hr (fun t ht hW => ⟨⟨(), rfl, hw0, by rw [ht]; exact hP, va_K.moved hW.alike hK, hD⟩, hS.F ht⟩) hS.2.2 dJ0_checkIndex_df160_9
  · refine va_gets hx hb hz hS hown (hts (.fieldLink RJ0 1053 "jdk/internal/util/Preconditions" "SIOOBE_FORMATTER" "Ljava/util/function/BiFunction;") (List.mem_of_getElem? (i := 1) rfl)) (fun _ h9 => h9) dJ0_checkIndex_df160_2 ?_
    have hPc := hP.sub (ws' := []) [] rfl
    have hDc := hD.sub (ws' := []) [] (by decide) rfl
    have hFc := va_free (wc := []) hD hS hA [] rfl
    refine va_calli (va_runS (As := [.int i, .int n, .ref z]) (rest := []) ⟨hx, hb, hml, hown, hts⟩ (ctJ3_checkIndex_8e157 l dC dI cyI cyB cyJ cyZ _ z i n h0 h1 (fun _ _ => True) trivial) (va_cwS 3 hts gJ0_checkIndex_df160_J3_checkIndex_8e157 rfl rfl rfl (by decide +kernel) ⟨Nat.le_of_ble_eq_true rfl, Nat.le_of_ble_eq_true rfl⟩) ⟨wPreX_blind (xOk_tt), fun U hU hW => wPreX_of (xOk_tt) hPc hK hDc hN (trivial) hS hFc hU hW⟩ rfl rfl hl.1 rfl (lv_room (Nat.le_of_ble_eq_true rfl)) dJ0_checkIndex_df160_5 ⟨(Nat.zero_le _), (Nat.zero_le _)⟩) hS (fun q _ h => hFc q h) hFc (fun r1 u t H1 locs ht hvm hw hB hz1 hk1 hS => ?_)
    obtain ⟨hP1, hK1, hD1⟩ := hB
    rw [ht] at hP1
    have hP := hP1
    generalize H1 = H at hP hS ⊢
    refine lv_pop hx hb dJ0_checkIndex_df160_8 rfl ?_
    exact W.vret hx hb hr (fun t ht hW => ⟨⟨(), rfl, hw0, by rw [ht]; exact hP, va_K.moved hW.alike hK, hD⟩, hS.F ht⟩) hS.2.2 dJ0_checkIndex_df160_9
abbrev rmJ1_charAt_3b067 : Room := { frames := 2, cells := 0, slots := 0, locals := 43 }
set_option maxRecDepth 100000 in
set_option maxHeartbeats 4000000 in
theorem ctJ1_charAt_3b067 (l : Launch) (dC : Nat → ClassId) (dI : Nat → Nat → Nat) (cyI cyB cyJ cyZ : ClassId) (sz : Nat) (bs : List Int32) (v0 : Nat) (i : Int32) (hb31 : bs.length < 2 ^ 31) (hi : vp_in i bs.length) (post : Int32 → Unit → Prop) (hw0 : post (txC (bs.getD i.toNatClampNeg 0)) ()) : Met l yJ1_charAt_3b067 wsJ1_charAt_3b067 rmJ1_charAt_3b067 (va_Pc [.ref v0, .int i] (wPreX dC dI cyI cyB cyJ cyZ sz [] (txB v0 bs.length (fun j => .int (bs.getD j 0))))) (va_Qi post (fun u : Unit => wAt dC dI cyI cyB cyJ cyZ (va_A [] sz) []) (va_A [] sz)) 0 0 (va_A [] sz) := by
  refine Met.ofW (cc := cJ1_charAt_3b067) (maxL := 2) (ret := (some .char)) (by decide) rfl ?_
  intro p e s m args below meth c s₁ B hml hv
  obtain ⟨rfl, ⟨hsz, hP, hK, hD0, hN⟩, hXs⟩ := hv
  have hx := B.exec
  have hb := B.bytes
  have hr := B.returns
  have hts := atoms_spec (ws := wsJ1_charAt_3b067) B.pre
  have hown : s.vm.findClass RJ1 = some m.cls := findClass_of_methodNamed B.named
  have hlocks := B.notSynchronized
  subst hsz
  have hD := hD0.self (sz := s.heap.size)
  generalize hAe : va_A [] s.heap.size = A at hD hXs ⊢
  have hA : ∀ q : Nat, s.heap.size ≤ q → A q := fun q h => by rw [← hAe]; exact Or.inr h
  have hS : va_S A s.heap s.heap [] := va_S.rf
  have hl := lv_entry ([.ref v0, .int i]) (n := 2) (Nat.le_of_ble_eq_true rfl)
  rw [lg_entry_eq]
  generalize (lg_sl ([.ref v0, .int i]) ++ List.replicate (2 - (lg_sl ([.ref v0, .int i])).length) Slot.unset).toArray = ls at hl ⊢
  have hl : lv_has ls 2 [(0, .ref v0), (1, .int i)] := hl
  show W p l e rmJ1_charAt_3b067 s m _ below meth c _ _ _ _ _ _
  obtain ⟨hZ, hT⟩ := id hXs
  refine lv_iload_n hx hb dJ1_charAt_3b067_0 rfl (lv_at hl 1 rfl) ?_
  refine lv_aload_n hx hb dJ1_charAt_3b067_1 rfl (lv_at hl 0 rfl) ?_
  refine va_tlen hx hb hT hS rfl dJ1_charAt_3b067_2 ?_
  obtain ⟨j, hj, ej⟩ := vp_in_of hi hb31
  have h0 : ¬ i < 0 := by rw [ej]; exact nI_pos (by omega)
  have h1 : i < Int32.ofNat bs.length := by rw [ej]; exact nI_lt hj hb31
  have hPc := hP.sub (ws' := []) [] rfl
  have hDc := hD.sub (ws' := []) [] (by decide) rfl
  have hFc := va_free (wc := []) hD hS hA [] rfl
  refine va_callv (va_runS (As := [.int i, .int (Int32.ofNat bs.length)]) (rest := []) ⟨hx, hb, hml, hown, hts⟩ (ctJ0_checkIndex_df160 l dC dI cyI cyB cyJ cyZ _ i (Int32.ofNat bs.length) h0 h1 (fun _ => True) trivial) (va_cwS 2 hts gJ1_charAt_3b067_J0_checkIndex_df160 rfl rfl rfl (by decide +kernel) ⟨Nat.le_of_ble_eq_true rfl, Nat.le_of_ble_eq_true rfl⟩) ⟨wPreX_blind (xOk_txZ), fun U hU hW => wPreX_of (xOk_txZ) hPc hK hDc hN (hZ) hS hFc hU hW⟩ rfl rfl hl.1 rfl (lv_room (Nat.le_of_ble_eq_true rfl)) dJ1_charAt_3b067_3 ⟨(Nat.zero_le _), (Nat.zero_le _)⟩) hS (fun q _ h => hFc q h) hFc (fun u t H1 locs ht hvm hw hB hz1 hk1 hS => ?_)
  obtain ⟨hP1, hK1, hD1⟩ := hB
  rw [ht] at hP1
  have hP := hP1
  generalize H1 = H at hP hS ⊢
  refine lv_aload_n hx hb dJ1_charAt_3b067_6 rfl (lv_at hl 0 rfl) ?_
  refine lv_iload_n hx hb dJ1_charAt_3b067_7 rfl (lv_at hl 1 rfl) ?_
  refine va_tb hx hb hT hS hi rfl dJ1_charAt_3b067_8 ?_
  refine lv_sipush (v := 255) hx hb dJ1_charAt_3b067_9 (by decide) ?_
  refine lv_iand hx hb dJ1_charAt_3b067_12 ?_
  refine lv_i2c hx hb dJ1_charAt_3b067_13 rfl ?_
  have hw := hw0
  exact W.zret (v := ((bs.getD i.toNatClampNeg 0 &&& 255).toUInt32 % 65536).toInt32) (ty := .char) hx hb hr (pk_nc _) (fun t ht hW => ⟨⟨((bs.getD i.toNatClampNeg 0 &&& 255).toUInt32 % 65536).toInt32, (), rfl, hw, by rw [ht]; exact hP, va_K.moved hW.alike hK, hD⟩, hS.F ht⟩) hS.2.2 dJ1_charAt_3b067_14
abbrev rmJ0_charAt_5068e : Room := { frames := 3, cells := 0, slots := 0, locals := 64 }
set_option maxRecDepth 100000 in
set_option maxHeartbeats 4000000 in
theorem ctJ0_charAt_5068e (l : Launch) (dC : Nat → ClassId) (dI : Nat → Nat → Nat) (cyI cyB cyJ cyZ : ClassId) (sz : Nat) (bs : List Int32) (a : Nat) (i : Int32) (hb31 : bs.length < 2 ^ 31) (hi : vp_in i bs.length) (post : Int32 → Unit → Prop) (hw0 : post (txC (bs.getD i.toNatClampNeg 0)) ()) : Met l yJ0_charAt_5068e wsJ0_charAt_5068e rmJ0_charAt_5068e (va_Pc [.ref a, .int i] (wPreX dC dI cyI cyB cyJ cyZ sz [] (txS bs a))) (va_Qi post (fun u : Unit => wAt dC dI cyI cyB cyJ cyZ (va_A [] sz) []) (va_A [] sz)) 0 0 (va_A [] sz) := by
  refine Met.ofW (cc := cJ0_charAt_5068e) (maxL := 2) (ret := (some .char)) (by decide) rfl ?_
  intro p e s m args below meth c s₁ B hml hv
  obtain ⟨rfl, ⟨hsz, hP, hK, hD0, hN⟩, hXs⟩ := hv
  have hx := B.exec
  have hb := B.bytes
  have hr := B.returns
  have hts := atoms_spec (ws := wsJ0_charAt_5068e) B.pre
  have hown : s.vm.findClass RJ0 = some m.cls := findClass_of_methodNamed B.named
  have hlocks := B.notSynchronized
  subst hsz
  have hD := hD0.self (sz := s.heap.size)
  generalize hAe : va_A [] s.heap.size = A at hD hXs ⊢
  have hA : ∀ q : Nat, s.heap.size ≤ q → A q := fun q h => by rw [← hAe]; exact Or.inr h
  have hS : va_S A s.heap s.heap [] := va_S.rf
  have hl := lv_entry ([.ref a, .int i]) (n := 2) (Nat.le_of_ble_eq_true rfl)
  rw [lg_entry_eq]
  generalize (lg_sl ([.ref a, .int i]) ++ List.replicate (2 - (lg_sl ([.ref a, .int i])).length) Slot.unset).toArray = ls at hl ⊢
  have hl : lv_has ls 2 [(0, .ref a), (1, .int i)] := hl
  show W p l e rmJ0_charAt_5068e s m _ below meth c _ _ _ _ _ _
  obtain ⟨hZ, v0, hO, hC, hV, hT⟩ := id hXs
  refine lv_aload_n hx hb dJ0_charAt_5068e_0 rfl (lv_at hl 0 rfl) ?_
  have hPc := hP.sub (ws' := []) [] rfl
  have hDc := hD.sub (ws' := []) [] (by decide) rfl
  have hFc := va_free (wc := []) hD hS hA [] rfl
  refine va_calli (va_runV (As := []) (rest := []) ⟨hx, hb, hml, hown, hts⟩ (ctJ0_isLatin1_aae02 l dC dI cyI cyB cyJ cyZ _ bs a (fun r _ => r = 1) rfl) (cwV 0 hts gJ0_charAt_5068e_J0_isLatin1_aae02 rfl rfl rfl (by decide +kernel) ⟨Nat.le_of_ble_eq_true rfl, Nat.le_of_ble_eq_true rfl⟩) ⟨wPreX_blind (xOk_txS bs a), by obtain ⟨cell, c1, c2, c3, c4⟩ := hO; exact ⟨cell, by rw [hS.2.1 _ (Array.getElem?_eq_some_iff.mp c1).1 c4]; exact c1, c2, c3⟩, fun U hU hW => wPreX_of (xOk_txS bs a) hPc hK hDc hN (hXs) hS hFc hU hW⟩ rfl rfl hl.1 rfl (lv_room (Nat.le_of_ble_eq_true rfl)) dJ0_charAt_5068e_1 ⟨(Nat.zero_le _), (Nat.zero_le _)⟩) hS (fun q _ h => hFc q h) hFc (fun r1 u t H1 locs ht hvm hw hB hz1 hk1 hS => ?_)
  obtain ⟨hP1, hK1, hD1⟩ := hB
  rw [ht] at hP1
  have hP := hP1
  generalize H1 = H at hP hS ⊢
  subst hw
  refine lv_if_eq (tgt := 16) hx hb dJ0_charAt_5068e_4 (by decide) (fun hc => absurd hc (by decide)) (fun hc => ?_)
  refine lv_aload_n hx hb dJ0_charAt_5068e_7 rfl (lv_at hl 0 rfl) ?_
  refine vk_getf hx hb hV hS hown (hts (.fieldLink RJ0 9 "java/lang/String" "value" "[B") (List.mem_of_getElem? (i := 1) rfl)) (fun _ h9 => h9) dJ0_charAt_5068e_8 ?_
  refine lv_iload_n hx hb dJ0_charAt_5068e_11 rfl (lv_at hl 1 rfl) ?_
  have hPc := hP.sub (ws' := []) [] rfl
  have hDc := hD.sub (ws' := []) [] (by decide) rfl
  have hFc := va_free (wc := []) hD hS hA [] rfl
  refine va_calli (va_runS (As := [.ref v0, .int i]) (rest := []) ⟨hx, hb, hml, hown, hts⟩ (ctJ1_charAt_3b067 l dC dI cyI cyB cyJ cyZ _ bs v0 i hb31 hi (fun r _ => r = txC (bs.getD i.toNatClampNeg 0)) rfl) (va_cwS 2 hts gJ0_charAt_5068e_J1_charAt_3b067 rfl rfl rfl (by decide +kernel) ⟨Nat.le_of_ble_eq_true rfl, Nat.le_of_ble_eq_true rfl⟩) ⟨wPreX_blind (xOk_txB v0 bs.length (fun j => .int (bs.getD j 0))), fun U hU hW => wPreX_of (xOk_txB v0 bs.length (fun j => .int (bs.getD j 0))) hPc hK hDc hN (⟨hZ, hT⟩) hS hFc hU hW⟩ rfl rfl hl.1 rfl (lv_room (Nat.le_of_ble_eq_true rfl)) dJ0_charAt_5068e_12 ⟨(Nat.zero_le _), (Nat.zero_le _)⟩) hS (fun q _ h => hFc q h) hFc (fun r2 u t H1 locs ht hvm hw hB hz1 hk1 hS => ?_)
  obtain ⟨hP1, hK1, hD1⟩ := hB
  rw [ht] at hP1
  have hP := hP1
  generalize H1 = H at hP hS ⊢
  subst hw
  have hw := hw0
  exact W.zret (v := txC (bs.getD i.toNatClampNeg 0)) (ty := .char) hx hb hr (pk_nc _) (fun t ht hW => ⟨⟨txC (bs.getD i.toNatClampNeg 0), (), rfl, hw, by rw [ht]; exact hP, va_K.moved hW.alike hK, hD⟩, hS.F ht⟩) hS.2.2 dJ0_charAt_5068e_15
