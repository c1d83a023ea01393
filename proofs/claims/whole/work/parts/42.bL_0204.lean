set_option maxRecDepth 100000 in
set_option maxHeartbeats 8000000 in
theorem bL_204 {p : Program} {l : Launch} {e : Env} {s : State} {m : MethodId} {below : List Frame} {meth : Method} {c : Code} {b L : Nat} {xs : Nat → Int32} {dC : Nat → ClassId} {dI : Nat → Nat → Nat} {cyI cyB cyJ cyZ : ClassId} {ad adS : Nat → Nat} (hl0 : l.stackTraces = false) (C0 : lw_At p s m meth c b L xs) (hK : va_K (dC, dI) vwCl (tyA cyI cyB cyJ cyZ) s) (hN : nwA s) (hXs : txL adS (fun q : Nat => s.heap.size ≤ q) s s.heap) (hts : ∀ w ∈ wsL_law_, w.before #[Value.ref b] s = true) {kk : tX10 → tX11 → (Nat → Int64) → Int32 → Prop} {cs ss : Nat} (hcs : cs + 4 ≤ 601024) (hss : ss + 24 ≤ 7293034) (hk : ∀ (u : tX10) (v : tX11) (o : Nat → Int64) (i : Int32), kk u v o i → AtL p l e s m b below meth c dC dI (cs + 4) (ss + 24) (cL ad cyI cyB cyJ cyZ u v o) [(0, .ref b), (1, .ref (ad 0)), (2, .ref (ad 63)), (3, .ref (ad 86)), (4, .int i)] 23) : ∀ (u : tX10) (v : tX11) (o : Nat → Int64) (i : Int32), wpL_204 L xs kk u v o i → AtL p l e s m b below meth c dC dI (cs) (ss) (cL ad cyI cyB cyJ cyZ u v o) [(0, .ref b), (1, .ref (ad 0)), (2, .ref (ad 63)), (3, .ref (ad 86)), (4, .int i)] 204 := by
  intro u v o i hw H locs hP hD hS ls hl
  obtain ⟨hx, hb, hr, hml, hown, hts0, hX, hbl, hlocks, hgv⟩ := id C0
  have hA : ∀ q : Nat, s.heap.size ≤ q → (fun q : Nat => s.heap.size ≤ q) q := fun _ h => h
  have hbA : ¬ (fun q : Nat => s.heap.size ≤ q) b := Nat.not_le.mpr hbl
  refine lv_aload_n hx hb dL_law__204 rfl (lv_at hl 1 rfl) ?_
  refine lv_aload_n hx hb dL_law__205 rfl (lv_at hl 0 rfl) ?_
  refine lv_iload hx hb dL_law__206 (lv_at hl 4 rfl) ?_
  refine lv_iconst (v := 1) hx hb dL_law__208 (by decide) ?_
  refine lv_iadd hx hb dL_law__209 ?_
  obtain ⟨hi, hw⟩ := hw
  refine va_sld hx hb hX hbl hbA hS hi dL_law__210 ?_
  refine lv_aload_n hx hb dL_law__211 rfl (lv_at hl 0 rfl) ?_
  refine lv_iload hx hb dL_law__212 (lv_at hl 4 rfl) ?_
  refine lv_iconst (v := 2) hx hb dL_law__214 (by decide) ?_
  refine lv_iadd hx hb dL_law__215 ?_
  obtain ⟨hi, hw⟩ := hw
  refine va_sld hx hb hX hbl hbA hS hi dL_law__216 ?_
  refine lv_aload_n hx hb dL_law__217 rfl (lv_at hl 0 rfl) ?_
  refine lv_iload hx hb dL_law__218 (lv_at hl 4 rfl) ?_
  refine lv_iconst (v := 3) hx hb dL_law__220 (by decide) ?_
  refine lv_iadd hx hb dL_law__221 ?_
  obtain ⟨hi, hw⟩ := hw
  refine va_sld hx hb hX hbl hbA hS hi dL_law__222 ?_
  refine lv_aload_n hx hb dL_law__223 rfl (lv_at hl 0 rfl) ?_
  refine lv_iload hx hb dL_law__224 (lv_at hl 4 rfl) ?_
  refine lv_iconst (v := 4) hx hb dL_law__226 (by decide) ?_
  refine lv_iadd hx hb dL_law__227 ?_
  obtain ⟨hi, hw⟩ := hw
  refine va_sld hx hb hX hbl hbA hS hi dL_law__228 ?_
  refine lv_aload_n hx hb dL_law__229 rfl (lv_at hl 0 rfl) ?_
  refine lv_iload hx hb dL_law__230 (lv_at hl 4 rfl) ?_
  refine lv_iconst (v := 5) hx hb dL_law__232 (by decide) ?_
  refine lv_iadd hx hb dL_law__233 ?_
  obtain ⟨hi, hw⟩ := hw
  refine va_sld hx hb hX hbl hbA hS hi dL_law__234 ?_
  have hPc := hP.sub (ws' := [((ad 0), .inr (10, [.ref (ad 1), .ref (ad 3), .ref (ad 20), .ref (ad 37), .ref (ad 42), .ref (ad 45), .ref (ad 48), .ref (ad 54), .ref (ad 60), .int u.2.2.2.2.2.2.2.2.2.1, .int u.2.2.2.2.2.2.2.2.2.2])), ((ad 1), .inr (8, [.ref (ad 2), .int u.1.2.1, .int u.1.2.2.1, .int u.1.2.2.2.1, .int u.1.2.2.2.2.1, .int u.1.2.2.2.2.2])), ((ad 2), .inl (cyB, 400, .inl u.1.1))]) [0, 1, 2] rfl
  have hDc := hD.sub (ws' := [((ad 0), .inr (10, [.ref (ad 1), .ref (ad 3), .ref (ad 20), .ref (ad 37), .ref (ad 42), .ref (ad 45), .ref (ad 48), .ref (ad 54), .ref (ad 60), .int u.2.2.2.2.2.2.2.2.2.1, .int u.2.2.2.2.2.2.2.2.2.2])), ((ad 1), .inr (8, [.ref (ad 2), .int u.1.2.1, .int u.1.2.2.1, .int u.1.2.2.2.1, .int u.1.2.2.2.2.1, .int u.1.2.2.2.2.2])), ((ad 2), .inl (cyB, 400, .inl u.1.1))]) [0, 1, 2] (by decide +kernel) rfl
  have hFc := va_free (wc := [((ad 0), .inr (10, [.ref (ad 1), .ref (ad 3), .ref (ad 20), .ref (ad 37), .ref (ad 42), .ref (ad 45), .ref (ad 48), .ref (ad 54), .ref (ad 60), .int u.2.2.2.2.2.2.2.2.2.1, .int u.2.2.2.2.2.2.2.2.2.2])), ((ad 1), .inr (8, [.ref (ad 2), .int u.1.2.1, .int u.1.2.2.1, .int u.1.2.2.2.1, .int u.1.2.2.2.2.1, .int u.1.2.2.2.2.2])), ((ad 2), .inl (cyB, 400, .inl u.1.1))]) hD hS hA [0, 1, 2] rfl
  refine va_calli (va_runV (As := [.int (xs (i + 1).toNatClampNeg), .int (xs (i + 2).toNatClampNeg), .int (xs (i + 3).toNatClampNeg), .int (xs (i + 4).toNatClampNeg), .int (xs (i + 5).toNatClampNeg)]) (rest := []) ⟨hx, hb, hml, hown, hts⟩ (ctX10_feed l dC dI cyI cyB cyJ cyZ _ (ad 0) (ad 1) (ad 2) (ad 3) (ad 20) (ad 37) (ad 42) (ad 45) (ad 48) (ad 54) (ad 60) u.2.2.2.2.2.2.2.2.2.1 u.2.2.2.2.2.2.2.2.2.2 u.1.2.2.1 u.1.2.2.2.1 u.1.2.2.2.2.1 u.1.2.2.2.2.2 u.1.2.1 u.1.1 (xs (i + 1).toNatClampNeg) (xs (i + 2).toNatClampNeg) (xs (i + 3).toNatClampNeg) (xs (i + 4).toNatClampNeg) (xs (i + 5).toNatClampNeg) _ hw) (cwV 5 hts gL_law__X10_feed rfl rfl rfl (by decide +kernel) ⟨Nat.le_of_ble_eq_true rfl, Nat.le_of_ble_eq_true rfl⟩) ⟨wPre_blind, va_recv hK hPc (ci := 10) (q0 := 0) rfl rfl, fun U hU hW => wPre_of hPc hK hDc hN hU hW⟩ rfl rfl hl.1 rfl (lv_room (Nat.le_of_ble_eq_true rfl)) dL_law__235 ⟨(by show _ ≤ 601024; omega), (by show _ ≤ 7293034; omega)⟩) hS (fun q _ h => hFc q h) hFc (fun r2 u1 t H1 locs ht hvm hw hB hz1 hk1 hS => ?_)
  obtain ⟨hP1, hK1, hD1⟩ := hB
  rw [ht] at hP1
  obtain ⟨hP, hD⟩ := wl_put (w1 := [((ad 0), .inr (10, [.ref (ad 1), .ref (ad 3), .ref (ad 20), .ref (ad 37), .ref (ad 42), .ref (ad 45), .ref (ad 48), .ref (ad 54), .ref (ad 60), .int u.2.2.2.2.2.2.2.2.2.1, .int u.2.2.2.2.2.2.2.2.2.2])), ((ad 1), .inr (8, [.ref (ad 2), .int u1.1, .int u.1.2.2.1, .int u.1.2.2.2.1, .int u.1.2.2.2.2.1, .int u.1.2.2.2.2.2])), ((ad 2), .inl (cyB, 400, .inl u1.2))]) hP hD [0, 1, 2] rfl (by decide) rfl hk1 hFc hP1 hD1
  replace hP : va_P (dC, dI) vwCl (cL ad cyI cyB cyJ cyZ ((u1.2, u1.1, u.1.2.2.1, u.1.2.2.2.1, u.1.2.2.2.2.1, u.1.2.2.2.2.2), u.2.1, u.2.2.1, u.2.2.2.1, u.2.2.2.2.1, u.2.2.2.2.2.1, u.2.2.2.2.2.2.1, u.2.2.2.2.2.2.2.1, u.2.2.2.2.2.2.2.2.1, u.2.2.2.2.2.2.2.2.2.1, u.2.2.2.2.2.2.2.2.2.2) v o) H1 := hP
  replace hD : va_D (fun q : Nat => s.heap.size ≤ q) (cL ad cyI cyB cyJ cyZ ((u1.2, u1.1, u.1.2.2.1, u.1.2.2.2.1, u.1.2.2.2.2.1, u.1.2.2.2.2.2), u.2.1, u.2.2.1, u.2.2.2.1, u.2.2.2.2.1, u.2.2.2.2.2.1, u.2.2.2.2.2.2.1, u.2.2.2.2.2.2.2.1, u.2.2.2.2.2.2.2.2.1, u.2.2.2.2.2.2.2.2.2.1, u.2.2.2.2.2.2.2.2.2.2) v o) := hD
  generalize H1 = H at hP hS ⊢
  refine lv_aload_n hx hb dL_law__238 rfl (lv_at hl 2 rfl) ?_
  refine lv_aload_n hx hb dL_law__239 rfl (lv_at hl 0 rfl) ?_
  refine lv_iload hx hb dL_law__240 (lv_at hl 4 rfl) ?_
  refine lv_iconst (v := 1) hx hb dL_law__242 (by decide) ?_
  refine lv_iadd hx hb dL_law__243 ?_
  obtain ⟨hi, hw⟩ := hw
  refine va_sld hx hb hX hbl hbA hS hi dL_law__244 ?_
  refine lv_aload_n hx hb dL_law__245 rfl (lv_at hl 0 rfl) ?_
  refine lv_iload hx hb dL_law__246 (lv_at hl 4 rfl) ?_
  refine lv_iconst (v := 2) hx hb dL_law__248 (by decide) ?_
  refine lv_iadd hx hb dL_law__249 ?_
  obtain ⟨hi, hw⟩ := hw
  refine va_sld hx hb hX hbl hbA hS hi dL_law__250 ?_
  refine lv_aload_n hx hb dL_law__251 rfl (lv_at hl 0 rfl) ?_
  refine lv_iload hx hb dL_law__252 (lv_at hl 4 rfl) ?_
  refine lv_iconst (v := 3) hx hb dL_law__254 (by decide) ?_
  refine lv_iadd hx hb dL_law__255 ?_
  obtain ⟨hi, hw⟩ := hw
  refine va_sld hx hb hX hbl hbA hS hi dL_law__256 ?_
  refine lv_aload_n hx hb dL_law__257 rfl (lv_at hl 0 rfl) ?_
  refine lv_iload hx hb dL_law__258 (lv_at hl 4 rfl) ?_
  refine lv_iconst (v := 4) hx hb dL_law__260 (by decide) ?_
  refine lv_iadd hx hb dL_law__261 ?_
  obtain ⟨hi, hw⟩ := hw
  refine va_sld hx hb hX hbl hbA hS hi dL_law__262 ?_
  refine lv_aload_n hx hb dL_law__263 rfl (lv_at hl 0 rfl) ?_
  refine lv_iload hx hb dL_law__264 (lv_at hl 4 rfl) ?_
  refine lv_iconst (v := 5) hx hb dL_law__266 (by decide) ?_
  refine lv_iadd hx hb dL_law__267 ?_
  obtain ⟨hi, hw⟩ := hw
  refine va_sld hx hb hX hbl hbA hS hi dL_law__268 ?_
  have hPc := hP.sub (ws' := [((ad 63), .inr (11, [.int v.1, .ref (ad 64), .ref (ad 65), .ref (ad 66), .int v.2.2.2.2.1, .ref (ad 67), .int v.2.2.2.2.2.2.1, .ref (ad 68), .int v.2.2.2.2.2.2.2.2.1, .int v.2.2.2.2.2.2.2.2.2.1, .int v.2.2.2.2.2.2.2.2.2.2.1, .int v.2.2.2.2.2.2.2.2.2.2.2.1, .int v.2.2.2.2.2.2.2.2.2.2.2.2.1, .int v.2.2.2.2.2.2.2.2.2.2.2.2.2.1, .ref (ad 69), .int v.2.2.2.2.2.2.2.2.2.2.2.2.2.2.2.1, .ref (ad 70), .ref (ad 71), .int v.2.2.2.2.2.2.2.2.2.2.2.2.2.2.2.2.2.2.1, .int v.2.2.2.2.2.2.2.2.2.2.2.2.2.2.2.2.2.2.2.1, .ref (ad 72), .ref (ad 73), .ref (ad 74), .ref (ad 75), .ref (ad 76), .ref (ad 77), .ref (ad 78), .ref (ad 79), .ref (ad 80), .ref (ad 81), .ref (ad 82), .ref (ad 83), .ref (ad 84), .ref (ad 85)])), ((ad 69), .inl (cyI, 5, .inl v.2.2.2.2.2.2.2.2.2.2.2.2.2.2.1)), ((ad 68), .inl (cyB, 400, .inl v.2.2.2.2.2.2.2.1))]) [63, 69, 68] rfl
  have hDc := hD.sub (ws' := [((ad 63), .inr (11, [.int v.1, .ref (ad 64), .ref (ad 65), .ref (ad 66), .int v.2.2.2.2.1, .ref (ad 67), .int v.2.2.2.2.2.2.1, .ref (ad 68), .int v.2.2.2.2.2.2.2.2.1, .int v.2.2.2.2.2.2.2.2.2.1, .int v.2.2.2.2.2.2.2.2.2.2.1, .int v.2.2.2.2.2.2.2.2.2.2.2.1, .int v.2.2.2.2.2.2.2.2.2.2.2.2.1, .int v.2.2.2.2.2.2.2.2.2.2.2.2.2.1, .ref (ad 69), .int v.2.2.2.2.2.2.2.2.2.2.2.2.2.2.2.1, .ref (ad 70), .ref (ad 71), .int v.2.2.2.2.2.2.2.2.2.2.2.2.2.2.2.2.2.2.1, .int v.2.2.2.2.2.2.2.2.2.2.2.2.2.2.2.2.2.2.2.1, .ref (ad 72), .ref (ad 73), .ref (ad 74), .ref (ad 75), .ref (ad 76), .ref (ad 77), .ref (ad 78), .ref (ad 79), .ref (ad 80), .ref (ad 81), .ref (ad 82), .ref (ad 83), .ref (ad 84), .ref (ad 85)])), ((ad 69), .inl (cyI, 5, .inl v.2.2.2.2.2.2.2.2.2.2.2.2.2.2.1)), ((ad 68), .inl (cyB, 400, .inl v.2.2.2.2.2.2.2.1))]) [63, 69, 68] (by decide +kernel) rfl
  have hFc := va_free (wc := [((ad 63), .inr (11, [.int v.1, .ref (ad 64), .ref (ad 65), .ref (ad 66), .int v.2.2.2.2.1, .ref (ad 67), .int v.2.2.2.2.2.2.1, .ref (ad 68), .int v.2.2.2.2.2.2.2.2.1, .int v.2.2.2.2.2.2.2.2.2.1, .int v.2.2.2.2.2.2.2.2.2.2.1, .int v.2.2.2.2.2.2.2.2.2.2.2.1, .int v.2.2.2.2.2.2.2.2.2.2.2.2.1, .int v.2.2.2.2.2.2.2.2.2.2.2.2.2.1, .ref (ad 69), .int v.2.2.2.2.2.2.2.2.2.2.2.2.2.2.2.1, .ref (ad 70), .ref (ad 71), .int v.2.2.2.2.2.2.2.2.2.2.2.2.2.2.2.2.2.2.1, .int v.2.2.2.2.2.2.2.2.2.2.2.2.2.2.2.2.2.2.2.1, .ref (ad 72), .ref (ad 73), .ref (ad 74), .ref (ad 75), .ref (ad 76), .ref (ad 77), .ref (ad 78), .ref (ad 79), .ref (ad 80), .ref (ad 81), .ref (ad 82), .ref (ad 83), .ref (ad 84), .ref (ad 85)])), ((ad 69), .inl (cyI, 5, .inl v.2.2.2.2.2.2.2.2.2.2.2.2.2.2.1)), ((ad 68), .inl (cyB, 400, .inl v.2.2.2.2.2.2.2.1))]) hD hS hA [63, 69, 68] rfl
  refine va_calli (va_runV (As := [.int (xs (i + 1).toNatClampNeg), .int (xs (i + 2).toNatClampNeg), .int (xs (i + 3).toNatClampNeg), .int (xs (i + 4).toNatClampNeg), .int (xs (i + 5).toNatClampNeg)]) (rest := [.int r2]) ⟨hx, hb, hml, hown, hts⟩ (ctX11_feed l dC dI cyI cyB cyJ cyZ _ (ad 63) (ad 69) (ad 68) (ad 64) (ad 65) (ad 66) (ad 67) (ad 70) (ad 71) (ad 72) (ad 73) (ad 74) (ad 75) (ad 76) (ad 77) (ad 78) (ad 79) (ad 80) (ad 81) (ad 82) (ad 83) (ad 84) (ad 85) v.2.2.2.2.1 v.2.2.2.2.2.2.1 v.2.2.2.2.2.2.2.2.2.1 v.2.2.2.2.2.2.2.2.2.2.1 v.2.2.2.2.2.2.2.2.2.2.2.1 v.2.2.2.2.2.2.2.2.2.2.2.2.1 v.2.2.2.2.2.2.2.2.2.2.2.2.2.1 v.2.2.2.2.2.2.2.2.2.2.2.2.2.2.2.1 v.2.2.2.2.2.2.2.2.2.2.2.2.2.2.2.2.2.2.1 v.2.2.2.2.2.2.2.2.2.2.2.2.2.2.2.2.2.2.2.1 v.1 v.2.2.2.2.2.2.2.2.1 v.2.2.2.2.2.2.2.2.2.2.2.2.2.2.1 v.2.2.2.2.2.2.2.1 (xs (i + 1).toNatClampNeg) (xs (i + 2).toNatClampNeg) (xs (i + 3).toNatClampNeg) (xs (i + 4).toNatClampNeg) (xs (i + 5).toNatClampNeg) _ hw) (cwV 5 hts gL_law__X11_feed rfl rfl rfl (by decide +kernel) ⟨Nat.le_of_ble_eq_true rfl, Nat.le_of_ble_eq_true rfl⟩) ⟨wPre_blind, va_recv hK hPc (ci := 11) (q0 := 0) rfl rfl, fun U hU hW => wPre_of hPc hK hDc hN hU hW⟩ rfl rfl hl.1 rfl (lv_room (Nat.le_of_ble_eq_true rfl)) dL_law__269 ⟨(by show _ ≤ 601024; omega), (by show _ ≤ 7293034; omega)⟩) hS (fun q _ h => hFc q h) hFc (fun r4 u3 t H1 locs ht hvm hw hB hz1 hk1 hS => ?_)
  obtain ⟨hP1, hK1, hD1⟩ := hB
  rw [ht] at hP1
  obtain ⟨hP, hD⟩ := wl_put (w1 := [((ad 63), .inr (11, [.int u3.1, .ref (ad 64), .ref (ad 65), .ref (ad 66), .int v.2.2.2.2.1, .ref (ad 67), .int v.2.2.2.2.2.2.1, .ref (ad 68), .int u3.2.1, .int v.2.2.2.2.2.2.2.2.2.1, .int v.2.2.2.2.2.2.2.2.2.2.1, .int v.2.2.2.2.2.2.2.2.2.2.2.1, .int v.2.2.2.2.2.2.2.2.2.2.2.2.1, .int v.2.2.2.2.2.2.2.2.2.2.2.2.2.1, .ref (ad 69), .int v.2.2.2.2.2.2.2.2.2.2.2.2.2.2.2.1, .ref (ad 70), .ref (ad 71), .int v.2.2.2.2.2.2.2.2.2.2.2.2.2.2.2.2.2.2.1, .int v.2.2.2.2.2.2.2.2.2.2.2.2.2.2.2.2.2.2.2.1, .ref (ad 72), .ref (ad 73), .ref (ad 74), .ref (ad 75), .ref (ad 76), .ref (ad 77), .ref (ad 78), .ref (ad 79), .ref (ad 80), .ref (ad 81), .ref (ad 82), .ref (ad 83), .ref (ad 84), .ref (ad 85)])), ((ad 69), .inl (cyI, 5, .inl u3.2.2.1)), ((ad 68), .inl (cyB, 400, .inl u3.2.2.2))]) hP hD [63, 69, 68] rfl (by decide) rfl hk1 hFc hP1 hD1
  replace hP : va_P (dC, dI) vwCl (cL ad cyI cyB cyJ cyZ ((u1.2, u1.1, u.1.2.2.1, u.1.2.2.2.1, u.1.2.2.2.2.1, u.1.2.2.2.2.2), u.2.1, u.2.2.1, u.2.2.2.1, u.2.2.2.2.1, u.2.2.2.2.2.1, u.2.2.2.2.2.2.1, u.2.2.2.2.2.2.2.1, u.2.2.2.2.2.2.2.2.1, u.2.2.2.2.2.2.2.2.2.1, u.2.2.2.2.2.2.2.2.2.2) (u3.1, v.2.1, v.2.2.1, v.2.2.2.1, v.2.2.2.2.1, v.2.2.2.2.2.1, v.2.2.2.2.2.2.1, u3.2.2.2, u3.2.1, v.2.2.2.2.2.2.2.2.2.1, v.2.2.2.2.2.2.2.2.2.2.1, v.2.2.2.2.2.2.2.2.2.2.2.1, v.2.2.2.2.2.2.2.2.2.2.2.2.1, v.2.2.2.2.2.2.2.2.2.2.2.2.2.1, u3.2.2.1, v.2.2.2.2.2.2.2.2.2.2.2.2.2.2.2.1, v.2.2.2.2.2.2.2.2.2.2.2.2.2.2.2.2.1, v.2.2.2.2.2.2.2.2.2.2.2.2.2.2.2.2.2.1, v.2.2.2.2.2.2.2.2.2.2.2.2.2.2.2.2.2.2.1, v.2.2.2.2.2.2.2.2.2.2.2.2.2.2.2.2.2.2.2.1, v.2.2.2.2.2.2.2.2.2.2.2.2.2.2.2.2.2.2.2.2.1, v.2.2.2.2.2.2.2.2.2.2.2.2.2.2.2.2.2.2.2.2.2.1, v.2.2.2.2.2.2.2.2.2.2.2.2.2.2.2.2.2.2.2.2.2.2.1, v.2.2.2.2.2.2.2.2.2.2.2.2.2.2.2.2.2.2.2.2.2.2.2.1, v.2.2.2.2.2.2.2.2.2.2.2.2.2.2.2.2.2.2.2.2.2.2.2.2.1, v.2.2.2.2.2.2.2.2.2.2.2.2.2.2.2.2.2.2.2.2.2.2.2.2.2.1, v.2.2.2.2.2.2.2.2.2.2.2.2.2.2.2.2.2.2.2.2.2.2.2.2.2.2.1, v.2.2.2.2.2.2.2.2.2.2.2.2.2.2.2.2.2.2.2.2.2.2.2.2.2.2.2.1, v.2.2.2.2.2.2.2.2.2.2.2.2.2.2.2.2.2.2.2.2.2.2.2.2.2.2.2.2.1, v.2.2.2.2.2.2.2.2.2.2.2.2.2.2.2.2.2.2.2.2.2.2.2.2.2.2.2.2.2.1, v.2.2.2.2.2.2.2.2.2.2.2.2.2.2.2.2.2.2.2.2.2.2.2.2.2.2.2.2.2.2.1, v.2.2.2.2.2.2.2.2.2.2.2.2.2.2.2.2.2.2.2.2.2.2.2.2.2.2.2.2.2.2.2.1, v.2.2.2.2.2.2.2.2.2.2.2.2.2.2.2.2.2.2.2.2.2.2.2.2.2.2.2.2.2.2.2.2.1, v.2.2.2.2.2.2.2.2.2.2.2.2.2.2.2.2.2.2.2.2.2.2.2.2.2.2.2.2.2.2.2.2.2) o) H1 := hP
  replace hD : va_D (fun q : Nat => s.heap.size ≤ q) (cL ad cyI cyB cyJ cyZ ((u1.2, u1.1, u.1.2.2.1, u.1.2.2.2.1, u.1.2.2.2.2.1, u.1.2.2.2.2.2), u.2.1, u.2.2.1, u.2.2.2.1, u.2.2.2.2.1, u.2.2.2.2.2.1, u.2.2.2.2.2.2.1, u.2.2.2.2.2.2.2.1, u.2.2.2.2.2.2.2.2.1, u.2.2.2.2.2.2.2.2.2.1, u.2.2.2.2.2.2.2.2.2.2) (u3.1, v.2.1, v.2.2.1, v.2.2.2.1, v.2.2.2.2.1, v.2.2.2.2.2.1, v.2.2.2.2.2.2.1, u3.2.2.2, u3.2.1, v.2.2.2.2.2.2.2.2.2.1, v.2.2.2.2.2.2.2.2.2.2.1, v.2.2.2.2.2.2.2.2.2.2.2.1, v.2.2.2.2.2.2.2.2.2.2.2.2.1, v.2.2.2.2.2.2.2.2.2.2.2.2.2.1, u3.2.2.1, v.2.2.2.2.2.2.2.2.2.2.2.2.2.2.2.1, v.2.2.2.2.2.2.2.2.2.2.2.2.2.2.2.2.1, v.2.2.2.2.2.2.2.2.2.2.2.2.2.2.2.2.2.1, v.2.2.2.2.2.2.2.2.2.2.2.2.2.2.2.2.2.2.1, v.2.2.2.2.2.2.2.2.2.2.2.2.2.2.2.2.2.2.2.1, v.2.2.2.2.2.2.2.2.2.2.2.2.2.2.2.2.2.2.2.2.1, v.2.2.2.2.2.2.2.2.2.2.2.2.2.2.2.2.2.2.2.2.2.1, v.2.2.2.2.2.2.2.2.2.2.2.2.2.2.2.2.2.2.2.2.2.2.1, v.2.2.2.2.2.2.2.2.2.2.2.2.2.2.2.2.2.2.2.2.2.2.2.1, v.2.2.2.2.2.2.2.2.2.2.2.2.2.2.2.2.2.2.2.2.2.2.2.2.1, v.2.2.2.2.2.2.2.2.2.2.2.2.2.2.2.2.2.2.2.2.2.2.2.2.2.1, v.2.2.2.2.2.2.2.2.2.2.2.2.2.2.2.2.2.2.2.2.2.2.2.2.2.2.1, v.2.2.2.2.2.2.2.2.2.2.2.2.2.2.2.2.2.2.2.2.2.2.2.2.2.2.2.1, v.2.2.2.2.2.2.2.2.2.2.2.2.2.2.2.2.2.2.2.2.2.2.2.2.2.2.2.2.1, v.2.2.2.2.2.2.2.2.2.2.2.2.2.2.2.2.2.2.2.2.2.2.2.2.2.2.2.2.2.1, v.2.2.2.2.2.2.2.2.2.2.2.2.2.2.2.2.2.2.2.2.2.2.2.2.2.2.2.2.2.2.1, v.2.2.2.2.2.2.2.2.2.2.2.2.2.2.2.2.2.2.2.2.2.2.2.2.2.2.2.2.2.2.2.1, v.2.2.2.2.2.2.2.2.2.2.2.2.2.2.2.2.2.2.2.2.2.2.2.2.2.2.2.2.2.2.2.2.1, v.2.2.2.2.2.2.2.2.2.2.2.2.2.2.2.2.2.2.2.2.2.2.2.2.2.2.2.2.2.2.2.2.2) o) := hD
  generalize H1 = H at hP hS ⊢
  refine lv_icmp_eq (tgt := 2345) hx hb dL_law__272 (by decide) (fun hc => ?_) (fun hc => ?_)
  · have hw := hw.1 hc
    obtain ⟨v5, ev5⟩ : ∃ y : Int32, y = i + 6 := ⟨_, rfl⟩
    have hw := hw v5 ev5
    refine lv_iinc (v := v5) (lv' := [(4, .int v5), (0, .ref b), (1, .ref (ad 0)), (2, .ref (ad 63)), (3, .ref (ad 86))]) hx hb dL_law__2345 hl (k := 4) rfl (by rw [ev5]; rfl) (by decide) rfl (fun ls hl => ?_)
    refine lv_goto (tgt := 23) hx hb dL_law__2348 (by decide) ?_
    refine W.widen (k := cs + 4) (n := ss + 24) (by omega) (by omega) ?_
    exact hk ((u1.2, u1.1, u.1.2.2.1, u.1.2.2.2.1, u.1.2.2.2.2.1, u.1.2.2.2.2.2), u.2.1, u.2.2.1, u.2.2.2.1, u.2.2.2.2.1, u.2.2.2.2.2.1, u.2.2.2.2.2.2.1, u.2.2.2.2.2.2.2.1, u.2.2.2.2.2.2.2.2.1, u.2.2.2.2.2.2.2.2.2.1, u.2.2.2.2.2.2.2.2.2.2) (u3.1, v.2.1, v.2.2.1, v.2.2.2.1, v.2.2.2.2.1, v.2.2.2.2.2.1, v.2.2.2.2.2.2.1, u3.2.2.2, u3.2.1, v.2.2.2.2.2.2.2.2.2.1, v.2.2.2.2.2.2.2.2.2.2.1, v.2.2.2.2.2.2.2.2.2.2.2.1, v.2.2.2.2.2.2.2.2.2.2.2.2.1, v.2.2.2.2.2.2.2.2.2.2.2.2.2.1, u3.2.2.1, v.2.2.2.2.2.2.2.2.2.2.2.2.2.2.2.1, v.2.2.2.2.2.2.2.2.2.2.2.2.2.2.2.2.1, v.2.2.2.2.2.2.2.2.2.2.2.2.2.2.2.2.2.1, v.2.2.2.2.2.2.2.2.2.2.2.2.2.2.2.2.2.2.1, v.2.2.2.2.2.2.2.2.2.2.2.2.2.2.2.2.2.2.2.1, v.2.2.2.2.2.2.2.2.2.2.2.2.2.2.2.2.2.2.2.2.1, v.2.2.2.2.2.2.2.2.2.2.2.2.2.2.2.2.2.2.2.2.2.1, v.2.2.2.2.2.2.2.2.2.2.2.2.2.2.2.2.2.2.2.2.2.2.1, v.2.2.2.2.2.2.2.2.2.2.2.2.2.2.2.2.2.2.2.2.2.2.2.1, v.2.2.2.2.2.2.2.2.2.2.2.2.2.2.2.2.2.2.2.2.2.2.2.2.1, v.2.2.2.2.2.2.2.2.2.2.2.2.2.2.2.2.2.2.2.2.2.2.2.2.2.1, v.2.2.2.2.2.2.2.2.2.2.2.2.2.2.2.2.2.2.2.2.2.2.2.2.2.2.1, v.2.2.2.2.2.2.2.2.2.2.2.2.2.2.2.2.2.2.2.2.2.2.2.2.2.2.2.1, v.2.2.2.2.2.2.2.2.2.2.2.2.2.2.2.2.2.2.2.2.2.2.2.2.2.2.2.2.1, v.2.2.2.2.2.2.2.2.2.2.2.2.2.2.2.2.2.2.2.2.2.2.2.2.2.2.2.2.2.1, v.2.2.2.2.2.2.2.2.2.2.2.2.2.2.2.2.2.2.2.2.2.2.2.2.2.2.2.2.2.2.1, v.2.2.2.2.2.2.2.2.2.2.2.2.2.2.2.2.2.2.2.2.2.2.2.2.2.2.2.2.2.2.2.1, v.2.2.2.2.2.2.2.2.2.2.2.2.2.2.2.2.2.2.2.2.2.2.2.2.2.2.2.2.2.2.2.2.1, v.2.2.2.2.2.2.2.2.2.2.2.2.2.2.2.2.2.2.2.2.2.2.2.2.2.2.2.2.2.2.2.2.2) o v5 hw _ _ hP hD hS ls (lv_sub hl [1, 2, 3, 4, 0] rfl)
  · have hw := hw.2 hc
    refine lv_iconst (v := 0) hx hb dL_law__275 (by decide) ?_
    exact False.elim hw
