set_option maxRecDepth 100000 in
set_option maxHeartbeats 8000000 in
theorem bL_2345 {p : Program} {l : Launch} {e : Env} {s : State} {m : MethodId} {below : List Frame} {meth : Method} {c : Code} {b L : Nat} {xs : Nat → Int32} {dC : Nat → ClassId} {dI : Nat → Nat → Nat} {cyI cyB cyJ cyZ : ClassId} {ad adS : Nat → Nat} (hl0 : l.stackTraces = false) (C0 : lw_At p s m meth c b L xs) (hK : va_K (dC, dI) vwCl (tyA cyI cyB cyJ cyZ) s) (hN : nwA s) (hXs : txL adS (fun q : Nat => s.heap.size ≤ q) s s.heap) (hts : ∀ w ∈ wsL_law_, w.before #[Value.ref b] s = true) {kk : tX10 → tX11 → (Nat → Int64) → Int32 → Prop} {cs ss : Nat} (hcs : cs + 4 ≤ 601024) (hss : ss + 24 ≤ 7293034) (hk : ∀ (u : tX10) (v : tX11) (o : Nat → Int64) (i : Int32), kk u v o i → AtL p l e s m b below meth c dC dI (cs + 4) (ss + 24) (cL ad cyI cyB cyJ cyZ u v o) [(0, .ref b), (1, .ref (ad 0)), (2, .ref (ad 63)), (3, .ref (ad 86)), (4, .int i)] 23) : ∀ (u : tX10) (v : tX11) (o : Nat → Int64) (i : Int32), wpL_2345 L xs kk u v o i → AtL p l e s m b below meth c dC dI (cs) (ss) (cL ad cyI cyB cyJ cyZ u v o) [(0, .ref b), (1, .ref (ad 0)), (2, .ref (ad 63)), (3, .ref (ad 86)), (4, .int i)] 2345 := by
  intro u v o i hw H locs hP hD hS ls hl
  obtain ⟨hx, hb, hr, hml, hown, hts0, hX, hbl, hlocks, hgv⟩ := id C0
  have hA : ∀ q : Nat, s.heap.size ≤ q → (fun q : Nat => s.heap.size ≤ q) q := fun _ h => h
  have hbA : ¬ (fun q : Nat => s.heap.size ≤ q) b := Nat.not_le.mpr hbl
  obtain ⟨v1, ev1⟩ : ∃ y : Int32, y = i + 6 := ⟨_, rfl⟩
  have hw := hw v1 ev1
  refine lv_iinc (v := v1) (lv' := [(4, .int v1), (0, .ref b), (1, .ref (ad 0)), (2, .ref (ad 63)), (3, .ref (ad 86))]) hx hb dL_law__2345 hl (k := 4) rfl (by rw [ev1]; rfl) (by decide) rfl (fun ls hl => ?_)
  refine lv_goto (tgt := 23) hx hb dL_law__2348 (by decide) ?_
  refine W.widen (k := cs + 4) (n := ss + 24) (by omega) (by omega) ?_
  exact hk u v o v1 hw _ _ hP hD hS ls (lv_sub hl [1, 2, 3, 4, 0] rfl)
