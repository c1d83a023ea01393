set_option maxRecDepth 100000 in
set_option maxHeartbeats 16000000 in
theorem st_known {p : Program} {e : Env} {s : State} {m : MethodId} {below : List Frame} {meth : Method} {c : Code} {b L : Nat} {xs : Nat → Int32} (C0 : lw_At p s m meth c b L xs) : ∃ (adS : Nat → Nat) (dC : Nat → ClassId) (dI : Nat → Nat → Nat) (cyI cyB cyJ cyZ : ClassId), va_K (dC, dI) vwCl (tyA cyI cyB cyJ cyZ) s ∧ nwA s ∧ txL adS (fun q : Nat => s.heap.size ≤ q) s s.heap ∧ (∀ w ∈ wsL_law_, w.before #[Value.ref b] s = true) := by
  obtain ⟨hx, hb, hr, hml, hown, hts0, hX, hbl, hlocks, hgv⟩ := id C0
  have hts : ∀ w ∈ wsL_law_, w.before #[Value.ref b] s = true := fun w h => hts0 w (wsL_law__in w h)
  have hA : ∀ q : Nat, s.heap.size ≤ q → (fun q : Nat => s.heap.size ≤ q) q := fun _ h => h
  have hN := nw_start hts0
  obtain ⟨adS, hXs⟩ := tx_start (A := fun q : Nat => s.heap.size ≤ q) (fun a h => Nat.not_le.mpr h) hts0 hgv
  obtain ⟨c0, iS0, hKn0⟩ := u_known (C := RX0) (T := TX0) (N := 4) (n := 4) hts0 inX0 (hts (.instantiable RX0 4) (List.mem_of_getElem? (i := 31) rfl))
  obtain ⟨c1, iS1, hKn1⟩ := u_known (C := RX1) (T := TX1) (N := 7) (n := 7) hts0 inX1 (hts (.instantiable RX1 7) (List.mem_of_getElem? (i := 23) rfl))
  obtain ⟨c2, iS2, hKn2⟩ := u_known (C := RX2) (T := TX2) (N := 4) (n := 4) hts0 inX2 (hts (.instantiable RX2 4) (List.mem_of_getElem? (i := 27) rfl))
  obtain ⟨c3, iS3, hKn3⟩ := u_known (C := RX3) (T := TX3) (N := 5) (n := 5) hts0 inX3 (hts (.instantiable RX3 5) (List.mem_of_getElem? (i := 66) rfl))
  obtain ⟨c4, iS4, hKn4⟩ := u_known (C := RX4) (T := TX4) (N := 7) (n := 7) hts0 inX4 (hts (.instantiable RX4 7) (List.mem_of_getElem? (i := 35) rfl))
  obtain ⟨c5, iS5, hKn5⟩ := u_known (C := RX5) (T := TX5) (N := 5) (n := 5) hts0 inX5 (hts (.instantiable RX5 5) (List.mem_of_getElem? (i := 39) rfl))
  obtain ⟨c6, iS6, hKn6⟩ := u_known (C := RX6) (T := TX6) (N := 5) (n := 5) hts0 inX6 (hts (.instantiable RX6 5) (List.mem_of_getElem? (i := 18) rfl))
  obtain ⟨c7, iS7, hKn7⟩ := u_known (C := RX7) (T := TX7) (N := 11) (n := 11) hts0 inX7 (hts (.instantiable RX7 11) (List.mem_of_getElem? (i := 70) rfl))
  obtain ⟨c8, iS8, hKn8⟩ := u_known (C := RX8) (T := TX8) (N := 6) (n := 6) hts0 inX8 (hts (.instantiable RX8 6) (List.mem_of_getElem? (i := 14) rfl))
  obtain ⟨c9, iS9, hKn9⟩ := u_known (C := RX9) (T := TX9) (N := 2) (n := 2) hts0 inX9 (hts (.instantiable RX9 2) (List.mem_of_getElem? (i := 43) rfl))
  obtain ⟨c10, iS10, hKn10⟩ := u_known (C := RX10) (T := TX10) (N := 11) (n := 11) hts0 inX10 (hts (.instantiable RX10 11) (List.mem_of_getElem? (i := 1) rfl))
  obtain ⟨c11, iS11, hKn11⟩ := u_known (C := RX11) (T := TX11) (N := 34) (n := 34) hts0 inX11 (hts (.instantiable RX11 34) (List.mem_of_getElem? (i := 4) rfl))
  obtain ⟨cyI, hcyI, gcyI⟩ := arr_known (ty := .int) (hts (.arrayClass .int) (List.mem_of_getElem? (i := 77) rfl)) rfl
  obtain ⟨cyB, hcyB, gcyB⟩ := arr_known (ty := .byte) (hts (.arrayClass .byte) (List.mem_of_getElem? (i := 51) rfl)) rfl
  obtain ⟨cyJ, hcyJ, gcyJ⟩ := arr_known (ty := .long) (hts (.arrayClass .long) (List.mem_of_getElem? (i := 6) rfl)) rfl
  obtain ⟨cyZ, hcyZ, gcyZ⟩ := arr_known (ty := .boolean) (hts (.arrayClass .boolean) (List.mem_of_getElem? (i := 159) rfl)) rfl
  obtain ⟨dC, dI, hKc⟩ : ∃ (dC : Nat → ClassId) (dI : Nat → Nat → Nat), ∀ (k : Nat) (q : vw_C), vwCl[k]? = some q → u_Kn s q.1 q.2.1 q.2.2 (dC k) (dI k) := by
    refine ⟨fun k => if k = 0 then c0 else if k = 1 then c1 else if k = 2 then c2 else if k = 3 then c3 else if k = 4 then c4 else if k = 5 then c5 else if k = 6 then c6 else if k = 7 then c7 else if k = 8 then c8 else if k = 9 then c9 else if k = 10 then c10 else c11, fun k => if k = 0 then iS0 else if k = 1 then iS1 else if k = 2 then iS2 else if k = 3 then iS3 else if k = 4 then iS4 else if k = 5 then iS5 else if k = 6 then iS6 else if k = 7 then iS7 else if k = 8 then iS8 else if k = 9 then iS9 else if k = 10 then iS10 else iS11, ?_⟩
    intro k q hq
    match k, hq with
    | 0, hq => cases hq; exact hKn0
    | 1, hq => cases hq; exact hKn1
    | 2, hq => cases hq; exact hKn2
    | 3, hq => cases hq; exact hKn3
    | 4, hq => cases hq; exact hKn4
    | 5, hq => cases hq; exact hKn5
    | 6, hq => cases hq; exact hKn6
    | 7, hq => cases hq; exact hKn7
    | 8, hq => cases hq; exact hKn8
    | 9, hq => cases hq; exact hKn9
    | 10, hq => cases hq; exact hKn10
    | 11, hq => cases hq; exact hKn11
    | k + 12, hq => simp [vwCl] at hq
  have hK : va_K (dC, dI) vwCl (tyA cyI cyB cyJ cyZ) s := by
    refine ⟨hKc, fun k q h => ?_⟩
    match k, h with
    | 0, h => cases h; exact ⟨hcyI, gcyI⟩
    | 1, h => cases h; exact ⟨hcyB, gcyB⟩
    | 2, h => cases h; exact ⟨hcyJ, gcyJ⟩
    | 3, h => cases h; exact ⟨hcyZ, gcyZ⟩
    | k + 4, h => simp [tyA] at h
  exact ⟨adS, dC, dI, cyI, cyB, cyJ, cyZ, hK, hN, hXs, hts⟩
