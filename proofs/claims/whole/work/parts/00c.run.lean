/-! names for the pieces of the two states -/
abbrev aT_bytes (z : tX8) : Nat → Int32 := z.1
abbrev aT_size (z : tX8) : Int32 := z.2.1
abbrev aT_here (z : tX8) : Int32 := z.2.2.1
abbrev aT_behind (z : tX8) : Int32 := z.2.2.2.1
abbrev aT_digits (z : tX8) : Int32 := z.2.2.2.2.1
abbrev aT_value (z : tX8) : Int32 := z.2.2.2.2.2
abbrev aG_xs (z : tX1) : Nat → Int32 := z.1
abbrev aG_ys (z : tX1) : Nat → Int32 := z.2.1
abbrev aG_counts (z : tX1) : Nat → Int32 := z.2.2.1
abbrev aG_walls (z : tX1) : Nat → Int32 := z.2.2.2.1
abbrev aG_ways (z : tX1) : Int32 := z.2.2.2.2.1
abbrev aG_wallCount (z : tX1) : Int32 := z.2.2.2.2.2.1
abbrev aG_texts (z : tX1) : Int32 := z.2.2.2.2.2.2
abbrev aL_orders (z : tX2) : Nat → Int32 := z.1
abbrev aL_seen (z : tX2) : Nat → Int32 := z.2.1
abbrev aL_size (z : tX2) : Int32 := z.2.2.1
abbrev aL_lines (z : tX2) : Int32 := z.2.2.2
abbrev aK_minutes (z : tX3) : Nat → Int32 := z.1
abbrev aK_xs (z : tX3) : Nat → Int32 := z.2.1
abbrev aK_ys (z : tX3) : Nat → Int32 := z.2.2.1
abbrev aK_whose (z : tX3) : Nat → Int32 := z.2.2.2.1
abbrev aK_size (z : tX3) : Int32 := z.2.2.2.2
abbrev aS_underWay (z : tX7) : Int32 := z.1
abbrev aS_way (z : tX7) : Int32 := z.2.1
abbrev aS_other (z : tX7) : Int32 := z.2.2.1
abbrev aS_lead (z : tX7) : Int32 := z.2.2.2.1
abbrev aS_man (z : tX7) : Int32 := z.2.2.2.2.1
abbrev aS_dog (z : tX7) : Int32 := z.2.2.2.2.2.1
abbrev aS_gone (z : tX7) : Int32 := z.2.2.2.2.2.2.1
abbrev aS_greatest (z : tX7) : Int32 := z.2.2.2.2.2.2.2.1
abbrev aS_remembered (z : tX7) : Int32 := z.2.2.2.2.2.2.2.2.1
abbrev aS_steps (z : tX7) : Nat → Int32 := z.2.2.2.2.2.2.2.2.2.1
abbrev aS_greatestAhead (z : tX7) : Nat → Int32 := z.2.2.2.2.2.2.2.2.2.2
abbrev aC_ground (z : tX6) : tX1 := z.1
abbrev aC_law (z : tX6) : tX2 := z.2.1
abbrev aC_marks (z : tX6) : tX3 := z.2.2.1
abbrev aC_stroll (z : tX6) : tX7 := z.2.2.2.1
abbrev aC_drawSeed (z : tX6) : Int32 := z.2.2.2.2
abbrev aD_prices (z : tX0) : Nat → Int32 := z.1
abbrev aD_best (z : tX0) : Nat → Int32 := z.2.1
abbrev aD_rows (z : tX0) : Int32 := z.2.2.1
abbrev aD_columns (z : tX0) : Int32 := z.2.2.2
abbrev aP_toOne (z : tX4) : Nat → Int32 := z.1
abbrev aP_toOther (z : tX4) : Nat → Int32 := z.2.1
abbrev aP_between (z : tX4) : Nat → Int32 := z.2.2.1
abbrev aP_evenLayer (z : tX4) : Nat → Int32 := z.2.2.2.1
abbrev aP_oddLayer (z : tX4) : Nat → Int32 := z.2.2.2.2.1
abbrev aP_ones (z : tX4) : Int32 := z.2.2.2.2.2.1
abbrev aP_others (z : tX4) : Int32 := z.2.2.2.2.2.2
abbrev aQ_manX (z : tX5) : Nat → Int32 := z.1
abbrev aQ_manY (z : tX5) : Nat → Int32 := z.2.1
abbrev aQ_dogX (z : tX5) : Nat → Int32 := z.2.2.1
abbrev aQ_dogY (z : tX5) : Nat → Int32 := z.2.2.2.1
abbrev aQ_best (z : tX5) : Nat → Int32 := z.2.2.2.2
abbrev aH_fewest (z : tX9) : Nat → Int32 := z.1
abbrev aH_fewestLater (z : tX9) : Nat → Int32 := z.2
abbrev aU_tape (z : tX10) : tX8 := z.1
abbrev aU_scene (z : tX10) : tX6 := z.2.1
abbrev aU_kept (z : tX10) : tX6 := z.2.2.1
abbrev aU_draftGround (z : tX10) : tX1 := z.2.2.2.1
abbrev aU_draftLaw (z : tX10) : tX2 := z.2.2.2.2.1
abbrev aU_grid (z : tX10) : tX0 := z.2.2.2.2.2.1
abbrev aU_pack (z : tX10) : tX4 := z.2.2.2.2.2.2.1
abbrev aU_pieces (z : tX10) : tX5 := z.2.2.2.2.2.2.2.1
abbrev aU_thinning (z : tX10) : tX9 := z.2.2.2.2.2.2.2.2.1
abbrev aU_imageKept (z : tX10) : Int32 := z.2.2.2.2.2.2.2.2.2.1
abbrev aU_wrongByte (z : tX10) : Int32 := z.2.2.2.2.2.2.2.2.2.2
abbrev aM_thrown (z : tX11) : Int32 := z.1
abbrev aM_world (z : tX11) : Nat → Int32 := z.2.1
abbrev aM_image (z : tX11) : Nat → Int32 := z.2.2.1
abbrev aM_before (z : tX11) : Nat → Int32 := z.2.2.2.1
abbrev aM_hasImage (z : tX11) : Int32 := z.2.2.2.2.1
abbrev aM_taken (z : tX11) : Nat → Int32 := z.2.2.2.2.2.1
abbrev aM_remembered (z : tX11) : Int32 := z.2.2.2.2.2.2.1
abbrev aM_tape (z : tX11) : Nat → Int32 := z.2.2.2.2.2.2.2.1
abbrev aM_taped (z : tX11) : Int32 := z.2.2.2.2.2.2.2.2.1
abbrev aM_point (z : tX11) : Int32 := z.2.2.2.2.2.2.2.2.2.1
abbrev aM_end (z : tX11) : Int32 := z.2.2.2.2.2.2.2.2.2.2.1
abbrev aM_begin (z : tX11) : Int32 := z.2.2.2.2.2.2.2.2.2.2.2.1
abbrev aM_deep (z : tX11) : Int32 := z.2.2.2.2.2.2.2.2.2.2.2.2.1
abbrev aM_faultAt (z : tX11) : Int32 := z.2.2.2.2.2.2.2.2.2.2.2.2.2.1
abbrev aM_five (z : tX11) : Nat → Int32 := z.2.2.2.2.2.2.2.2.2.2.2.2.2.2.1
abbrev aM_steps (z : tX11) : Int32 := z.2.2.2.2.2.2.2.2.2.2.2.2.2.2.2.1
abbrev aM_value (z : tX11) : Nat → Int32 := z.2.2.2.2.2.2.2.2.2.2.2.2.2.2.2.2.1
abbrev aM_far (z : tX11) : Nat → Int32 := z.2.2.2.2.2.2.2.2.2.2.2.2.2.2.2.2.2.1
abbrev aM_men (z : tX11) : Int32 := z.2.2.2.2.2.2.2.2.2.2.2.2.2.2.2.2.2.2.1
abbrev aM_dogs (z : tX11) : Int32 := z.2.2.2.2.2.2.2.2.2.2.2.2.2.2.2.2.2.2.2.1
abbrev aM_lead (z : tX11) : Nat → Int32 := z.2.2.2.2.2.2.2.2.2.2.2.2.2.2.2.2.2.2.2.2.1
abbrev aM_walk (z : tX11) : Nat → Int32 := z.2.2.2.2.2.2.2.2.2.2.2.2.2.2.2.2.2.2.2.2.2.1
abbrev aM_ends (z : tX11) : Nat → Int32 := z.2.2.2.2.2.2.2.2.2.2.2.2.2.2.2.2.2.2.2.2.2.2.1
abbrev aM_manX (z : tX11) : Nat → Int32 := z.2.2.2.2.2.2.2.2.2.2.2.2.2.2.2.2.2.2.2.2.2.2.2.1
abbrev aM_manY (z : tX11) : Nat → Int32 := z.2.2.2.2.2.2.2.2.2.2.2.2.2.2.2.2.2.2.2.2.2.2.2.2.1
abbrev aM_dogX (z : tX11) : Nat → Int32 := z.2.2.2.2.2.2.2.2.2.2.2.2.2.2.2.2.2.2.2.2.2.2.2.2.2.1
abbrev aM_dogY (z : tX11) : Nat → Int32 := z.2.2.2.2.2.2.2.2.2.2.2.2.2.2.2.2.2.2.2.2.2.2.2.2.2.2.1
abbrev aM_row (z : tX11) : Nat → Int32 := z.2.2.2.2.2.2.2.2.2.2.2.2.2.2.2.2.2.2.2.2.2.2.2.2.2.2.2.1
abbrev aM_round (z : tX11) : Nat → Int32 := z.2.2.2.2.2.2.2.2.2.2.2.2.2.2.2.2.2.2.2.2.2.2.2.2.2.2.2.2.1
abbrev aM_farOne (z : tX11) : Nat → Int32 := z.2.2.2.2.2.2.2.2.2.2.2.2.2.2.2.2.2.2.2.2.2.2.2.2.2.2.2.2.2.1
abbrev aM_leads (z : tX11) : Nat → Int32 := z.2.2.2.2.2.2.2.2.2.2.2.2.2.2.2.2.2.2.2.2.2.2.2.2.2.2.2.2.2.2.1
abbrev aM_drags (z : tX11) : Nat → Int64 := z.2.2.2.2.2.2.2.2.2.2.2.2.2.2.2.2.2.2.2.2.2.2.2.2.2.2.2.2.2.2.2.1
abbrev aM_from (z : tX11) : Nat → Int32 := z.2.2.2.2.2.2.2.2.2.2.2.2.2.2.2.2.2.2.2.2.2.2.2.2.2.2.2.2.2.2.2.2.1
abbrev aM_near (z : tX11) : Nat → Int32 := z.2.2.2.2.2.2.2.2.2.2.2.2.2.2.2.2.2.2.2.2.2.2.2.2.2.2.2.2.2.2.2.2.2
/-! THE PURE HALF, cut into cases: a relation that holds at first, and that each case keeps -/
def caseOk (Inv : tX10 → tX11 → Prop) (wp : Nat → (Nat → Int32) → (tX10 → tX11 → (Nat → Int64) → Int32 → Prop) → tX10 → tX11 → (Nat → Int64) → Int32 → Prop) : Prop :=
  ∀ (L : Nat) (xs : Nat → Int32) (kk : tX10 → tX11 → (Nat → Int64) → Int32 → Prop) (u : tX10) (v : tX11) (o : Nat → Int64) (i : Nat), L ≤ 3072 → i + 6 ≤ L → Inv u v → (∀ (u' : tX10) (v' : tX11) (o' : Nat → Int64), Inv u' v' → kk u' v' o' (nI (i + 6))) → wp L xs kk u v o (nI i)
theorem run_of {Inv : tX10 → tX11 → Prop} (h204 : caseOk Inv wpL_204) (h277 : caseOk Inv wpL_277) (h302 : caseOk Inv wpL_302) (h346 : caseOk Inv wpL_346) (h390 : caseOk Inv wpL_390) (h403 : caseOk Inv wpL_403) (h499 : caseOk Inv wpL_499) (h555 : caseOk Inv wpL_555) (h647 : caseOk Inv wpL_647) (h746 : caseOk Inv wpL_746) (h814 : caseOk Inv wpL_814) (h894 : caseOk Inv wpL_894) (h962 : caseOk Inv wpL_962) (h1042 : caseOk Inv wpL_1042) (h1121 : caseOk Inv wpL_1121) (h1189 : caseOk Inv wpL_1189) (h1285 : caseOk Inv wpL_1285) (h1365 : caseOk Inv wpL_1365) (h1445 : caseOk Inv wpL_1445) (h1512 : caseOk Inv wpL_1512) (h1580 : caseOk Inv wpL_1580) (h1605 : caseOk Inv wpL_1605) (h1673 : caseOk Inv wpL_1673) (h1698 : caseOk Inv wpL_1698) (h1773 : caseOk Inv wpL_1773) (h1881 : caseOk Inv wpL_1881) (h1894 : caseOk Inv wpL_1894) (h1907 : caseOk Inv wpL_1907) (h2003 : caseOk Inv wpL_2003) (h2090 : caseOk Inv wpL_2090) (h2146 : caseOk Inv wpL_2146) (h2159 : caseOk Inv wpL_2159) (h2215 : caseOk Inv wpL_2215) (h2271 : caseOk Inv wpL_2271) (h2296 : caseOk Inv wpL_2296) (h2307 : caseOk Inv wpL_2307) (h2320 : caseOk Inv wpL_2320) (h2345 : caseOk Inv wpL_2345) : ∀ (L : Nat) (xs : Nat → Int32), L ≤ 3072 → ∀ (n i : Nat) (u : tX10) (v : tX11) (o : Nat → Int64), Inv u v → i ≤ L + 6 → L + 7 ≤ i + 6 * n → wpL_23 L xs n u v o (nI i) := by
  intro L xs hL n
  induction n with
  | zero => intro i u v o _ h1 h2; omega
  | succ n ih =>
    intro i u v o hI h1 h2
    have e6 : (Int32.ofNat L - 6).toInt = (L : Int) - 6 := by
      have := pk_sub_toInt (a := L) (b := 6) (by omega) (by omega)
      simpa [nI] using this
    have ei : (nI i).toInt = (i : Int) := nI_toInt (by omega)
    refine ⟨fun _ => trivial, fun hc => ?_⟩
    have hi : i + 6 ≤ L := by
      rw [Int32.lt_iff_toInt_lt, e6, ei] at hc
      omega
    have hkk : ∀ (u' : tX10) (v' : tX11) (o' : Nat → Int64), Inv u' v' → (fun u v o i => wpL_23 L xs n u v o i) u' v' o' (nI (i + 6)) := fun u' v' o' h => ih (i + 6) u' v' o' h (by omega) (by omega)
    exact ⟨vp_in_nI (by omega) (by omega), fun _ => h204 L xs _ u v o i hL hi hI hkk, fun _ => h277 L xs _ u v o i hL hi hI hkk, fun _ => h302 L xs _ u v o i hL hi hI hkk, fun _ => h346 L xs _ u v o i hL hi hI hkk, fun _ => h390 L xs _ u v o i hL hi hI hkk, fun _ => h403 L xs _ u v o i hL hi hI hkk, fun _ => h499 L xs _ u v o i hL hi hI hkk, fun _ => h555 L xs _ u v o i hL hi hI hkk, fun _ => h647 L xs _ u v o i hL hi hI hkk, fun _ => h746 L xs _ u v o i hL hi hI hkk, fun _ => h814 L xs _ u v o i hL hi hI hkk, fun _ => h894 L xs _ u v o i hL hi hI hkk, fun _ => h962 L xs _ u v o i hL hi hI hkk, fun _ => h1042 L xs _ u v o i hL hi hI hkk, fun _ => h1121 L xs _ u v o i hL hi hI hkk, fun _ => h1189 L xs _ u v o i hL hi hI hkk, fun _ => h1285 L xs _ u v o i hL hi hI hkk, fun _ => h1365 L xs _ u v o i hL hi hI hkk, fun _ => h1445 L xs _ u v o i hL hi hI hkk, fun _ => h1512 L xs _ u v o i hL hi hI hkk, fun _ => h1580 L xs _ u v o i hL hi hI hkk, fun _ => h1605 L xs _ u v o i hL hi hI hkk, fun _ => h1673 L xs _ u v o i hL hi hI hkk, fun _ => h1698 L xs _ u v o i hL hi hI hkk, fun _ => h1773 L xs _ u v o i hL hi hI hkk, fun _ => h1881 L xs _ u v o i hL hi hI hkk, fun _ => h1894 L xs _ u v o i hL hi hI hkk, fun _ => h1907 L xs _ u v o i hL hi hI hkk, fun _ => h2003 L xs _ u v o i hL hi hI hkk, fun _ => h2090 L xs _ u v o i hL hi hI hkk, fun _ => h2146 L xs _ u v o i hL hi hI hkk, fun _ => h2159 L xs _ u v o i hL hi hI hkk, fun _ => h2215 L xs _ u v o i hL hi hI hkk, fun _ => h2271 L xs _ u v o i hL hi hI hkk, fun _ => h2296 L xs _ u v o i hL hi hI hkk, fun _ => h2307 L xs _ u v o i hL hi hI hkk, fun _ => h2320 L xs _ u v o i hL hi hI hkk, fun _ => h2345 L xs _ u v o i hL hi hI hkk⟩
theorem pure_of {Inv : tX10 → tX11 → Prop} (h0 : Inv u00 v00) (h204 : caseOk Inv wpL_204) (h277 : caseOk Inv wpL_277) (h302 : caseOk Inv wpL_302) (h346 : caseOk Inv wpL_346) (h390 : caseOk Inv wpL_390) (h403 : caseOk Inv wpL_403) (h499 : caseOk Inv wpL_499) (h555 : caseOk Inv wpL_555) (h647 : caseOk Inv wpL_647) (h746 : caseOk Inv wpL_746) (h814 : caseOk Inv wpL_814) (h894 : caseOk Inv wpL_894) (h962 : caseOk Inv wpL_962) (h1042 : caseOk Inv wpL_1042) (h1121 : caseOk Inv wpL_1121) (h1189 : caseOk Inv wpL_1189) (h1285 : caseOk Inv wpL_1285) (h1365 : caseOk Inv wpL_1365) (h1445 : caseOk Inv wpL_1445) (h1512 : caseOk Inv wpL_1512) (h1580 : caseOk Inv wpL_1580) (h1605 : caseOk Inv wpL_1605) (h1673 : caseOk Inv wpL_1673) (h1698 : caseOk Inv wpL_1698) (h1773 : caseOk Inv wpL_1773) (h1881 : caseOk Inv wpL_1881) (h1894 : caseOk Inv wpL_1894) (h1907 : caseOk Inv wpL_1907) (h2003 : caseOk Inv wpL_2003) (h2090 : caseOk Inv wpL_2090) (h2146 : caseOk Inv wpL_2146) (h2159 : caseOk Inv wpL_2159) (h2215 : caseOk Inv wpL_2215) (h2271 : caseOk Inv wpL_2271) (h2296 : caseOk Inv wpL_2296) (h2307 : caseOk Inv wpL_2307) (h2320 : caseOk Inv wpL_2320) (h2345 : caseOk Inv wpL_2345) : pure_goal := fun L xs hL => ⟨514, by omega, by
  have h := run_of h204 h277 h302 h346 h390 h403 h499 h555 h647 h746 h814 h894 h962 h1042 h1121 h1189 h1285 h1365 h1445 h1512 h1580 h1605 h1673 h1698 h1773 h1881 h1894 h1907 h2003 h2090 h2146 h2159 h2215 h2271 h2296 h2307 h2320 h2345 L xs hL 514 0 u00 v00 (fun _ => 0) h0 (by omega) (by omega)
  exact h⟩
