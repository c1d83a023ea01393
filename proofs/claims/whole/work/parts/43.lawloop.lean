theorem sw37 {x : Int32} (h : ¬ (x = 0 ∨ x = 1 ∨ x = 2 ∨ x = 3 ∨ x = 4 ∨ x = 5 ∨ x = 6 ∨ x = 7 ∨ x = 8 ∨ x = 9 ∨ x = 10 ∨ x = 11 ∨ x = 12 ∨ x = 13 ∨ x = 14 ∨ x = 15 ∨ x = 16 ∨ x = 17 ∨ x = 18 ∨ x = 19 ∨ x = 20 ∨ x = 21 ∨ x = 22 ∨ x = 23 ∨ x = 24 ∨ x = 25 ∨ x = 26 ∨ x = 27 ∨ x = 28 ∨ x = 29 ∨ x = 30 ∨ x = 31 ∨ x = 32 ∨ x = 33 ∨ x = 34 ∨ x = 35 ∨ x = 36)) : x.toInt < 0 ∨ 36 < x.toInt := by
  by_cases h0 : x.toInt < 0
  · exact Or.inl h0
  · by_cases h1 : 36 < x.toInt
    · exact Or.inr h1
    · exfalso
      apply h
      have hx : x = Int32.ofInt x.toInt := (Int32.ofInt_toInt x).symm
      rcases (show x.toInt = 0 ∨ x.toInt = 1 ∨ x.toInt = 2 ∨ x.toInt = 3 ∨ x.toInt = 4 ∨ x.toInt = 5 ∨ x.toInt = 6 ∨ x.toInt = 7 ∨ x.toInt = 8 ∨ x.toInt = 9 ∨ x.toInt = 10 ∨ x.toInt = 11 ∨ x.toInt = 12 ∨ x.toInt = 13 ∨ x.toInt = 14 ∨ x.toInt = 15 ∨ x.toInt = 16 ∨ x.toInt = 17 ∨ x.toInt = 18 ∨ x.toInt = 19 ∨ x.toInt = 20 ∨ x.toInt = 21 ∨ x.toInt = 22 ∨ x.toInt = 23 ∨ x.toInt = 24 ∨ x.toInt = 25 ∨ x.toInt = 26 ∨ x.toInt = 27 ∨ x.toInt = 28 ∨ x.toInt = 29 ∨ x.toInt = 30 ∨ x.toInt = 31 ∨ x.toInt = 32 ∨ x.toInt = 33 ∨ x.toInt = 34 ∨ x.toInt = 35 ∨ x.toInt = 36 by omega) with e | e | e | e | e | e | e | e | e | e | e | e | e | e | e | e | e | e | e | e | e | e | e | e | e | e | e | e | e | e | e | e | e | e | e | e | e
      all_goals (rw [hx, e]; decide)
set_option maxRecDepth 100000 in
set_option maxHeartbeats 8000000 in
theorem bL_23 {p : Program} {l : Launch} {e : Env} {s : State} {m : MethodId} {below : List Frame} {meth : Method} {c : Code} {b L : Nat} {xs : Nat → Int32} {dC : Nat → ClassId} {dI : Nat → Nat → Nat} {cyI cyB cyJ cyZ : ClassId} {ad adS : Nat → Nat} (hl0 : l.stackTraces = false) (C0 : lw_At p s m meth c b L xs) (hK : va_K (dC, dI) vwCl (tyA cyI cyB cyJ cyZ) s) (hN : nwA s) (hXs : txL adS (fun q : Nat => s.heap.size ≤ q) s s.heap) (hts : ∀ w ∈ wsL_law_, w.before #[Value.ref b] s = true) : ∀ (n cs ss : Nat), cs + 4 * n ≤ 601024 → ss + 24 * n ≤ 7293034 → ∀ (u : tX10) (v : tX11) (o : Nat → Int64) (i : Int32), wpL_23 L xs n u v o i → AtL p l e s m b below meth c dC dI cs ss (cL ad cyI cyB cyJ cyZ u v o) [(0, .ref b), (1, .ref (ad 0)), (2, .ref (ad 63)), (3, .ref (ad 86)), (4, .int i)] 23 := by
  intro n
  induction n with
  | zero => intro cs ss _ _ u v o i hw; exact False.elim hw
  | succ n ih =>
    intro cs ss hcs hss u v o i hw H locs hP hD hS ls hl
    obtain ⟨hx, hb, hr, hml, hown, hts0, hX, hbl, hlocks, hgv⟩ := id C0
    have hA : ∀ q : Nat, s.heap.size ≤ q → (fun q : Nat => s.heap.size ≤ q) q := fun _ h => h
    have hbA : ¬ (fun q : Nat => s.heap.size ≤ q) b := Nat.not_le.mpr hbl
    have hk := ih (cs + 4) (ss + 24) (by omega) (by omega)
    refine lv_iload hx hb dL_law__23 (lv_at hl 4 rfl) ?_
    refine lv_aload_n hx hb dL_law__25 rfl (lv_at hl 0 rfl) ?_
    refine va_slen hx hb hX hbl hbA hS dL_law__26 ?_
    refine lv_bipush (v := 6) hx hb dL_law__27 (by decide) ?_
    refine lv_isub hx hb dL_law__29 ?_
    refine lv_icmp_gt (tgt := 2351) hx hb dL_law__30 (by decide) (fun hc => ?_) (fun hc => ?_)
    · refine lv_iconst (v := 1) hx hb dL_law__2351 (by decide) ?_
      refine va_forget (fun q hq => hS.2.2 q hq) ?_
      refine W.widen (k := 601024) (n := 7293034) (by omega) (by omega) ?_
      exact lw_ret hx hb hr hlocks dL_law__2352
    · obtain ⟨hi, hw⟩ := hw.2 hc
      refine lv_aload_n hx hb dL_law__33 rfl (lv_at hl 0 rfl) ?_
      refine lv_iload hx hb dL_law__34 (lv_at hl 4 rfl) ?_
      refine va_sld hx hb hX hbl hbA hS hi dL_law__36 ?_
      refine lv_bipush (v := 63) hx hb dL_law__37 (by decide) ?_
      refine lv_iand hx hb dL_law__39 ?_
      by_cases hq0 : xs i.toNatClampNeg &&& 63 = 0 ∨ xs i.toNatClampNeg &&& 63 = 1 ∨ xs i.toNatClampNeg &&& 63 = 2 ∨ xs i.toNatClampNeg &&& 63 = 3 ∨ xs i.toNatClampNeg &&& 63 = 4 ∨ xs i.toNatClampNeg &&& 63 = 5 ∨ xs i.toNatClampNeg &&& 63 = 6 ∨ xs i.toNatClampNeg &&& 63 = 7 ∨ xs i.toNatClampNeg &&& 63 = 8 ∨ xs i.toNatClampNeg &&& 63 = 9 ∨ xs i.toNatClampNeg &&& 63 = 10 ∨ xs i.toNatClampNeg &&& 63 = 11 ∨ xs i.toNatClampNeg &&& 63 = 12 ∨ xs i.toNatClampNeg &&& 63 = 13 ∨ xs i.toNatClampNeg &&& 63 = 14 ∨ xs i.toNatClampNeg &&& 63 = 15 ∨ xs i.toNatClampNeg &&& 63 = 16 ∨ xs i.toNatClampNeg &&& 63 = 17 ∨ xs i.toNatClampNeg &&& 63 = 18 ∨ xs i.toNatClampNeg &&& 63 = 19 ∨ xs i.toNatClampNeg &&& 63 = 20 ∨ xs i.toNatClampNeg &&& 63 = 21 ∨ xs i.toNatClampNeg &&& 63 = 22 ∨ xs i.toNatClampNeg &&& 63 = 23 ∨ xs i.toNatClampNeg &&& 63 = 24 ∨ xs i.toNatClampNeg &&& 63 = 25 ∨ xs i.toNatClampNeg &&& 63 = 26 ∨ xs i.toNatClampNeg &&& 63 = 27 ∨ xs i.toNatClampNeg &&& 63 = 28 ∨ xs i.toNatClampNeg &&& 63 = 29 ∨ xs i.toNatClampNeg &&& 63 = 30 ∨ xs i.toNatClampNeg &&& 63 = 31 ∨ xs i.toNatClampNeg &&& 63 = 32 ∨ xs i.toNatClampNeg &&& 63 = 33 ∨ xs i.toNatClampNeg &&& 63 = 34 ∨ xs i.toNatClampNeg &&& 63 = 35 ∨ xs i.toNatClampNeg &&& 63 = 36
      · rcases hq0 with hq | hq | hq | hq | hq | hq | hq | hq | hq | hq | hq | hq | hq | hq | hq | hq | hq | hq | hq | hq | hq | hq | hq | hq | hq | hq | hq | hq | hq | hq | hq | hq | hq | hq | hq | hq | hq
        · refine lv_tableIn (tgt := 204) (off := 164) hx hb dL_law__40 (by rw [hq]; decide) (by rw [hq]; decide) (by rw [hq]; rfl) (by decide) ?_
          exact bL_204 hl0 C0 hK hN hXs hts (by omega) (by omega) hk u v o i (hw.1 hq) H locs hP hD hS ls hl
        · refine lv_tableIn (tgt := 277) (off := 237) hx hb dL_law__40 (by rw [hq]; decide) (by rw [hq]; decide) (by rw [hq]; rfl) (by decide) ?_
          exact bL_277 hl0 C0 hK hN hXs hts (by omega) (by omega) hk u v o i (hw.2.1 hq) H locs hP hD hS ls hl
        · refine lv_tableIn (tgt := 302) (off := 262) hx hb dL_law__40 (by rw [hq]; decide) (by rw [hq]; decide) (by rw [hq]; rfl) (by decide) ?_
          exact bL_302 hl0 C0 hK hN hXs hts (by omega) (by omega) hk u v o i (hw.2.2.1 hq) H locs hP hD hS ls hl
        · refine lv_tableIn (tgt := 346) (off := 306) hx hb dL_law__40 (by rw [hq]; decide) (by rw [hq]; decide) (by rw [hq]; rfl) (by decide) ?_
          exact bL_346 hl0 C0 hK hN hXs hts (by omega) (by omega) hk u v o i (hw.2.2.2.1 hq) H locs hP hD hS ls hl
        · refine lv_tableIn (tgt := 390) (off := 350) hx hb dL_law__40 (by rw [hq]; decide) (by rw [hq]; decide) (by rw [hq]; rfl) (by decide) ?_
          exact bL_390 hl0 C0 hK hN hXs hts (by omega) (by omega) hk u v o i (hw.2.2.2.2.1 hq) H locs hP hD hS ls hl
        · refine lv_tableIn (tgt := 403) (off := 363) hx hb dL_law__40 (by rw [hq]; decide) (by rw [hq]; decide) (by rw [hq]; rfl) (by decide) ?_
          exact bL_403 hl0 C0 hK hN hXs hts (by omega) (by omega) hk u v o i (hw.2.2.2.2.2.1 hq) H locs hP hD hS ls hl
        · refine lv_tableIn (tgt := 499) (off := 459) hx hb dL_law__40 (by rw [hq]; decide) (by rw [hq]; decide) (by rw [hq]; rfl) (by decide) ?_
          exact bL_499 hl0 C0 hK hN hXs hts (by omega) (by omega) hk u v o i (hw.2.2.2.2.2.2.1 hq) H locs hP hD hS ls hl
        · refine lv_tableIn (tgt := 555) (off := 515) hx hb dL_law__40 (by rw [hq]; decide) (by rw [hq]; decide) (by rw [hq]; rfl) (by decide) ?_
          exact bL_555 hl0 C0 hK hN hXs hts (by omega) (by omega) hk u v o i (hw.2.2.2.2.2.2.2.1 hq) H locs hP hD hS ls hl
        · refine lv_tableIn (tgt := 647) (off := 607) hx hb dL_law__40 (by rw [hq]; decide) (by rw [hq]; decide) (by rw [hq]; rfl) (by decide) ?_
          exact bL_647 hl0 C0 hK hN hXs hts (by omega) (by omega) hk u v o i (hw.2.2.2.2.2.2.2.2.1 hq) H locs hP hD hS ls hl
        · refine lv_tableIn (tgt := 746) (off := 706) hx hb dL_law__40 (by rw [hq]; decide) (by rw [hq]; decide) (by rw [hq]; rfl) (by decide) ?_
          exact bL_746 hl0 C0 hK hN hXs hts (by omega) (by omega) hk u v o i (hw.2.2.2.2.2.2.2.2.2.1 hq) H locs hP hD hS ls hl
        · refine lv_tableIn (tgt := 814) (off := 774) hx hb dL_law__40 (by rw [hq]; decide) (by rw [hq]; decide) (by rw [hq]; rfl) (by decide) ?_
          exact bL_814 hl0 C0 hK hN hXs hts (by omega) (by omega) hk u v o i (hw.2.2.2.2.2.2.2.2.2.2.1 hq) H locs hP hD hS ls hl
        · refine lv_tableIn (tgt := 894) (off := 854) hx hb dL_law__40 (by rw [hq]; decide) (by rw [hq]; decide) (by rw [hq]; rfl) (by decide) ?_
          exact bL_894 hl0 C0 hK hN hXs hts (by omega) (by omega) hk u v o i (hw.2.2.2.2.2.2.2.2.2.2.2.1 hq) H locs hP hD hS ls hl
        · refine lv_tableIn (tgt := 962) (off := 922) hx hb dL_law__40 (by rw [hq]; decide) (by rw [hq]; decide) (by rw [hq]; rfl) (by decide) ?_
          exact bL_962 hl0 C0 hK hN hXs hts (by omega) (by omega) hk u v o i (hw.2.2.2.2.2.2.2.2.2.2.2.2.1 hq) H locs hP hD hS ls hl
        · refine lv_tableIn (tgt := 1042) (off := 1002) hx hb dL_law__40 (by rw [hq]; decide) (by rw [hq]; decide) (by rw [hq]; rfl) (by decide) ?_
          exact bL_1042 hl0 C0 hK hN hXs hts (by omega) (by omega) hk u v o i (hw.2.2.2.2.2.2.2.2.2.2.2.2.2.1 hq) H locs hP hD hS ls hl
        · refine lv_tableIn (tgt := 1121) (off := 1081) hx hb dL_law__40 (by rw [hq]; decide) (by rw [hq]; decide) (by rw [hq]; rfl) (by decide) ?_
          exact bL_1121 hl0 C0 hK hN hXs hts (by omega) (by omega) hk u v o i (hw.2.2.2.2.2.2.2.2.2.2.2.2.2.2.1 hq) H locs hP hD hS ls hl
        · refine lv_tableIn (tgt := 1189) (off := 1149) hx hb dL_law__40 (by rw [hq]; decide) (by rw [hq]; decide) (by rw [hq]; rfl) (by decide) ?_
          exact bL_1189 hl0 C0 hK hN hXs hts (by omega) (by omega) hk u v o i (hw.2.2.2.2.2.2.2.2.2.2.2.2.2.2.2.1 hq) H locs hP hD hS ls hl
        · refine lv_tableIn (tgt := 1285) (off := 1245) hx hb dL_law__40 (by rw [hq]; decide) (by rw [hq]; decide) (by rw [hq]; rfl) (by decide) ?_
          exact bL_1285 hl0 C0 hK hN hXs hts (by omega) (by omega) hk u v o i (hw.2.2.2.2.2.2.2.2.2.2.2.2.2.2.2.2.1 hq) H locs hP hD hS ls hl
        · refine lv_tableIn (tgt := 1365) (off := 1325) hx hb dL_law__40 (by rw [hq]; decide) (by rw [hq]; decide) (by rw [hq]; rfl) (by decide) ?_
          exact bL_1365 hl0 C0 hK hN hXs hts (by omega) (by omega) hk u v o i (hw.2.2.2.2.2.2.2.2.2.2.2.2.2.2.2.2.2.1 hq) H locs hP hD hS ls hl
        · refine lv_tableIn (tgt := 1445) (off := 1405) hx hb dL_law__40 (by rw [hq]; decide) (by rw [hq]; decide) (by rw [hq]; rfl) (by decide) ?_
          exact bL_1445 hl0 C0 hK hN hXs hts (by omega) (by omega) hk u v o i (hw.2.2.2.2.2.2.2.2.2.2.2.2.2.2.2.2.2.2.1 hq) H locs hP hD hS ls hl
        · refine lv_tableIn (tgt := 1512) (off := 1472) hx hb dL_law__40 (by rw [hq]; decide) (by rw [hq]; decide) (by rw [hq]; rfl) (by decide) ?_
          exact bL_1512 hl0 C0 hK hN hXs hts (by omega) (by omega) hk u v o i (hw.2.2.2.2.2.2.2.2.2.2.2.2.2.2.2.2.2.2.2.1 hq) H locs hP hD hS ls hl
        · refine lv_tableIn (tgt := 1580) (off := 1540) hx hb dL_law__40 (by rw [hq]; decide) (by rw [hq]; decide) (by rw [hq]; rfl) (by decide) ?_
          exact bL_1580 hl0 C0 hK hN hXs hts (by omega) (by omega) hk u v o i (hw.2.2.2.2.2.2.2.2.2.2.2.2.2.2.2.2.2.2.2.2.1 hq) H locs hP hD hS ls hl
        · refine lv_tableIn (tgt := 1605) (off := 1565) hx hb dL_law__40 (by rw [hq]; decide) (by rw [hq]; decide) (by rw [hq]; rfl) (by decide) ?_
          exact bL_1605 hl0 C0 hK hN hXs hts (by omega) (by omega) hk u v o i (hw.2.2.2.2.2.2.2.2.2.2.2.2.2.2.2.2.2.2.2.2.2.1 hq) H locs hP hD hS ls hl
        · refine lv_tableIn (tgt := 1673) (off := 1633) hx hb dL_law__40 (by rw [hq]; decide) (by rw [hq]; decide) (by rw [hq]; rfl) (by decide) ?_
          exact bL_1673 hl0 C0 hK hN hXs hts (by omega) (by omega) hk u v o i (hw.2.2.2.2.2.2.2.2.2.2.2.2.2.2.2.2.2.2.2.2.2.2.1 hq) H locs hP hD hS ls hl
        · refine lv_tableIn (tgt := 1698) (off := 1658) hx hb dL_law__40 (by rw [hq]; decide) (by rw [hq]; decide) (by rw [hq]; rfl) (by decide) ?_
          exact bL_1698 hl0 C0 hK hN hXs hts (by omega) (by omega) hk u v o i (hw.2.2.2.2.2.2.2.2.2.2.2.2.2.2.2.2.2.2.2.2.2.2.2.1 hq) H locs hP hD hS ls hl
        · refine lv_tableIn (tgt := 1773) (off := 1733) hx hb dL_law__40 (by rw [hq]; decide) (by rw [hq]; decide) (by rw [hq]; rfl) (by decide) ?_
          exact bL_1773 hl0 C0 hK hN hXs hts (by omega) (by omega) hk u v o i (hw.2.2.2.2.2.2.2.2.2.2.2.2.2.2.2.2.2.2.2.2.2.2.2.2.1 hq) H locs hP hD hS ls hl
        · refine lv_tableIn (tgt := 1881) (off := 1841) hx hb dL_law__40 (by rw [hq]; decide) (by rw [hq]; decide) (by rw [hq]; rfl) (by decide) ?_
          exact bL_1881 hl0 C0 hK hN hXs hts (by omega) (by omega) hk u v o i (hw.2.2.2.2.2.2.2.2.2.2.2.2.2.2.2.2.2.2.2.2.2.2.2.2.2.1 hq) H locs hP hD hS ls hl
        · refine lv_tableIn (tgt := 1894) (off := 1854) hx hb dL_law__40 (by rw [hq]; decide) (by rw [hq]; decide) (by rw [hq]; rfl) (by decide) ?_
          exact bL_1894 hl0 C0 hK hN hXs hts (by omega) (by omega) hk u v o i (hw.2.2.2.2.2.2.2.2.2.2.2.2.2.2.2.2.2.2.2.2.2.2.2.2.2.2.1 hq) H locs hP hD hS ls hl
        · refine lv_tableIn (tgt := 1907) (off := 1867) hx hb dL_law__40 (by rw [hq]; decide) (by rw [hq]; decide) (by rw [hq]; rfl) (by decide) ?_
          exact bL_1907 hl0 C0 hK hN hXs hts (by omega) (by omega) hk u v o i (hw.2.2.2.2.2.2.2.2.2.2.2.2.2.2.2.2.2.2.2.2.2.2.2.2.2.2.2.1 hq) H locs hP hD hS ls hl
        · refine lv_tableIn (tgt := 2003) (off := 1963) hx hb dL_law__40 (by rw [hq]; decide) (by rw [hq]; decide) (by rw [hq]; rfl) (by decide) ?_
          exact bL_2003 hl0 C0 hK hN hXs hts (by omega) (by omega) hk u v o i (hw.2.2.2.2.2.2.2.2.2.2.2.2.2.2.2.2.2.2.2.2.2.2.2.2.2.2.2.2.1 hq) H locs hP hD hS ls hl
        · refine lv_tableIn (tgt := 2090) (off := 2050) hx hb dL_law__40 (by rw [hq]; decide) (by rw [hq]; decide) (by rw [hq]; rfl) (by decide) ?_
          exact bL_2090 hl0 C0 hK hN hXs hts (by omega) (by omega) hk u v o i (hw.2.2.2.2.2.2.2.2.2.2.2.2.2.2.2.2.2.2.2.2.2.2.2.2.2.2.2.2.2.1 hq) H locs hP hD hS ls hl
        · refine lv_tableIn (tgt := 2146) (off := 2106) hx hb dL_law__40 (by rw [hq]; decide) (by rw [hq]; decide) (by rw [hq]; rfl) (by decide) ?_
          exact bL_2146 hl0 C0 hK hN hXs hts (by omega) (by omega) hk u v o i (hw.2.2.2.2.2.2.2.2.2.2.2.2.2.2.2.2.2.2.2.2.2.2.2.2.2.2.2.2.2.2.1 hq) H locs hP hD hS ls hl
        · refine lv_tableIn (tgt := 2159) (off := 2119) hx hb dL_law__40 (by rw [hq]; decide) (by rw [hq]; decide) (by rw [hq]; rfl) (by decide) ?_
          exact bL_2159 hl0 C0 hK hN hXs hts (by omega) (by omega) hk u v o i (hw.2.2.2.2.2.2.2.2.2.2.2.2.2.2.2.2.2.2.2.2.2.2.2.2.2.2.2.2.2.2.2.1 hq) H locs hP hD hS ls hl
        · refine lv_tableIn (tgt := 2215) (off := 2175) hx hb dL_law__40 (by rw [hq]; decide) (by rw [hq]; decide) (by rw [hq]; rfl) (by decide) ?_
          exact bL_2215 hl0 C0 hK hN hXs hts (by omega) (by omega) hk u v o i (hw.2.2.2.2.2.2.2.2.2.2.2.2.2.2.2.2.2.2.2.2.2.2.2.2.2.2.2.2.2.2.2.2.1 hq) H locs hP hD hS ls hl
        · refine lv_tableIn (tgt := 2271) (off := 2231) hx hb dL_law__40 (by rw [hq]; decide) (by rw [hq]; decide) (by rw [hq]; rfl) (by decide) ?_
          exact bL_2271 hl0 C0 hK hN hXs hts (by omega) (by omega) hk u v o i (hw.2.2.2.2.2.2.2.2.2.2.2.2.2.2.2.2.2.2.2.2.2.2.2.2.2.2.2.2.2.2.2.2.2.1 hq) H locs hP hD hS ls hl
        · refine lv_tableIn (tgt := 2296) (off := 2256) hx hb dL_law__40 (by rw [hq]; decide) (by rw [hq]; decide) (by rw [hq]; rfl) (by decide) ?_
          exact bL_2296 hl0 C0 hK hN hXs hts (by omega) (by omega) hk u v o i (hw.2.2.2.2.2.2.2.2.2.2.2.2.2.2.2.2.2.2.2.2.2.2.2.2.2.2.2.2.2.2.2.2.2.2.1 hq) H locs hP hD hS ls hl
        · refine lv_tableIn (tgt := 2307) (off := 2267) hx hb dL_law__40 (by rw [hq]; decide) (by rw [hq]; decide) (by rw [hq]; rfl) (by decide) ?_
          exact bL_2307 hl0 C0 hK hN hXs hts (by omega) (by omega) hk u v o i (hw.2.2.2.2.2.2.2.2.2.2.2.2.2.2.2.2.2.2.2.2.2.2.2.2.2.2.2.2.2.2.2.2.2.2.2.1 hq) H locs hP hD hS ls hl
        · refine lv_tableIn (tgt := 2320) (off := 2280) hx hb dL_law__40 (by rw [hq]; decide) (by rw [hq]; decide) (by rw [hq]; rfl) (by decide) ?_
          exact bL_2320 hl0 C0 hK hN hXs hts (by omega) (by omega) hk u v o i (hw.2.2.2.2.2.2.2.2.2.2.2.2.2.2.2.2.2.2.2.2.2.2.2.2.2.2.2.2.2.2.2.2.2.2.2.2.1 hq) H locs hP hD hS ls hl
      · refine lv_tableOut (tgt := 2345) hx hb dL_law__40 (sw37 hq0) (by decide) ?_
        exact bL_2345 hl0 C0 hK hN hXs hts (by omega) (by omega) hk u v o i (hw.2.2.2.2.2.2.2.2.2.2.2.2.2.2.2.2.2.2.2.2.2.2.2.2.2.2.2.2.2.2.2.2.2.2.2.2.2 hq0) H locs hP hD hS ls hl
