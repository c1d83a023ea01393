theorem txpl_of {q : (String × Nat × String × List Int32) × List Nat} (h : (needS q.1.1 q.1.2.1 q.1.2.2.2).map some = q.2.map (fun j => (flatC (Jvm.Cond.and given_1 narrow_1))[j]?)) : ∀ c ∈ needS q.1.1 q.1.2.1 q.1.2.2.2, c ∈ flatC (Jvm.Cond.and given_1 narrow_1) := by
  intro c hc
  obtain ⟨a, ha⟩ := List.mem_iff_getElem?.mp hc
  have h1 : ((needS q.1.1 q.1.2.1 q.1.2.2.2).map some)[a]? = some (some c) := by rw [List.getElem?_map, ha]; rfl
  rw [h, List.getElem?_map] at h1
  cases hj : q.2[a]? with
  | none => rw [hj] at h1; cases h1
  | some j => rw [hj] at h1; exact List.mem_of_getElem? (Option.some.inj h1)
theorem txneed_in : ∀ (i : Nat) (q : String × Nat × String × List Int32), txW[i]? = some q → ∀ c ∈ needS q.1 q.2.1 q.2.2.2, c ∈ flatC (Jvm.Cond.and given_1 narrow_1) := by
  intro i q hq
  have hi : i < 44 := (List.getElem?_eq_some_iff.mp hq).1
  obtain ⟨x, hx⟩ : ∃ x, nIx[i]? = some x := ⟨nIx[i]'(by show i < 44; exact hi), List.getElem?_eq_getElem _⟩
  have hz : (txW.zip nIx)[i]? = some (q, x) := List.getElem?_zip_eq_some.mpr ⟨hq, hx⟩
  have key : ∀ (a n : Nat), a ≤ i → i < a + n → (q, x) ∈ ((txW.zip nIx).drop a).take n := fun a n h1 h2 => List.mem_of_getElem? (i := i - a) (by rw [List.getElem?_take_of_lt (by omega), List.getElem?_drop, show a + (i - a) = i by omega]; exact hz)
  by_cases h0 : i < 6
  · exact txpl_of (txpl_0 (q, x) (key 0 6 (by omega) (by omega)))
  by_cases h1 : i < 12
  · exact txpl_of (txpl_1 (q, x) (key 6 6 (by omega) (by omega)))
  by_cases h2 : i < 18
  · exact txpl_of (txpl_2 (q, x) (key 12 6 (by omega) (by omega)))
  by_cases h3 : i < 24
  · exact txpl_of (txpl_3 (q, x) (key 18 6 (by omega) (by omega)))
  by_cases h4 : i < 30
  · exact txpl_of (txpl_4 (q, x) (key 24 6 (by omega) (by omega)))
  by_cases h5 : i < 36
  · exact txpl_of (txpl_5 (q, x) (key 30 6 (by omega) (by omega)))
  by_cases h6 : i < 42
  · exact txpl_of (txpl_6 (q, x) (key 36 6 (by omega) (by omega)))
  by_cases h7 : i < 44
  · exact txpl_of (txpl_7 (q, x) (key 42 2 (by omega) (by omega)))
  exact absurd hi (by omega)
theorem tx_start {s : State} {b : Nat} {A : Nat → Prop} (hA : ∀ a : Nat, a < s.heap.size → ¬ A a) (hts : ∀ w ∈ lw_tbl, w.before #[Value.ref b] s = true) (hgv : (Jvm.Cond.and given_1 narrow_1).before #[Value.ref b] s = true) : ∃ adS : Nat → Nat, txL adS A s s.heap := by
  have hs := flat_of_before _ hgv
  have one : ∀ i : Nat, ∃ a : Nat, ∀ q : String × Nat × String × List Int32, txW[i]? = some q → vk_R q.1 q.2.1 q.2.2.1 a s ∧ txO q.2.2.2 a A s s.heap := by
    intro i
    cases hq : txW[i]? with
    | none => exact ⟨0, fun q h => by cases h⟩
    | some q =>
      obtain ⟨a, h1, h2⟩ := tx_one (args := #[Value.ref b]) hA (txlen_in q (List.mem_of_getElem? hq)) (hts _ (txref_in q (List.mem_of_getElem? hq))) (fun c hc => hs c (txneed_in i q hq c hc))
      exact ⟨a, fun q' h => by cases h; exact ⟨h1, h2⟩⟩
  obtain ⟨adS, had⟩ := Classical.axiomOfChoice one
  refine ⟨adS, ⟨⟨⟨?_, ?_⟩, had⟩, ?_, ?_, ?_⟩, ?_, ?_⟩
  · exact va_Zof (hts (.laysStatic "java/lang/String" "COMPACT_STRINGS" "Z") (by decide +kernel)) (hts (.initialized "java/lang/String") (by decide +kernel)) (va_eqt (hs (.eq (.static "java/lang/String" "COMPACT_STRINGS" "Z") (.int 1)) (by decide +kernel))) hA
  · exact va_Zqof (hts (.laysStatic "jdk/internal/util/Preconditions" "SIOOBE_FORMATTER" "Ljava/util/function/BiFunction;") (by decide +kernel)) (hts (.initialized "jdk/internal/util/Preconditions") (by decide +kernel)) (hs (.isRef (.static "jdk/internal/util/Preconditions" "SIOOBE_FORMATTER" "Ljava/util/function/BiFunction;")) (by decide +kernel)) hA
  · exact vx_Zqof (hts (.laysStatic Bundle.tN "UNASSIGNED_STACK" Bundle.steD) (by decide +kernel)) (hts (.initialized Bundle.tN) (by decide +kernel)) (hs (.isRef (.static Bundle.tN "UNASSIGNED_STACK" Bundle.steD)) (by decide +kernel)) hA
  · exact vx_Zqof (hts (.laysStatic Bundle.tN "SUPPRESSED_SENTINEL" Bundle.listD) (by decide +kernel)) (hts (.initialized Bundle.tN) (by decide +kernel)) (hs (.isRef (.static Bundle.tN "SUPPRESSED_SENTINEL" Bundle.listD)) (by decide +kernel)) hA
  · have hin : ∀ w ∈ txBadL, w ∈ lw_tbl := by decide +kernel
    exact fun w hw => va_Nw.of (List.all_eq_true.mp txBad_tab w hw) (hts w (hin w (txBad_sub w hw)))
  · exact va_Nc.of (hs (.not (.castable "java/lang/IllegalArgumentException" "java/lang/IndexOutOfBoundsException")) (by decide +kernel))
  · exact va_Nc.of (hs (.not (.castable "java/lang/UnsupportedOperationException" "java/lang/IllegalArgumentException")) (by decide +kernel))
