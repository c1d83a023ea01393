/-! what the start gives: kinds of arrays, words of nest mates, texts, statics -/
theorem arr_known {s : State} {args : Array Value} {ty : FieldType} (h : (Cond.arrayClass ty).before args s = true) (hp : refKind ty = false) : ∃ cA : ClassId, ArrOfT s cA ty ∧ va_RA s cA ty := by
  obtain ⟨cA, kA, comp, h1, h2, h3⟩ := Cond.arrayClass_spec h
  refine ⟨cA, fun n z => ⟨fun k h => (by cases h), kA, h2, comp, h3⟩, ?_⟩
  cases ty with
  | object C => cases hp
  | _ => exact h1
theorem nw_start {s : State} {b : Nat} (hts : ∀ w ∈ lw_tbl, w.before #[Value.ref b] s = true) : nwA s := by
  have hin : ∀ w ∈ nwL, w ∈ lw_tbl := by decide +kernel
  intro w hw
  exact va_Nw.of (List.all_eq_true.mp nwL_tab w hw) (hts w (hin w hw))
def needS (own : String) (k : Nat) (bs : List Int32) : List Cond :=
  [.exactly (.string own k) "java/lang/String", .eq (.field (.string own k) "java/lang/String" "coder" "B") (.int 0), .arrayOf (.field (.string own k) "java/lang/String" "value" "[B") .byte, .eq (.length (.field (.string own k) "java/lang/String" "value" "[B")) (.int (Int32.ofNat bs.length))] ++
  (List.range bs.length).map (fun j => .eq (.elem (.field (.string own k) "java/lang/String" "value" "[B") (.int (Int32.ofNat j))) (.int (bs.getD j 0)))
theorem tx_one {args : Array Value} {s : State} {own tx : String} {k : Nat} {bs : List Int32} {A : Nat → Prop} (hA : ∀ a : Nat, a < s.heap.size → ¬ A a) (h31 : bs.length < 2 ^ 31) (h1 : (Cond.stringRef own k tx).before args s = true) (h2 : ∀ c ∈ needS own k bs, c.before args s = true) : ∃ a : Nat, vk_R own k tx a s ∧ txO bs a A s s.heap := by
  obtain ⟨adK, adV, hS, hev⟩ := vk_Sof (args := args) (s := s) (N := 1) (tm := fun _ => .string own k) (len := [bs.length]) (byt := [bs]) (A := A)
    (fun i hi => by obtain rfl : i = 0 := by omega
                    exact h31)
    (fun i hi => h2 _ (by simp [needS])) (fun i hi => h2 _ (by simp [needS])) (fun i hi => h2 _ (by simp [needS]))
    (fun i hi => by obtain rfl : i = 0 := by omega
                    exact h2 _ (by simp [needS]))
    (fun i hi j hj => by obtain rfl : i = 0 := by omega
                         have hj' : j < bs.length := hj
                         refine h2 _ ?_
                         rw [needS]
                         exact List.mem_append_right _ (List.mem_map.mpr ⟨j, List.mem_range.mpr hj', rfl⟩))
    (fun i j hi hj hij => absurd (by omega : i = j) hij) hA
  obtain ⟨q1, q2, q3, q4⟩ := hS.1 0 (by omega)
  exact ⟨adK 0, vk_R.of (A := args) h1 (hev 0 (by omega)), adV 0, q1, q2, q3, q4⟩
theorem txref_in : ∀ q ∈ txW, Cond.stringRef q.1 q.2.1 q.2.2.1 ∈ lw_tbl := by decide +kernel
theorem txlen_in : ∀ q ∈ txW, q.2.2.2.length < 2 ^ 31 := by decide +kernel
theorem txneed_0 : ∀ q ∈ (txW.drop 0).take 6, ∀ c ∈ needS q.1 q.2.1 q.2.2.2, c ∈ flatC (Jvm.Cond.and given_1 narrow_1) := by decide +kernel
theorem txneed_1 : ∀ q ∈ (txW.drop 6).take 6, ∀ c ∈ needS q.1 q.2.1 q.2.2.2, c ∈ flatC (Jvm.Cond.and given_1 narrow_1) := by decide +kernel
theorem txneed_2 : ∀ q ∈ (txW.drop 12).take 6, ∀ c ∈ needS q.1 q.2.1 q.2.2.2, c ∈ flatC (Jvm.Cond.and given_1 narrow_1) := by decide +kernel
theorem txneed_3 : ∀ q ∈ (txW.drop 18).take 6, ∀ c ∈ needS q.1 q.2.1 q.2.2.2, c ∈ flatC (Jvm.Cond.and given_1 narrow_1) := by decide +kernel
theorem txneed_4 : ∀ q ∈ (txW.drop 24).take 6, ∀ c ∈ needS q.1 q.2.1 q.2.2.2, c ∈ flatC (Jvm.Cond.and given_1 narrow_1) := by decide +kernel
theorem txneed_5 : ∀ q ∈ (txW.drop 30).take 6, ∀ c ∈ needS q.1 q.2.1 q.2.2.2, c ∈ flatC (Jvm.Cond.and given_1 narrow_1) := by decide +kernel
theorem txneed_6 : ∀ q ∈ (txW.drop 36).take 6, ∀ c ∈ needS q.1 q.2.1 q.2.2.2, c ∈ flatC (Jvm.Cond.and given_1 narrow_1) := by decide +kernel
theorem txneed_7 : ∀ q ∈ (txW.drop 42).take 2, ∀ c ∈ needS q.1 q.2.1 q.2.2.2, c ∈ flatC (Jvm.Cond.and given_1 narrow_1) := by decide +kernel
theorem txneed_in : ∀ (i : Nat) (q : String × Nat × String × List Int32), txW[i]? = some q → ∀ c ∈ needS q.1 q.2.1 q.2.2.2, c ∈ flatC (Jvm.Cond.and given_1 narrow_1) := by
  intro i q hq
  have hi : i < 44 := (List.getElem?_eq_some_iff.mp hq).1
  have key : ∀ (a n : Nat), a ≤ i → i < a + n → q ∈ (txW.drop a).take n := fun a n h1 h2 => List.mem_of_getElem? (i := i - a) (by rw [List.getElem?_take_of_lt (by omega), List.getElem?_drop, show a + (i - a) = i by omega]; exact hq)
  by_cases h0 : i < 6
  · exact txneed_0 q (key 0 6 (by omega) (by omega))
  by_cases h1 : i < 12
  · exact txneed_1 q (key 6 6 (by omega) (by omega))
  by_cases h2 : i < 18
  · exact txneed_2 q (key 12 6 (by omega) (by omega))
  by_cases h3 : i < 24
  · exact txneed_3 q (key 18 6 (by omega) (by omega))
  by_cases h4 : i < 30
  · exact txneed_4 q (key 24 6 (by omega) (by omega))
  by_cases h5 : i < 36
  · exact txneed_5 q (key 30 6 (by omega) (by omega))
  by_cases h6 : i < 42
  · exact txneed_6 q (key 36 6 (by omega) (by omega))
  by_cases h7 : i < 44
  · exact txneed_7 q (key 42 2 (by omega) (by omega))
  exact absurd hi (by omega)
theorem tx_start {s : State} {b : Nat} {A : Nat → Prop} (hA : ∀ a : Nat, a < s.heap.size → ¬ A a) (hts : ∀ w ∈ lw_tbl, w.before #[Value.ref b] s = true) (hgv : (Jvm.Cond.and given_1 narrow_1).before #[Value.ref b] s = true) : ∃ adS : Nat → Nat, txL adS A s s.heap := by
  have hs := flat_of_before _ hgv
  have one : ∀ i : Nat, ∃ a : Nat, ∀ q : String × Nat × String × List Int32, txW[i]? = some q → vk_R q.1 q.2.1 q.2.2.1 a s ∧ txO q.2.2.2 a A s s.heap := by
    intro i
    cases hq : txW[i]? with
    | none => exact ⟨0, fun q h => by cases h⟩
    | some q =>
      obtain ⟨a, h1, h2⟩ := tx_one (args := #[Value.ref b]) hA (txlen_in q (List.mem_of_getElem? hq)) (hts _ (txref_in q (List.mem_of_getElem? hq))) (fun c hc => hs c (txneed_in i q hq c hc))
      exact ⟨a, fun q' h => by cases h; exact ⟨h1, h2⟩⟩
  obtain ⟨adS, had⟩ := Classical.axiomOfChoice one
  refine ⟨adS, ⟨⟨⟨?_, ?_⟩, had⟩, ?_, ?_, ?_⟩, ?_, ?_⟩
  · exact va_Zof (hts (.laysStatic "java/lang/String" "COMPACT_STRINGS" "Z") (by decide +kernel)) (hts (.initialized "java/lang/String") (by decide +kernel)) (va_eqt (hs (.eq (.static "java/lang/String" "COMPACT_STRINGS" "Z") (.int 1)) (by decide +kernel))) hA
  · exact va_Zqof (hts (.laysStatic "jdk/internal/util/Preconditions" "SIOOBE_FORMATTER" "Ljava/util/function/BiFunction;") (by decide +kernel)) (hts (.initialized "jdk/internal/util/Preconditions") (by decide +kernel)) (hs (.isRef (.static "jdk/internal/util/Preconditions" "SIOOBE_FORMATTER" "Ljava/util/function/BiFunction;")) (by decide +kernel)) hA
  · exact vx_Zqof (hts (.laysStatic Bundle.tN "UNASSIGNED_STACK" Bundle.steD) (by decide +kernel)) (hts (.initialized Bundle.tN) (by decide +kernel)) (hs (.isRef (.static Bundle.tN "UNASSIGNED_STACK" Bundle.steD)) (by decide +kernel)) hA
  · exact vx_Zqof (hts (.laysStatic Bundle.tN "SUPPRESSED_SENTINEL" Bundle.listD) (by decide +kernel)) (hts (.initialized Bundle.tN) (by decide +kernel)) (hs (.isRef (.static Bundle.tN "SUPPRESSED_SENTINEL" Bundle.listD)) (by decide +kernel)) hA
  · have hin : ∀ w ∈ txBadL, w ∈ lw_tbl := by decide +kernel
    exact fun w hw => va_Nw.of (List.all_eq_true.mp txBad_tab w hw) (hts w (hin w (txBad_sub w hw)))
  · exact va_Nc.of (hs (.not (.castable "java/lang/IllegalArgumentException" "java/lang/IndexOutOfBoundsException")) (by decide +kernel))
  · exact va_Nc.of (hs (.not (.castable "java/lang/UnsupportedOperationException" "java/lang/IllegalArgumentException")) (by decide +kernel))
