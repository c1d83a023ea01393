theorem arr_known {s : State} {args : Array Value} {ty : FieldType} (h : (Cond.arrayClass ty).before args s = true) (hp : refKind ty = false) : ∃ cA : ClassId, ArrOfT s cA ty ∧ va_RA s cA ty := by
  obtain ⟨cA, kA, comp, h1, h2, h3⟩ := Cond.arrayClass_spec h
  refine ⟨cA, fun n z => ⟨fun k h => (by cases h), kA, h2, comp, h3⟩, ?_⟩
  cases ty with
  | object C => cases hp
  | _ => exact h1
def needS (own : String) (k : Nat) (bs : List Int32) : List Cond :=
  [.exactly (.string own k) "java/lang/String", .eq (.field (.string own k) "java/lang/String" "coder" "B") (.int 0), .arrayOf (.field (.string own k) "java/lang/String" "value" "[B") .byte, .eq (.length (.field (.string own k) "java/lang/String" "value" "[B")) (.int (Int32.ofNat bs.length))] ++
  (List.range bs.length).map (fun j => .eq (.elem (.field (.string own k) "java/lang/String" "value" "[B") (.int (Int32.ofNat j))) (.int (bs.getD j 0)))
theorem tx_one {args : Array Value} {s : State} {own tx : String} {k : Nat} {bs : List Int32} {A : Nat → Prop} (hA : ∀ a : Nat, a < s.heap.size → ¬ A a) (h31 : bs.length < 2 ^ 31) (h1 : (Cond.stringRef own k tx).before args s = true) (h2 : ∀ c ∈ needS own k bs, c.before args s = true) : ∃ a : Nat, vk_R own k tx a s ∧ txO bs a A s s.heap := by
  obtain ⟨adK, adV, hS, hev⟩ := vk_Sof (args := args) (s := s) (N := 1) (tm := fun _ => .string own k) (len := [bs.length]) (byt := [bs]) (A := A)
    (fun i hi => by obtain rfl : i = 0 := by omega
                    exact h31)
    (fun i hi => h2 _ (by simp [needS])) (fun i hi => h2 _ (by simp [needS])) (fun i hi => h2 _ (by simp [needS]))
    (fun i hi => by obtain rfl : i = 0 := by omega
                    exact h2 _ (by simp [needS]))
    (fun i hi j hj => by obtain rfl : i = 0 := by omega
                         have hj' : j < bs.length := hj
                         refine h2 _ ?_
                         rw [needS]
                         exact List.mem_append_right _ (List.mem_map.mpr ⟨j, List.mem_range.mpr hj', rfl⟩))
    (fun i j hi hj hij => absurd (by omega : i = j) hij) hA
  obtain ⟨q1, q2, q3, q4⟩ := hS.1 0 (by omega)
  exact ⟨adK 0, vk_R.of (A := args) h1 (hev 0 (by omega)), adV 0, q1, q2, q3, q4⟩
