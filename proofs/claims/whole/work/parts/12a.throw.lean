/-! what a throw needs beside the words -/
def txBad : List Cond := (vx_atS RX10 106 "java/lang/IllegalArgumentException" ["java/lang/RuntimeException", "java/lang/Exception"]).filter (fun w => !goodWord w) ++ ((vx_atS RX10 116 "java/lang/UnsupportedOperationException" ["java/lang/RuntimeException", "java/lang/Exception"]).filter (fun w => !goodWord w) ++ ((vx_atS RX10 321 "java/lang/IndexOutOfBoundsException" ["java/lang/RuntimeException", "java/lang/Exception"]).filter (fun w => !goodWord w) ++ ((lt_at RX10 295 "java/util/NoSuchElementException" "java/lang/RuntimeException" ["java/lang/Exception"]).filter (fun w => !goodWord w))))
theorem txBad_tab : txBad.all Cond.onTables = true := by decide +kernel
def txBadL : List Cond := [.declares (Bundle.initS "java/lang/RuntimeException"), .declares (Bundle.initS "java/lang/Exception"), .declares (Bundle.initS Bundle.tN), .castable "java/lang/IllegalArgumentException" "java/lang/IllegalArgumentException", .castable "java/lang/UnsupportedOperationException" "java/lang/UnsupportedOperationException", .castable "java/lang/IndexOutOfBoundsException" "java/lang/IndexOutOfBoundsException", .castable "java/util/NoSuchElementException" "java/util/NoSuchElementException"]
theorem txBad_sub : ∀ w ∈ txBad, w ∈ txBadL := by decide +kernel
theorem hbd_106 : ∀ w ∈ (vx_atS RX10 106 "java/lang/IllegalArgumentException" ["java/lang/RuntimeException", "java/lang/Exception"]).filter (fun w => !goodWord w), w ∈ txBad := fun _ h => List.mem_append_left _ h
theorem hbd_116 : ∀ w ∈ (vx_atS RX10 116 "java/lang/UnsupportedOperationException" ["java/lang/RuntimeException", "java/lang/Exception"]).filter (fun w => !goodWord w), w ∈ txBad := fun _ h => List.mem_append_right _ (List.mem_append_left _ h)
theorem hbd_321 : ∀ w ∈ (vx_atS RX10 321 "java/lang/IndexOutOfBoundsException" ["java/lang/RuntimeException", "java/lang/Exception"]).filter (fun w => !goodWord w), w ∈ txBad := fun _ h => List.mem_append_right _ (List.mem_append_right _ (List.mem_append_left _ h))
theorem hbd_295 : ∀ w ∈ (lt_at RX10 295 "java/util/NoSuchElementException" "java/lang/RuntimeException" ["java/lang/Exception"]).filter (fun w => !goodWord w), w ∈ txBad := fun _ h => List.mem_append_right _ (List.mem_append_right _ (List.mem_append_right _ (h)))

abbrev thZ : xT := fun A U H => vx_Zq Bundle.tN "UNASSIGNED_STACK" Bundle.steD A U H
abbrev thN : xT := fun A U H => vx_Zq Bundle.tN "SUPPRESSED_SENTINEL" Bundle.listD A U H
theorem xOk_thZ : xOk thZ := ⟨fun A u U H h q => q.moved (al_same h), fun A s U H hW q => q.moved hW.alike, fun A U H H1 hq q => q.kept hq, fun A B U H hq q => q.narrow hq⟩
theorem xOk_thN : xOk thN := ⟨fun A u U H h q => q.moved (al_same h), fun A s U H hW q => q.moved hW.alike, fun A U H H1 hq q => q.kept hq, fun A B U H hq q => q.narrow hq⟩
def thB : xT := fun _ U _ => ∀ w ∈ txBad, w.before #[] U = true
theorem xOk_thB : xOk thB := ⟨fun A u U H h q w hw => va_Nw.same (List.all_eq_true.mp txBad_tab w hw) h (q w hw), fun A s U H hW q w hw => by
  have hq : va_Nw w s := q w hw
  have hm := txBad_sub w hw
  simp only [txBadL, List.mem_cons, List.not_mem_nil, or_false] at hm
  rcases hm with hm | hm | hm | hm | hm | hm | hm
  all_goals (subst hm; first | exact va_Nw.warmD hW hq | exact va_Nw.warmC hW hq), fun A U H H1 hq q => q, fun A B U H hq q => q⟩
def txT (adS : Nat → Nat) : xT := fun A U H => txA adS A U H ∧ thZ A U H ∧ thN A U H ∧ thB A U H
theorem xOk_txT (adS : Nat → Nat) : xOk (txT adS) := (xOk_txA adS).and (xOk_thZ.and (xOk_thN.and xOk_thB))
theorem thr_X {S : Type} {postX : String → S → Prop} {dC : Nat → ClassId} {dI : Nat → Nat → Nat} {cyI cyB cyJ cyZ : ClassId} {A : Nat → Prop} {cells : S → va_W} {E : String} {s t : State} {H : Heap} {locs : List Loc} (u : S) (hw : postX E u) (hP : va_P (dC, dI) vwCl (cells u) H) (hK : va_K (dC, dI) vwCl (tyA cyI cyB cyJ cyZ) s) (hD : va_D A (cells u)) (hS : va_S A s.heap H locs) (hvm : s.vm.Alike t.vm) (hz : H.size ≤ t.heap.size) (hk : ∀ q : Nat, q < H.size → t.heap[q]? = H[q]?) :
    vx_X (fun _ : S => True) (fun E (u : S) t => postX E u ∧ wAt dC dI cyI cyB cyJ cyZ A (cells u) t) A E s t :=
  ⟨u, trivial, ⟨hw, fun k q hq => (hP k q hq).kept (hk q.1 (hP k q hq).lt), va_K.moved hvm hK, hD⟩, Nat.le_trans hS.1 hz, fun q h1 h2 => (hk q (Nat.lt_of_lt_of_le h1 hS.1)).trans (hS.2.1 q h1 h2)⟩
def txL (adS : Nat → Nat) : xT := fun A U H => txT adS A U H ∧ va_Nc "java/lang/IllegalArgumentException" "java/lang/IndexOutOfBoundsException" U ∧ va_Nc "java/lang/UnsupportedOperationException" "java/lang/IllegalArgumentException" U
theorem xOk_nc (E F : String) : xOk (fun _ U _ => va_Nc E F U) := ⟨fun A u U H h q => q.moved (al_same h), fun A s U H hW q => q.moved hW.alike, fun A U H H1 hq q => q, fun A B U H hq q => q⟩
theorem xOk_txL (adS : Nat → Nat) : xOk (txL adS) := (xOk_txT adS).and ((xOk_nc _ _).and (xOk_nc _ _))
theorem hgd_106 : ∀ w ∈ Cond.classLink RX10 102 "java/lang/IllegalArgumentException" :: Cond.initialized "java/lang/IllegalArgumentException" :: vx_atS RX10 106 "java/lang/IllegalArgumentException" ["java/lang/RuntimeException", "java/lang/Exception"], vx_ot w = true := by
  have h : (Cond.classLink RX10 102 "java/lang/IllegalArgumentException" :: Cond.initialized "java/lang/IllegalArgumentException" :: vx_atS RX10 106 "java/lang/IllegalArgumentException" ["java/lang/RuntimeException", "java/lang/Exception"]).all vx_ot = true := by decide +kernel
  exact fun w hw => List.all_eq_true.mp h w hw
theorem hgd_116 : ∀ w ∈ Cond.classLink RX10 112 "java/lang/UnsupportedOperationException" :: Cond.initialized "java/lang/UnsupportedOperationException" :: vx_atS RX10 116 "java/lang/UnsupportedOperationException" ["java/lang/RuntimeException", "java/lang/Exception"], vx_ot w = true := by
  have h : (Cond.classLink RX10 112 "java/lang/UnsupportedOperationException" :: Cond.initialized "java/lang/UnsupportedOperationException" :: vx_atS RX10 116 "java/lang/UnsupportedOperationException" ["java/lang/RuntimeException", "java/lang/Exception"]).all vx_ot = true := by decide +kernel
  exact fun w hw => List.all_eq_true.mp h w hw
theorem hgd_321 : ∀ w ∈ Cond.classLink RX10 317 "java/lang/IndexOutOfBoundsException" :: Cond.initialized "java/lang/IndexOutOfBoundsException" :: vx_atS RX10 321 "java/lang/IndexOutOfBoundsException" ["java/lang/RuntimeException", "java/lang/Exception"], vx_ot w = true := by
  have h : (Cond.classLink RX10 317 "java/lang/IndexOutOfBoundsException" :: Cond.initialized "java/lang/IndexOutOfBoundsException" :: vx_atS RX10 321 "java/lang/IndexOutOfBoundsException" ["java/lang/RuntimeException", "java/lang/Exception"]).all vx_ot = true := by decide +kernel
  exact fun w hw => List.all_eq_true.mp h w hw
theorem hgd_295 : ∀ w ∈ Cond.classLink RX10 291 "java/util/NoSuchElementException" :: Cond.initialized "java/util/NoSuchElementException" :: lt_at RX10 295 "java/util/NoSuchElementException" "java/lang/RuntimeException" ["java/lang/Exception"], vx_ot w = true := by
  have h : (Cond.classLink RX10 291 "java/util/NoSuchElementException" :: Cond.initialized "java/util/NoSuchElementException" :: lt_at RX10 295 "java/util/NoSuchElementException" "java/lang/RuntimeException" ["java/lang/Exception"]).all vx_ot = true := by decide +kernel
  exact fun w hw => List.all_eq_true.mp h w hw

