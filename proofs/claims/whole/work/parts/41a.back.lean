/-! behind a call of the law: the whole world again, told by its new list -/
theorem wl_back {A0 : Nat → Prop} {D : va_G} {cl : List vw_C} {ws ws' wc w1 : va_W} {H H1 : Heap} {n : Nat} (hP : va_P D cl ws H) (hD : va_D A0 ws) (isC isR : List Nat) (hC : isC.map (fun i => ws[i]?) = wc.map some) (hC' : isC.map (fun i => ws'[i]?) = w1.map some) (hR : isR.map (fun i => ws'[i]?) = isR.map (fun i => ws[i]?)) (hn : ws'.length = n) (hall : ∀ k, k < n → k ∈ isC ∨ k ∈ isR) (hdis : ∀ i ∈ isR, i ∉ isC)
    (hk : ∀ q : Nat, q < H.size → ¬ va_A wc H.size q → H1[q]? = H[q]?) (hF : ∀ q, va_A wc H.size q → A0 q) (hP1 : va_P D cl w1 H1) (hD1 : va_D (va_A wc H.size) w1) : va_P D cl ws' H1 ∧ va_D A0 ws' := by
  have inC : ∀ (k : Nat) (q : Nat × va_E), k ∈ isC → ws'[k]? = some q → ∃ j : Nat, isC[j]? = some k ∧ w1[j]? = some q := by
    intro k q hkC hq
    obtain ⟨j, hj⟩ := List.mem_iff_getElem?.mp hkC
    have h1 : (isC.map (fun i => ws'[i]?))[j]? = some (some q) := by rw [List.getElem?_map, hj]; exact congrArg some hq
    rw [hC', List.getElem?_map] at h1
    cases hw : w1[j]? with
    | none => rw [hw] at h1; cases h1
    | some q' => rw [hw] at h1; cases h1; exact ⟨j, hj, hw⟩
  have inR : ∀ (k : Nat) (q : Nat × va_E), k ∈ isR → ws'[k]? = some q → ws[k]? = some q := by
    intro k q hkR hq
    obtain ⟨j, hj⟩ := List.mem_iff_getElem?.mp hkR
    have h1 : (isR.map (fun i => ws'[i]?))[j]? = some (some q) := by rw [List.getElem?_map, hj]; exact congrArg some hq
    rw [hR, List.getElem?_map, hj] at h1
    exact Option.some.inj h1
  have apart : ∀ (k : Nat) (q : Nat × va_E), k ∈ isR → ws[k]? = some q → q.1 < H.size ∧ ¬ va_A wc H.size q.1 := by
    intro k q hkR hq
    have hl := (hP k q hq).lt
    refine ⟨hl, fun h => ?_⟩
    rcases h with ⟨k2, e, h⟩ | h
    · have h1 : (isC.map (fun i => ws[i]?))[k2]? = some (some (q.1, e)) := by rw [hC, List.getElem?_map, h]; rfl
      rw [List.getElem?_map] at h1
      cases hi : isC[k2]? with
      | none => rw [hi] at h1; cases h1
      | some i =>
        rw [hi] at h1
        have hij := hD.1 k i q (q.1, e) hq (Option.some.inj h1) rfl
        subst hij
        exact hdis k hkR (List.mem_of_getElem? hi)
    · omega
  have small : ∀ (k : Nat) (q : Nat × va_E), ws'[k]? = some q → k < n := by
    intro k q hq
    rw [← hn]
    exact (List.getElem?_eq_some_iff.mp hq).1
  refine ⟨fun k q hq => ?_, fun i j p q hi hj hpq => ?_, fun k q hq => ?_⟩
  · rcases hall k (small k q hq) with h | h
    · obtain ⟨j, _, h2⟩ := inC k q h hq
      exact hP1 j q h2
    · have h1 := inR k q h hq
      obtain ⟨g1, g2⟩ := apart k q h h1
      exact (hP k q h1).kept (hk q.1 g1 g2)
  · rcases hall i (small i p hi) with h | h
    · obtain ⟨a, ha1, ha2⟩ := inC i p h hi
      rcases hall j (small j q hj) with h' | h'
      · obtain ⟨b, hb1, hb2⟩ := inC j q h' hj
        have hab := hD1.1 a b p q ha2 hb2 hpq
        subst hab
        rw [ha1] at hb1
        exact Option.some.inj hb1
      · have h1 := inR j q h' hj
        exact absurd (by rw [← hpq]; exact hD1.2 a p ha2) (apart j q h' h1).2
    · have h1 := inR i p h hi
      rcases hall j (small j q hj) with h' | h'
      · obtain ⟨b, hb1, hb2⟩ := inC j q h' hj
        exact absurd (by rw [hpq]; exact hD1.2 b q hb2) (apart i p h h1).2
      · exact hD.1 i j p q h1 (inR j q h' hj) hpq
  · rcases hall k (small k q hq) with h | h
    · obtain ⟨j, _, h2⟩ := inC k q h hq
      exact hF q.1 (hD1.2 j q h2)
    · exact hD.2 k q (inR k q h hq)
def setAll : va_W → List Nat → va_W → va_W
  | ws, i :: is, c :: cs => setAll (ws.set i c) is cs
  | ws, _, _ => ws
theorem setAll_len : ∀ (is : List Nat) (ws cs : va_W), (setAll ws is cs).length = ws.length
  | [], ws, cs => by cases cs <;> rfl
  | i :: is, ws, [] => rfl
  | i :: is, ws, c :: cs => by
    show (setAll (ws.set i c) is cs).length = _
    rw [setAll_len is (ws.set i c) cs, List.length_set]
theorem setAll_out {k : Nat} : ∀ (is : List Nat) (ws cs : va_W), k ∉ is → (setAll ws is cs)[k]? = ws[k]?
  | [], ws, cs, _ => by cases cs <;> rfl
  | i :: is, ws, [], _ => rfl
  | i :: is, ws, c :: cs, h => by
    show (setAll (ws.set i c) is cs)[k]? = _
    rw [setAll_out is (ws.set i c) cs (fun hm => h (List.mem_cons_of_mem _ hm)), List.getElem?_set_ne (fun e => h (by rw [e]; exact List.mem_cons_self))]
theorem setAll_in : ∀ (is : List Nat) (ws cs : va_W), va_nd is = true → is.length = cs.length → (∀ i ∈ is, i < ws.length) → is.map (fun i => (setAll ws is cs)[i]?) = cs.map some
  | [], ws, [], _, _, _ => rfl
  | i :: is, ws, c :: cs, hn, hl, hr => by
    have hn' : i ∉ is ∧ va_nd is = true := by simpa [va_nd] using hn
    have ih := setAll_in is (ws.set i c) cs hn'.2 (by simpa using hl) (fun j hj => by rw [List.length_set]; exact hr j (List.mem_cons_of_mem _ hj))
    rw [List.map_cons, List.map_cons]
    congr 1
    show (setAll (ws.set i c) is cs)[i]? = some c
    rw [setAll_out is (ws.set i c) cs hn'.1, List.getElem?_set_self (hr i List.mem_cons_self)]
  | [], ws, c :: cs, _, hl, _ => by cases hl
  | i :: is, ws, [], _, hl, _ => by cases hl
theorem wl_put {A0 : Nat → Prop} {D : va_G} {cl : List vw_C} {ws wc w1 : va_W} {H H1 : Heap} (hP : va_P D cl ws H) (hD : va_D A0 ws) (isC : List Nat) (hC : isC.map (fun i => ws[i]?) = wc.map some) (hn : va_nd isC = true) (hl : isC.length = w1.length)
    (hk : ∀ q : Nat, q < H.size → ¬ va_A wc H.size q → H1[q]? = H[q]?) (hF : ∀ q, va_A wc H.size q → A0 q) (hP1 : va_P D cl w1 H1) (hD1 : va_D (va_A wc H.size) w1) : va_P D cl (setAll ws isC w1) H1 ∧ va_D A0 (setAll ws isC w1) := by
  have hr : ∀ i ∈ isC, i < ws.length := by
    intro i hi
    obtain ⟨j, hj⟩ := List.mem_iff_getElem?.mp hi
    have h1 : (isC.map (fun i => ws[i]?))[j]? = some (ws[i]?) := by rw [List.getElem?_map, hj]; rfl
    rw [hC, List.getElem?_map] at h1
    cases hw : wc[j]? with
    | none => rw [hw] at h1; cases h1
    | some q =>
      rw [hw] at h1
      have h2 : ws[i]? = some q := (Option.some.inj h1).symm
      exact (List.getElem?_eq_some_iff.mp h2).1
  refine wl_back (n := ws.length) hP hD isC ((List.range ws.length).filter (fun k => decide (k ∉ isC))) hC (setAll_in isC ws w1 hn hl hr) (List.map_congr_left (fun k hk => ?_)) (setAll_len isC ws w1) (fun k hk => ?_) (fun i hi => ?_) hk hF hP1 hD1
  · exact setAll_out isC ws w1 (of_decide_eq_true (List.mem_filter.mp hk).2)
  · by_cases h : k ∈ isC
    · exact Or.inl h
    · exact Or.inr (List.mem_filter.mpr ⟨List.mem_range.mpr hk, decide_eq_true h⟩)
  · exact of_decide_eq_true (List.mem_filter.mp hi).2
