def Fro (n : Nat) (N : Nat → Nat → Prop) : Nat → Nat → Nat → Prop
  | 0, c, a => c + 1 = n ∧ a < n ∧ ∀ j, a ≤ j → j < n → N c j
  | k + 1, c, a => ∃ b, a ≤ b ∧ b < n ∧ (∀ j, a ≤ j → j ≤ b → N c j) ∧ ∃ c', c < c' ∧ c' < n ∧ (Fro n N k c' b ∨ Fro n N k c' (b + 1))
section
variable {n : Nat} {N : Nat → Nat → Prop}
theorem Fr_in {k c a : Nat} (h : Fro n N k c a) : N c a ∧ a < n ∧ c < n := by
  cases k with
  | zero => exact ⟨h.2.2 a (Nat.le_refl a) h.2.1, h.2.1, by have := h.1; omega⟩
  | succ k =>
    obtain ⟨b, h1, h2, h3, c', h4, h5, _⟩ := h
    exact ⟨h3 a (Nat.le_refl a) h1, by omega, by omega⟩
theorem Fr_bd : ∀ {k c a : Nat}, Fro n N k c a → c + k < n := by
  intro k
  induction k with
  | zero => intro c a h; have := h.1; omega
  | succ k ih =>
    intro c a h
    obtain ⟨b, h1, h2, h3, c', h4, h5, h6⟩ := h
    rcases h6 with h6 | h6 <;> · have := ih h6; omega
theorem Fr_run {k c : Nat} {a b : Nat} (h : Fro n N k c b) (hab : a ≤ b) (hN : ∀ j, a ≤ j → j < b → N c j) : Fro n N k c a := by
  cases k with
  | zero =>
    refine ⟨h.1, by have := h.2.1; omega, fun j h1 h2 => ?_⟩
    by_cases e : j < b
    · exact hN j h1 e
    · exact h.2.2 j (by omega) h2
  | succ k =>
    obtain ⟨d, h1, h2, h3, h4⟩ := h
    refine ⟨d, by omega, h2, fun j q1 q2 => ?_, h4⟩
    by_cases e : j < b
    · exact hN j q1 e
    · exact h3 j (by omega) q2
def sc (P : Nat → Prop) (k : Nat) : Prop := ∃ j, k = j + 1 ∧ P j
def On (n : Nat) (N : Nat → Nat → Prop) (c a k : Nat) : Prop := ∃ c', c ≤ c' ∧ c' < n ∧ Fro n N k c' a
theorem Fr_step {k c a : Nat} (hN : N c a) (hc : c < n) (ha : a < n) : Fro n N k c a ↔ ((sc (fun j => On n N (c + 1) a j ∨ On n N (c + 1) (a + 1) j) k ∨ (k = 0 ∧ c + 1 = n ∧ a + 1 = n)) ∨ Fro n N k c (a + 1)) := by
  constructor
  · intro h
    cases k with
    | zero =>
      by_cases e : a + 1 = n
      · exact Or.inl (Or.inr ⟨rfl, h.1, e⟩)
      · exact Or.inr ⟨h.1, by omega, fun j q1 q2 => h.2.2 j (by omega) q2⟩
    | succ k =>
      obtain ⟨b, h1, h2, h3, c', h4, h5, h6⟩ := h
      by_cases e : b = a
      · subst e
        exact Or.inl (Or.inl ⟨k, rfl, h6.elim (fun q => Or.inl ⟨c', h4, h5, q⟩) (fun q => Or.inr ⟨c', h4, h5, q⟩)⟩)
      · exact Or.inr ⟨b, by omega, h2, fun j q1 q2 => h3 j (by omega) q2, c', h4, h5, h6⟩
  · intro h
    rcases h with (⟨j, e, h⟩ | ⟨e, h1, h2⟩) | h
    · subst e
      rcases h with ⟨c', h1, h2, h3⟩ | ⟨c', h1, h2, h3⟩
      · exact ⟨a, Nat.le_refl a, ha, fun j q1 q2 => by rw [show j = a by omega]; exact hN, c', h1, h2, Or.inl h3⟩
      · exact ⟨a, Nat.le_refl a, ha, fun j q1 q2 => by rw [show j = a by omega]; exact hN, c', h1, h2, Or.inr h3⟩
    · subst e
      exact ⟨h1, ha, fun j q1 q2 => by rw [show j = a by omega]; exact hN⟩
    · exact Fr_run h (by omega) (fun j q1 q2 => by rw [show j = a by omega]; exact hN)
theorem Fr_id (hN : ∀ c, c < n → N c c) : ∀ m c : Nat, c + m + 1 = n → Fro n N m c c := by
  intro m
  induction m with
  | zero => intro c h; exact ⟨by omega, by omega, fun j q1 q2 => by rw [show j = c by omega]; exact hN c (by omega)⟩
  | succ m ih =>
    intro c h
    exact ⟨c, Nat.le_refl c, by omega, fun j q1 q2 => by rw [show j = c by omega]; exact hN c (by omega), c + 1, by omega, by omega, Or.inr (ih (c + 1) (by omega))⟩
theorem On_bd {k c a : Nat} (h : On n N c a k) : c + k < n := by
  obtain ⟨c', h1, h2, h3⟩ := h
  have := Fr_bd h3
  omega
theorem On_split {k c a : Nat} (hc : c < n) : On n N c a k ↔ (On n N (c + 1) a k ∨ Fro n N k c a) := by
  constructor
  · rintro ⟨c', h1, h2, h3⟩
    by_cases e : c' = c
    · subst e; exact Or.inr h3
    · exact Or.inl ⟨c', by omega, h2, h3⟩
  · rintro (⟨c', h1, h2, h3⟩ | h)
    · exact ⟨c', by omega, h2, h3⟩
    · exact ⟨c, Nat.le_refl c, hc, h⟩
theorem On_out {k c : Nat} {a : Nat} (ha : n ≤ a) : ¬ On n N c a k := by
  rintro ⟨c', h1, h2, h3⟩
  have := (Fr_in h3).2.1
  omega
end
def Lst (P : Nat → Prop) (f : Int32) : Prop := (∃ k : Nat, k < 30 ∧ P k ∧ (∀ j, j < k → ¬ P j) ∧ f = zI ((k + 1 : Nat) : Int)) ∨ ((∀ k, ¬ P k) ∧ f = zI 2147483647)
theorem Lst.ext {P Q : Nat → Prop} {f : Int32} (h : Lst P f) (e : ∀ k, Q k ↔ P k) : Lst Q f := by
  rcases h with ⟨k, a1, a2, a3, a4⟩ | ⟨a1, a2⟩
  · exact Or.inl ⟨k, a1, (e k).2 a2, fun j hj q => a3 j hj ((e j).1 q), a4⟩
  · exact Or.inr ⟨fun k q => a1 k ((e k).1 q), a2⟩
theorem Lst.min {P Q : Nat → Prop} {f g : Int32} (h1 : Lst P f) (h2 : Lst Q g) : Lst (fun k => P k ∨ Q k) (iMin f g) := by
  rcases h1 with ⟨k, a1, a2, a3, a4⟩ | ⟨a1, a4⟩
  · rcases h2 with ⟨m, b1, b2, b3, b4⟩ | ⟨b1, b4⟩
    · rw [a4, b4, zI_min (by omega)]
      by_cases h : k ≤ m
      · exact Or.inl ⟨k, a1, Or.inl a2, fun j hj q => q.elim (a3 j hj) (b3 j (by omega)), congrArg zI (by omega)⟩
      · exact Or.inl ⟨m, b1, Or.inr b2, fun j hj q => q.elim (a3 j (by omega)) (b3 j hj), congrArg zI (by omega)⟩
    · rw [a4, b4, zI_min (by omega)]
      exact Or.inl ⟨k, a1, Or.inl a2, fun j hj q => q.elim (a3 j hj) (b1 j), congrArg zI (by omega)⟩
  · rcases h2 with ⟨m, b1, b2, b3, b4⟩ | ⟨b1, b4⟩
    · rw [a4, b4, zI_min (by omega)]
      exact Or.inl ⟨m, b1, Or.inr b2, fun j hj q => q.elim (a1 j) (b3 j hj), congrArg zI (by omega)⟩
    · rw [a4, b4, zI_min (by omega)]
      exact Or.inr ⟨fun j q => q.elim (a1 j) (b1 j), congrArg zI (by omega)⟩
theorem Lst.suc {P : Nat → Prop} {f : Int32} (h : Lst P f) (hb : ∀ k, P k → k < 29) (hf : ¬ f = zI 2147483647) : Lst (sc P) (f + 1) := by
  rcases h with ⟨k, a1, a2, a3, a4⟩ | ⟨a1, a4⟩
  · refine Or.inl ⟨k + 1, by have := hb k a2; omega, ⟨k, rfl, a2⟩, ?_, by rw [a4, zS]⟩
    rintro j hj ⟨m, rfl, q⟩
    exact a3 m (by omega) q
  · exact absurd a4 hf
theorem Lst.none {P : Nat → Prop} {f : Int32} (h : Lst P f) (hf : f = zI 2147483647) : ∀ k, ¬ P k := by
  rcases h with ⟨k, a1, a2, a3, a4⟩ | ⟨a1, a4⟩
  · rw [a4, zI_eq (by omega)] at hf
    omega
  · exact a1
theorem Lst.suc0 {P : Nat → Prop} {f : Int32} (h : Lst P f) (hf : f = zI 2147483647) : Lst (sc P) (zI 2147483647) := by
  have := h.none hf
  refine Or.inr ⟨?_, rfl⟩
  rintro k ⟨j, _, q⟩
  exact this j q
theorem Lst.some {P : Nat → Prop} {f : Int32} (h : Lst P f) (hf : ¬ f = zI 2147483647) : ∃ k, k < 30 ∧ P k ∧ (∀ j, j < k → ¬ P j) ∧ f = zI ((k + 1 : Nat) : Int) := by
  rcases h with h | ⟨a1, a4⟩
  · exact h
  · exact absurd a4 hf
theorem Lst.is {P : Nat → Prop} {f : Int32} {m : Nat} (h : Lst P f) (hm : m < 30) : f = zI ((m + 1 : Nat) : Int) ↔ (P m ∧ ∀ j, j < m → ¬ P j) := by
  rcases h with ⟨k, a1, a2, a3, a4⟩ | ⟨a1, a4⟩
  · rw [a4, zI_eq (by omega)]
    constructor
    · intro e
      rw [show m = k by omega]; exact ⟨a2, a3⟩
    · rintro ⟨q1, q2⟩
      have : ¬ k < m := fun q => q2 k q a2
      have : ¬ m < k := fun q => a3 m q q1
      omega
  · rw [a4, zI_eq (by omega)]
    exact ⟨fun e => absurd e (by omega), fun q => absurd q.1 (a1 m)⟩
