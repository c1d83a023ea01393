def nbr (n : Nat) (N : Nat → Nat → Prop) (c i : Nat) : Prop := i < n ∧ N c i
def Ch (n : Nat) (N : Nat → Nat → Prop) : Nat → Nat → (Nat → Prop) → Int32 → Int32 → Prop
  | 0, _, _, bits, r => r = bits
  | l + 1, c, S, bits, r => ∃ x, c < x ∧ x < n ∧ (∃ e, Ent S e ∧ Fro n N l x e) ∧ (∀ y, c < y → y < x → ¬ ∃ e, Ent S e ∧ Fro n N l y e) ∧ Ch n N l x (UpA (Ent S) (nbr n N x)) (bits ||| ((1 : Int32) <<< (zI (x : Int) &&& 31))) r
def Cl (n : Nat) (N : Nat → Nat → Prop) (c : Nat) (S : Nat → Prop) : Prop := (∀ a, S a → nbr n N c a) ∧ (∀ a, S a → nbr n N c (a + 1) → S (a + 1))
def Fwr (n : Nat) (N : Nat → Nat → Prop) (r : Int32) : Prop := ∃ m, Fro n N m 0 0 ∧ (∀ j, j < m → ¬ Fro n N j 0 0) ∧ Ch n N m 0 (UpA (fun j => j = 0) (nbr n N 0)) 1 r
section
variable {n : Nat} {N : Nat → Nat → Prop}
theorem Ch_un : ∀ (l c : Nat) (S : Nat → Prop) (b r r' : Int32), Ch n N l c S b r → Ch n N l c S b r' → r = r' := by
  intro l
  induction l with
  | zero => intro c S b r r' h h'; exact Eq.trans h (Eq.symm h')
  | succ l ih =>
    intro c S b r r' h h'
    obtain ⟨x, h1, h2, h3, h4, h5⟩ := h
    obtain ⟨y, q1, q2, q3, q4, q5⟩ := h'
    have : ¬ x < y := fun q => q4 x h1 q h3
    have : ¬ y < x := fun q => h4 y q1 q q3
    have e : x = y := by omega
    subst e
    exact ih x _ _ r r' h5 q5
theorem Fwr_un {r r' : Int32} (h : Fwr n N r) (h' : Fwr n N r') : r = r' := by
  obtain ⟨m, h1, h2, h3⟩ := h
  obtain ⟨m', q1, q2, q3⟩ := h'
  have : ¬ m < m' := fun q => q2 m q h1
  have : ¬ m' < m := fun q => h2 m' q q1
  have e : m = m' := by omega
  subst e
  exact Ch_un _ _ _ _ _ _ h3 q3
theorem UpA_cl {c : Nat} {X : Nat → Prop} : Cl n N c (UpA X (nbr n N c)) := by
  constructor
  · rintro a ⟨s, h1, h2, h3⟩
    exact h3 a h1 (Nat.le_refl a)
  · rintro a ⟨s, h1, h2, h3⟩ h
    refine ⟨s, by omega, h2, fun i q1 q2 => ?_⟩
    by_cases e : i = a + 1
    · rw [e]; exact h
    · exact h3 i q1 (by omega)
theorem Cl_on {c : Nat} {S : Nat → Prop} (h : Cl n N c S) {a : Nat} (ha : S a) : ∀ d, (∀ j, a ≤ j → j ≤ a + d → nbr n N c j) → S (a + d) := by
  intro d
  induction d with
  | zero => intro _; exact ha
  | succ d ih => intro q; exact h.2 _ (ih (fun j q1 q2 => q j q1 (by omega))) (q (a + d + 1) (show a ≤ a + d + 1 by omega) (Nat.le_refl _))
theorem goes_ex {c l a : Nat} {S : Nat → Prop} (h : Cl n N c S) (ha : S a) (hF : Fro n N (l + 1) c a) : ∃ x, c < x ∧ x < n ∧ ∃ e, Ent S e ∧ Fro n N l x e := by
  obtain ⟨b, h1, h2, h3, x, h4, h5, h6⟩ := hF
  have hb : S b := by
    have := Cl_on h ha (b - a) (fun j q1 q2 => ⟨by omega, h3 j q1 (by omega)⟩)
    rwa [show a + (b - a) = b by omega] at this
  rcases h6 with h6 | h6
  · exact ⟨x, h4, h5, b, Or.inl hb, h6⟩
  · exact ⟨x, h4, h5, b + 1, Or.inr ⟨by omega, hb⟩, h6⟩
theorem enter {c x k e : Nat} {S : Nat → Prop} (h : Cl n N c S) (hcx : c < x) (hx : x < n) (he : Ent S e) (hF : Fro n N k x e) : ∃ e', S e' ∧ (e = e' ∨ e = e' + 1) ∧ Fro n N (k + 1) c e' := by
  rcases he with he | ⟨h1, he⟩
  · have := h.1 e he
    exact ⟨e, he, Or.inl rfl, e, Nat.le_refl e, this.1, fun j q1 q2 => by rw [show j = e by omega]; exact this.2, x, hcx, hx, Or.inl hF⟩
  · have := h.1 _ he
    refine ⟨e - 1, he, Or.inr (by omega), e - 1, Nat.le_refl _, this.1, fun j q1 q2 => by rw [show j = e - 1 by omega]; exact this.2, x, hcx, hx, Or.inr ?_⟩
    rw [show e - 1 + 1 = e by omega]; exact hF
theorem Ent_of {S : Nat → Prop} {e e' : Nat} (h : S e') (he : e = e' ∨ e = e' + 1) : Ent S e := by
  rcases he with rfl | rfl
  · exact Or.inl h
  · exact Or.inr ⟨by omega, h⟩
theorem Ent_mono {S T : Nat → Prop} (h : ∀ j, S j → T j) {e : Nat} (he : Ent S e) : Ent T e := by
  rcases he with he | ⟨h1, he⟩
  · exact Or.inl (h _ he)
  · exact Or.inr ⟨h1, h _ he⟩
theorem up_ex {x l : Nat} {X : Nat → Prop} : (∃ j, UpA X (nbr n N x) j ∧ Fro n N l x j) ↔ ∃ e, X e ∧ Fro n N l x e := by
  constructor
  · rintro ⟨j, ⟨s, h1, h2, h3⟩, h4⟩
    exact ⟨s, h2, Fr_run h4 h1 (fun i q1 q2 => (h3 i q1 (by omega)).2)⟩
  · rintro ⟨e, h1, h2⟩
    have := Fr_in h2
    exact ⟨e, ⟨e, Nat.le_refl e, h1, fun i q1 q2 => by rw [show i = e by omega]; exact ⟨this.2.1, this.1⟩⟩, h2⟩
theorem UpA_at {S nb : Nat → Prop} {b : Nat} : UpA S nb b ↔ (nb b ∧ (S b ∨ (1 ≤ b ∧ UpA S nb (b - 1)))) := by
  constructor
  · rintro ⟨s, h1, h2, h3⟩
    refine ⟨h3 b h1 (Nat.le_refl b), ?_⟩
    by_cases e : s = b
    · subst e; exact Or.inl h2
    · exact Or.inr ⟨by omega, s, by omega, h2, fun i q1 q2 => h3 i q1 (by omega)⟩
  · rintro ⟨h, h1 | ⟨h1, s, h2, h3, h4⟩⟩
    · exact ⟨b, Nat.le_refl b, h1, fun i q1 q2 => by rw [show i = b by omega]; exact h⟩
    · refine ⟨s, by omega, h3, fun i q1 q2 => ?_⟩
      by_cases e : i = b
      · rw [e]; exact h
      · exact h4 i q1 (by omega)
end
