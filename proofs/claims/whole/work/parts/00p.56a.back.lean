def Kn (a b x y : Int) : Prop := (-1 ≤ a - x ∧ a - x ≤ 1) ∧ -1 ≤ b - y ∧ b - y ≤ 1
def Rc (ok : Int → Int → Prop) (a b c e : Int) : Prop := ∀ P : Int → Int → Int → Int → Prop, (∀ a b, ok a b → P a b a b) → (∀ a b x y c e, ok a b → Kn a b x y → P x y c e → P a b c e) → P a b c e
section
variable {ok ok' : Int → Int → Prop}
theorem Rc.one {a b : Int} (h : ok a b) : Rc ok a b a b := fun _ h1 _ => h1 a b h
theorem Rc.cons {a b x y c e : Int} (h : ok a b) (hn : Kn a b x y) (hp : Rc ok x y c e) : Rc ok a b c e := fun P h1 h2 => h2 a b x y c e h hn (hp P h1 h2)
theorem Rc.ind {P : Int → Int → Int → Int → Prop} (h1 : ∀ a b, ok a b → P a b a b) (h2 : ∀ a b x y c e, ok a b → Kn a b x y → Rc ok x y c e → P x y c e → P a b c e) {a b c e : Int} (h : Rc ok a b c e) : P a b c e :=
  (h (fun a b c e => Rc ok a b c e ∧ P a b c e) (fun a b hk => ⟨.one hk, h1 a b hk⟩) (fun a b x y c e hk hn hp => ⟨.cons hk hn hp.1, h2 a b x y c e hk hn hp.1 hp.2⟩)).2
theorem Rc.snoc {a b c e x y : Int} (h : Rc ok a b c e) (hn : Kn c e x y) (hk : ok x y) : Rc ok a b x y :=
  Rc.ind (ok := ok) (P := fun a b c e => ∀ x y, Kn c e x y → ok x y → Rc ok a b x y) (fun a b h x y hn hk => .cons h hn (.one hk)) (fun a b x y c e h1 h2 _ ih x' y' hn hk => .cons h1 h2 (ih x' y' hn hk)) h x y hn hk
theorem Rc.symm {a b c e : Int} (h : Rc ok a b c e) : Rc ok c e a b :=
  Rc.ind (ok := ok) (P := fun a b c e => Rc ok c e a b) (fun a b h => .one h) (fun a b x y c e h1 h2 _ ih => ih.snoc (by unfold Kn at h2 ⊢; omega) h1) h
theorem Rc.imp {a b c e : Int} (h : Rc ok a b c e) (hi : ∀ x y, ok x y → ok' x y) : Rc ok' a b c e :=
  Rc.ind (ok := ok) (P := fun a b c e => Rc ok' a b c e) (fun a b h => .one (hi _ _ h)) (fun a b x y c e h1 h2 _ ih => .cons (hi _ _ h1) h2 ih) h
theorem Rc.ends {a b c e : Int} (h : Rc ok a b c e) : ok c e :=
  Rc.ind (ok := ok) (P := fun _ _ c e => ok c e) (fun a b h => h) (fun a b x y c e _ _ _ ih => ih) h
end
def inG (M D x y : Int) : Prop := (0 ≤ x ∧ x < M) ∧ 0 ≤ y ∧ y < D
def okT (q : Int → Int → Int) (M D t x y : Int) : Prop := inG M D x y ∧ q x y ≤ t
def Snd (q : Int → Int → Int) (F M D s s' : Int) (B : Int → Int → Int) : Prop := ∀ x y t, t < F → B x y ≤ t → Rc (okT q M D t) x y s s'
def Cmp (q : Int → Int → Int) (M D s s' t : Int) (B : Int → Int → Int) : Prop := ∀ x y, Rc (okT q M D t) x y s s' → B x y ≤ t
def cnt (t : Int) (B : Int → Int → Int) : Nat := (List.range 900).countP (fun k => decide (B ((k / 30 : Nat) : Int) ((k % 30 : Nat) : Int) ≤ t))
theorem countP_lt {p p' : Nat → Bool} {l : List Nat} (h : ∀ x ∈ l, p x = true → p' x = true) (hx : ∃ x ∈ l, p x = false ∧ p' x = true) : l.countP p < l.countP p' := by
  induction l with
  | nil => obtain ⟨x, hx, _⟩ := hx; exact absurd hx List.not_mem_nil
  | cons a l ih =>
    have mono : l.countP p ≤ l.countP p' := List.countP_mono_left (fun x hx hp => h x (List.mem_cons_of_mem _ hx) hp)
    rw [List.countP_cons, List.countP_cons]
    obtain ⟨x, hm, h0, h1⟩ := hx
    rcases List.mem_cons.mp hm with rfl | hm
    · rw [if_neg (by rw [h0]; decide), if_pos h1]; omega
    · have := ih (fun x hx hp => h x (List.mem_cons_of_mem _ hx) hp) ⟨x, hm, h0, h1⟩
      by_cases pa : p a = true
      · rw [if_pos pa, if_pos (h a List.mem_cons_self pa)]; omega
      · rw [if_neg pa]; split <;> omega
section
variable {q : Int → Int → Int} {F M D s s' t : Int} {B B0 B1 : Int → Int → Int}
theorem cnt_le : cnt t B ≤ 900 := by
  have := List.countP_le_length (p := fun k : Nat => decide (B ((k / 30 : Nat) : Int) ((k % 30 : Nat) : Int) ≤ t)) (l := List.range 900)
  rw [List.length_range] at this
  exact this
theorem cnt_up (h : ∀ x y, B1 x y ≤ B x y) : cnt t B ≤ cnt t B1 := by
  refine List.countP_mono_left (fun k _ hp => ?_)
  have := h ((k / 30 : Nat) : Int) ((k % 30 : Nat) : Int)
  have hp' := of_decide_eq_true hp
  exact decide_eq_true (by omega)
theorem cnt_lt (h : ∀ x y, B1 x y ≤ B x y) {x y : Int} (hx : 0 ≤ x ∧ x < 30) (hy : 0 ≤ y ∧ y < 30) (h0 : ¬ B x y ≤ t) (h1 : B1 x y ≤ t) : cnt t B < cnt t B1 := by
  refine countP_lt (fun k _ hp => ?_) ⟨30 * x.toNat + y.toNat, List.mem_range.mpr (by omega), ?_, ?_⟩
  · have := h ((k / 30 : Nat) : Int) ((k % 30 : Nat) : Int)
    have hp' := of_decide_eq_true hp
    exact decide_eq_true (by omega)
  · rw [show (((30 * x.toNat + y.toNat) / 30 : Nat) : Int) = x by omega, show (((30 * x.toNat + y.toNat) % 30 : Nat) : Int) = y by omega]
    exact decide_eq_false h0
  · rw [show (((30 * x.toNat + y.toNat) / 30 : Nat) : Int) = x by omega, show (((30 * x.toNat + y.toNat) % 30 : Nat) : Int) = y by omega]
    exact decide_eq_true h1
theorem cnt_pos {x y : Int} (hx : 0 ≤ x ∧ x < 30) (hy : 0 ≤ y ∧ y < 30) (h1 : B x y ≤ t) : 1 ≤ cnt t B := by
  have := cnt_lt (t := t) (B := fun a b => if a = x ∧ b = y then t + 1 else B a b) (B1 := fun a b => if a = x ∧ b = y then B x y else B a b) (fun a b => by show (if a = x ∧ b = y then B x y else B a b) ≤ (if a = x ∧ b = y then t + 1 else B a b); split <;> omega) hx hy (by simp only [and_self, if_true]; omega) (by simp only [and_self, if_true]; exact h1)
  have e : (fun a b => if a = x ∧ b = y then B x y else B a b) = B := by
    funext a b
    split
    · rename_i h; rw [h.1, h.2]
    · rfl
  rw [e] at this
  omega
def Jr (q : Int → Int → Int) (F M D s s' : Int) (B0 B : Int → Int → Int) (P : Int → Int → Prop) (fl : Int) : Prop :=
  (∀ x y, B x y ≤ B0 x y) ∧ Snd q F M D s s' B ∧ (∀ x y, 0 ≤ B x y ∧ (B x y = F ∨ B x y ≤ 1996002)) ∧ (∀ x y, ¬ inG M D x y → B x y = F) ∧ (∀ x y, P x y → inG M D x y → ∀ x' y', Kn x y x' y' → B x y ≤ max (q x y) (B0 x' y')) ∧ ((fl = 0 ∧ B = B0) ∨ (fl = 1 ∧ ∃ x y, B x y < B0 x y))
def updB (B : Int → Int → Int) (m d v : Int) : Int → Int → Int := fun x y => if x = m ∧ y = d then v else B x y
theorem Jr.weak {P P' : Int → Int → Prop} {fl : Int} (h : Jr q F M D s s' B0 B P fl) (hP : ∀ x y, inG M D x y → P' x y → P x y) : Jr q F M D s s' B0 B P' fl :=
  ⟨h.1, h.2.1, h.2.2.1, h.2.2.2.1, fun x y p g => h.2.2.2.2.1 x y (hP x y g p) g, h.2.2.2.2.2⟩
theorem Jr.step {P : Int → Int → Prop} {fl m d N : Int} (h : Jr q F M D s s' B0 B P fl) (hF : 1996002 < F) (hg : inG M D m d) (hq : 0 ≤ q m d ∧ (q m d = F ∨ q m d ≤ 1996002))
    (hN : ∃ x' y', Kn m d x' y' ∧ N = B x' y') (hN2 : ∀ x' y', Kn m d x' y' → N ≤ B x' y' ∨ (x' = m ∧ y' = d)) :
    (max (q m d) N < B m d → Jr q F M D s s' B0 (updB B m d (max (q m d) N)) (fun x y => P x y ∨ (x = m ∧ y = d)) 1) ∧ (¬ max (q m d) N < B m d → Jr q F M D s s' B0 B (fun x y => P x y ∨ (x = m ∧ y = d)) fl) := by
  obtain ⟨a1, a2, a3, a4, a5, a6⟩ := h
  obtain ⟨x0, y0, k0, e0⟩ := hN
  constructor
  · intro hlt
    have le : ∀ x y, updB B m d (max (q m d) N) x y ≤ B x y := by
      intro x y
      unfold updB
      split
      · rename_i e; rw [e.1, e.2]; omega
      · exact Int.le_refl _
    refine ⟨fun x y => Int.le_trans (le x y) (a1 x y), fun x y t ht hb => ?_, fun x y => ?_, fun x y hn => ?_, fun x y hP hx x' y' hk => ?_, Or.inr ⟨rfl, m, d, ?_⟩⟩
    · unfold updB at hb
      split at hb
      · rename_i e
        rw [e.1, e.2]
        exact Rc.cons ⟨hg, by omega⟩ k0 (a2 x0 y0 t ht (by omega))
      · exact a2 x y t ht hb
    · unfold updB
      split
      · have b0 := a3 x0 y0
        have b1 := a3 m d
        omega
      · exact a3 x y
    · unfold updB
      rw [if_neg (fun e => hn (by rw [e.1, e.2]; exact hg))]
      exact a4 x y hn
    · by_cases e : x = m ∧ y = d
      · rw [e.1, e.2] at hk ⊢
        have l1 := le m d
        have l2 := a1 x' y'
        have l3 : updB B m d (max (q m d) N) m d = max (q m d) N := by unfold updB; rw [if_pos ⟨rfl, rfl⟩]
        rcases hN2 x' y' hk with h' | h'
        · omega
        · rw [h'.1, h'.2] at l2 ⊢; omega
      · rcases hP with hP | hP
        · exact Int.le_trans (le x y) (a5 x y hP hx x' y' hk)
        · exact absurd hP e
    · have l3 : updB B m d (max (q m d) N) m d = max (q m d) N := by unfold updB; rw [if_pos ⟨rfl, rfl⟩]
      have := a1 m d
      omega
  · intro hlt
    refine ⟨a1, a2, a3, a4, fun x y hP hx x' y' hk => ?_, a6⟩
    by_cases e : x = m ∧ y = d
    · rw [e.1, e.2] at hk ⊢
      have l2 := a1 x' y'
      rcases hN2 x' y' hk with h' | h'
      · omega
      · rw [h'.1, h'.2] at l2 ⊢; omega
    · rcases hP with hP | hP
      · exact a5 x y hP hx x' y' hk
      · exact absurd hP e
def Kr (q : Int → Int → Int) (F M D s s' : Int) (B : Int → Int → Int) (k : Nat) : Prop :=
  Snd q F M D s s' B ∧ (∀ x y, 0 ≤ B x y ∧ (B x y = F ∨ B x y ≤ 1996002)) ∧ (∀ x y, ¬ inG M D x y → B x y = F) ∧ B s s' ≤ q s s' ∧ (∀ t, t < F → Cmp q M D s s' t B ∨ k + 1 ≤ cnt t B)
theorem Kr.start {P : Int → Int → Prop} {k : Nat} (h : Kr q F M D s s' B k) (hP : ∀ x y, ¬ P x y) : Jr q F M D s s' B B P 0 :=
  ⟨fun x y => Int.le_refl _, h.1, h.2.1, h.2.2.1, fun x y p => absurd p (hP x y), Or.inl ⟨rfl, rfl⟩⟩
theorem cmp_of (hs : B s s' ≤ q s s') (h : ∀ x y, inG M D x y → ∀ x' y', Kn x y x' y' → B x' y' ≤ t → q x y ≤ t → B x y ≤ t) : Cmp q M D s s' t B := by
  intro x y hr
  have := Rc.ind (ok := okT q M D t) (P := fun a b c e => c = s → e = s' → B a b ≤ t) (fun a b hk e1 e2 => by
    have := hk.2
    rw [e1, e2] at this ⊢; omega) (fun a b x y c e hk hn _ ih e1 e2 => h a b hk.1 x y hn (ih e1 e2) hk.2) hr
  exact this rfl rfl
theorem Kr.next {P : Int → Int → Prop} {k : Nat} {fl : Int} (h : Kr q F M D s s' B0 k) (hM : M ≤ 30) (hD : D ≤ 30) (hP : ∀ x y, inG M D x y → P x y) (hJ : Jr q F M D s s' B0 B P fl) : Kr q F M D s s' B (k + 1) := by
  obtain ⟨a1, a2, a3, a4, a5, a6⟩ := hJ
  obtain ⟨b1, b2, b3, b4, b5⟩ := h
  have hs := Int.le_trans (a1 s s') b4
  refine ⟨a2, a3, a4, hs, fun t ht => ?_⟩
  rcases b5 t ht with hc | hc
  · exact Or.inl (fun x y hr => Int.le_trans (a1 x y) (hc x y hr))
  · by_cases hcl : ∀ x y, inG M D x y → ∀ x' y', Kn x y x' y' → B0 x' y' ≤ t → q x y ≤ t → B0 x y ≤ t
    · exact Or.inl (fun x y hr => Int.le_trans (a1 x y) (cmp_of b4 hcl x y hr))
    · right
      simp only [Classical.not_forall] at hcl
      obtain ⟨x, y, hg, x', y', hk, h1, h2, h3⟩ := hcl
      have h4 := a5 x y (hP x y hg) hg x' y' hk
      have hg' := hg
      unfold inG at hg'
      have := cnt_lt (t := t) a1 (x := x) (y := y) (by omega) (by omega) h3 (by omega)
      omega
theorem Kr.done {P : Int → Int → Prop} {k : Nat} (h : Kr q F M D s s' B0 k) (hP : ∀ x y, inG M D x y → P x y) (hJ : Jr q F M D s s' B0 B P 0) : ∀ t, t < F → Cmp q M D s s' t B := by
  obtain ⟨a1, a2, a3, a4, a5, a6⟩ := hJ
  have e : B = B0 := by
    rcases a6 with a6 | a6
    · exact a6.2
    · exact absurd a6.1 (by decide)
  intro t ht
  refine cmp_of (Int.le_trans (a1 s s') h.2.2.2.1) (fun x y hg x' y' hk h1 h2 => ?_)
  have := a5 x y (hP x y hg) hg x' y' hk
  rw [← e] at this
  omega
theorem Kr.full {k : Nat} (h : Kr q F M D s s' B k) (hk : 900 ≤ k) : ∀ t, t < F → Cmp q M D s s' t B := by
  intro t ht
  rcases h.2.2.2.2 t ht with h | h
  · exact h
  · have := cnt_le (t := t) (B := B); omega
theorem Kr.stops {P : Int → Int → Prop} {k : Nat} {fl : Int} (h : Kr q F M D s s' B0 k) (hF : 1996002 < F) (hk : 900 ≤ k) (hJ : Jr q F M D s s' B0 B P fl) : fl = 0 := by
  obtain ⟨a1, a2, a3, a4, a5, a6⟩ := hJ
  rcases a6 with a6 | ⟨_, x, y, hlt⟩
  · exact a6.1
  · have h0 := h.2.1 x y
    have h1 := h.full hk (B x y) (by omega) x y (a2 x y (B x y) (by omega) (Int.le_refl _))
    omega
theorem Kr.first (hM : 1 ≤ M ∧ M ≤ 30) (hD : 1 ≤ D ∧ D ≤ 30) (hF : 1996002 < F) (hs : inG M D s s') (hq : 0 ≤ q s s' ∧ (q s s' = F ∨ q s s' ≤ 1996002)) : Kr q F M D s s' (updB (fun _ _ => F) s s' (q s s')) 0 := by
  have e : updB (fun _ _ => F) s s' (q s s') s s' = q s s' := by unfold updB; rw [if_pos ⟨rfl, rfl⟩]
  refine ⟨fun x y t ht hb => ?_, fun x y => ?_, fun x y hn => ?_, by omega, fun t ht => ?_⟩
  · unfold updB at hb
    split at hb
    · rename_i e'
      rw [e'.1, e'.2]
      exact Rc.one ⟨hs, hb⟩
    · have hb' : F ≤ t := hb
      omega
  · unfold updB
    split
    · exact hq
    · show 0 ≤ F ∧ (F = F ∨ F ≤ 1996002)
      omega
  · unfold updB
    rw [if_neg (fun e => hn (by rw [e.1, e.2]; exact hs))]
  · by_cases h : q s s' ≤ t
    · right
      unfold inG at hs
      exact cnt_pos (x := s) (y := s') (by omega) (by omega) (by omega)
    · left
      intro x y hr
      exact absurd hr.ends.2 h
end
theorem back_agr {q1 q2 B1 B2 : Int → Int → Int} {M D s s' u u' : Int} (hq : ∀ x y, inG M D x y → Agr (q1 x y) (q2 x y))
    (h1 : Snd q1 2147483647 M D s s' B1) (c1 : ∀ t, t < 2147483647 → Cmp q1 M D s s' t B1) (r1 : ∀ x y, 0 ≤ B1 x y ∧ (B1 x y = 2147483647 ∨ B1 x y ≤ 1996002))
    (h2 : Snd q2 2000000000 M D u u' B2) (c2 : ∀ t, t < 2000000000 → Cmp q2 M D u u' t B2) (r2 : ∀ x y, 0 ≤ B2 x y ∧ (B2 x y = 2000000000 ∨ B2 x y ≤ 1996002)) : Agr (B1 u u') (B2 s s') := by
  have a1 := r1 u u'
  have a2 := r2 s s'
  have im : ∀ t, t < 2000000000 → ∀ x y, okT q1 M D t x y ↔ okT q2 M D t x y := by
    intro t ht x y
    unfold okT
    constructor
    · rintro ⟨g, h⟩
      have := hq x y g
      unfold Agr at this
      exact ⟨g, by omega⟩
    · rintro ⟨g, h⟩
      have := hq x y g
      unfold Agr at this
      exact ⟨g, by omega⟩
  refine agr_of (by omega) (by omega) (fun t h0 ht => ⟨fun h => ?_, fun h => ?_⟩)
  · exact c2 t ht s s' ((h1 u u' t (by omega) h).symm.imp (fun x y => (im t ht x y).1))
  · exact c1 t (by omega) u u' ((h2 s s' t ht h).symm.imp (fun x y => (im t ht x y).2))
