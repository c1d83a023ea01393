def hBit (x : Int32) (j : Nat) : Prop := x.toBitVec.getLsbD j = true
theorem hBit_or (x y : Int32) (j : Nat) : hBit (x ||| y) j ↔ (hBit x j ∨ hBit y j) := by
  unfold hBit; rw [Int32.toBitVec_or, BitVec.getLsbD_or, Bool.or_eq_true]
theorem hBit_and (x y : Int32) (j : Nat) : hBit (x &&& y) j ↔ (hBit x j ∧ hBit y j) := by
  unfold hBit; rw [Int32.toBitVec_and, BitVec.getLsbD_and, Bool.and_eq_true]
theorem hBit_lt {x : Int32} {j : Nat} (h : hBit x j) : j < 32 := BitVec.lt_of_getLsbD h
theorem hBit_ext {x y : Int32} (h : ∀ j, hBit x j ↔ hBit y j) : x = y := by
  apply Int32.toBitVec_inj.mp
  apply BitVec.eq_of_getLsbD_eq
  intro j _
  exact Bool.eq_iff_iff.mpr (h j)
theorem hBit_zero (j : Nat) : ¬ hBit 0 j := by
  unfold hBit
  rw [show (0 : Int32).toBitVec = 0#32 from rfl, BitVec.getLsbD_zero]
  decide
theorem hBit_1 (j : Nat) : hBit 1 j ↔ j = 0 := by
  unfold hBit
  rw [show (1 : Int32).toBitVec = 1#32 from rfl, BitVec.getLsbD_one, Bool.and_eq_true, decide_eq_true_eq, decide_eq_true_eq]
  exact ⟨fun h => h.2, fun h => ⟨by decide, h⟩⟩
theorem hBit_shl (x : Int32) (j : Nat) : hBit (x <<< ((1 : Int32) &&& 31)) j ↔ (j < 32 ∧ 1 ≤ j ∧ hBit x (j - 1)) := by
  unfold hBit
  rw [show ((1 : Int32) &&& 31) = 1 from rfl, Int32.toBitVec_shiftLeft, show (Int32.toBitVec 1).smod 32 = 1#32 from by decide +kernel, BitVec.shiftLeft_eq', show (1#32).toNat = 1 from rfl, BitVec.getLsbD_shiftLeft, Bool.and_eq_true, Bool.and_eq_true, decide_eq_true_eq, Bool.not_eq_true', decide_eq_false_iff_not]
  exact ⟨fun h => ⟨h.1.1, by have := h.1.2; omega, h.2⟩, fun h => ⟨⟨h.1, by have := h.2.1; omega⟩, h.2.2⟩⟩
theorem hBit_shr (x : Int32) (j : Nat) (h31 : ¬ hBit x 31) : hBit (x >>> ((1 : Int32) &&& 31)) j ↔ hBit x (j + 1) := by
  unfold hBit at h31 ⊢
  rw [show ((1 : Int32) &&& 31) = 1 from rfl, Int32.toBitVec_shiftRight, show (Int32.toBitVec 1).smod 32 = 1#32 from by decide +kernel, BitVec.sshiftRight_eq', show (1#32).toNat = 1 from rfl, BitVec.getLsbD_sshiftRight, Bool.and_eq_true, Bool.not_eq_true', decide_eq_false_iff_not, BitVec.msb_eq_getLsbD_last, Nat.add_comm 1 j]
  by_cases h : j + 1 < 32
  · rw [if_pos h]
    exact ⟨fun q => q.2, fun q => ⟨by omega, q⟩⟩
  · rw [if_neg h]
    exact ⟨fun q => absurd q.2 h31, fun q => absurd (BitVec.lt_of_getLsbD q) h⟩
theorem sm_j {j : Nat} (hj : j < 32) : (Int32.toBitVec (zI (j : Int) &&& 31)).smod 32 = BitVec.ofNat 32 j := by
  have key : ∀ j : Fin 32, (Int32.toBitVec (Int32.ofInt (j.val : Int) &&& 31)).smod 32 = BitVec.ofNat 32 j.val := by decide +kernel
  exact key ⟨j, hj⟩
theorem hBit_at (x : Int32) {j : Nat} (hj : j < 32) : (((x >>> (zI (j : Int) &&& 31)) &&& 1) = 1) = hBit x j := by
  have e : hBit (x >>> (zI (j : Int) &&& 31)) 0 ↔ hBit x j := by
    unfold hBit
    rw [Int32.toBitVec_shiftRight, sm_j hj, BitVec.sshiftRight_eq', BitVec.toNat_ofNat, Nat.mod_eq_of_lt (show j < 2 ^ 32 by omega), BitVec.getLsbD_sshiftRight, Bool.and_eq_true, Bool.not_eq_true', decide_eq_false_iff_not, Nat.add_zero, if_pos hj]
    exact ⟨fun q => q.2, fun q => ⟨by omega, q⟩⟩
  apply propext
  rw [← e]
  constructor
  · intro h
    have : hBit ((x >>> (zI (j : Int) &&& 31)) &&& 1) 0 := by rw [h, hBit_1]
    exact ((hBit_and _ _ _).1 this).1
  · intro h
    apply hBit_ext
    intro i
    rw [hBit_and, hBit_1]
    exact ⟨fun q => q.2, fun q => ⟨by rw [q]; exact h, q⟩⟩
theorem hBit_one {j : Nat} (hj : j < 32) (i : Nat) : hBit ((1 : Int32) <<< (zI (j : Int) &&& 31)) i ↔ i = j := by
  unfold hBit
  rw [Int32.toBitVec_shiftLeft, sm_j hj, BitVec.shiftLeft_eq', BitVec.toNat_ofNat, Nat.mod_eq_of_lt (show j < 2 ^ 32 by omega), BitVec.getLsbD_shiftLeft, show (1 : Int32).toBitVec = 1#32 from rfl, BitVec.getLsbD_one, Bool.and_eq_true, Bool.and_eq_true, Bool.and_eq_true, decide_eq_true_eq, Bool.not_eq_true', decide_eq_false_iff_not, decide_eq_true_eq, decide_eq_true_eq]
  exact ⟨fun h => by omega, fun h => by omega⟩
def Up (S nb : Nat → Prop) (m j : Nat) : Prop := ∃ s, s ≤ j ∧ j ≤ s + m ∧ S s ∧ ∀ i, s ≤ i → i ≤ j → nb i
def UpA (S nb : Nat → Prop) (j : Nat) : Prop := ∃ s, s ≤ j ∧ S s ∧ ∀ i, s ≤ i → i ≤ j → nb i
def Dwn (S nb : Nat → Prop) (m j : Nat) : Prop := ∃ s, j ≤ s ∧ s ≤ j + m ∧ S s ∧ ∀ i, j ≤ i → i ≤ s → nb i
def DnA (S nb : Nat → Prop) (j : Nat) : Prop := ∃ s, j ≤ s ∧ S s ∧ ∀ i, j ≤ i → i ≤ s → nb i
section
variable {S nb : Nat → Prop} {m j : Nat}
theorem Up_in (h : Up S nb m j) : nb j := by
  obtain ⟨s, h1, _, _, h4⟩ := h
  exact h4 j h1 (Nat.le_refl j)
theorem Dwn_in (h : Dwn S nb m j) : nb j := by
  obtain ⟨s, h1, _, _, h4⟩ := h
  exact h4 j (Nat.le_refl j) h1
theorem Up_succ : Up S nb (m + 1) j ↔ (Up S nb m j ∨ ((1 ≤ j ∧ Up S nb m (j - 1)) ∧ nb j)) := by
  constructor
  · rintro ⟨s, h1, h2, h3, h4⟩
    by_cases e : s = j
    · exact Or.inl ⟨s, h1, by omega, h3, h4⟩
    · exact Or.inr ⟨⟨by omega, s, by omega, by omega, h3, fun i q1 q2 => h4 i q1 (by omega)⟩, h4 j h1 (Nat.le_refl j)⟩
  · rintro (⟨s, h1, h2, h3, h4⟩ | ⟨⟨h0, s, h1, h2, h3, h4⟩, h5⟩)
    · exact ⟨s, h1, by omega, h3, h4⟩
    · refine ⟨s, by omega, by omega, h3, fun i q1 q2 => ?_⟩
      by_cases e : i = j
      · rw [e]; exact h5
      · exact h4 i q1 (by omega)
theorem Dn_succ : Dwn S nb (m + 1) j ↔ (Dwn S nb m j ∨ (Dwn S nb m (j + 1) ∧ nb j)) := by
  constructor
  · rintro ⟨s, h1, h2, h3, h4⟩
    by_cases e : s = j
    · exact Or.inl ⟨s, h1, by omega, h3, h4⟩
    · exact Or.inr ⟨⟨s, by omega, by omega, h3, fun i q1 q2 => h4 i (by omega) q2⟩, h4 j (Nat.le_refl j) h1⟩
  · rintro (⟨s, h1, h2, h3, h4⟩ | ⟨⟨s, h1, h2, h3, h4⟩, h5⟩)
    · exact ⟨s, h1, by omega, h3, h4⟩
    · refine ⟨s, by omega, by omega, h3, fun i q1 q2 => ?_⟩
      by_cases e : i = j
      · rw [e]; exact h5
      · exact h4 i (by omega) q2
theorem Up_fix (h : ∀ j, Up S nb (m + 1) j → Up S nb m j) (j : Nat) : UpA S nb j ↔ Up S nb m j := by
  constructor
  · rintro ⟨s, h1, h2, h3⟩
    have key : ∀ d, s + d ≤ j → Up S nb m (s + d) := by
      intro d
      induction d with
      | zero => intro q; exact ⟨s, Nat.le_refl s, by omega, h2, fun i q1 q2 => h3 i q1 (by omega)⟩
      | succ d ih => intro q; exact h _ (Up_succ.2 (Or.inr ⟨⟨by omega, ih (by omega)⟩, h3 _ (by omega) q⟩))
    have := key (j - s) (by omega)
    rwa [show s + (j - s) = j by omega] at this
  · rintro ⟨s, h1, _, h2, h3⟩
    exact ⟨s, h1, h2, h3⟩
theorem Dn_fix (h : ∀ j, Dwn S nb (m + 1) j → Dwn S nb m j) (j : Nat) : DnA S nb j ↔ Dwn S nb m j := by
  constructor
  · rintro ⟨s, h1, h2, h3⟩
    have key : ∀ d, j + d ≤ s → Dwn S nb m (s - d) := by
      intro d
      induction d with
      | zero => intro q; exact ⟨s, by omega, by omega, h2, fun i q1 q2 => h3 i (by omega) q2⟩
      | succ d ih =>
        intro q
        have := ih (by omega)
        rw [show s - d = (s - (d + 1)) + 1 by omega] at this
        exact h _ (Dn_succ.2 (Or.inr ⟨this, h3 _ (by omega) (by omega)⟩))
    have := key (s - j) (by omega)
    rwa [show s - (s - j) = j by omega] at this
  · rintro ⟨s, h1, _, h2, h3⟩
    exact ⟨s, h1, h2, h3⟩
end
section
variable {nr : Nat → Int32} {c : Nat} {S : Nat → Prop}
theorem sr_goes12 {post : Int32 → Unit → Prop} (hc : c < 30) (hp : ∀ r, (∀ j, hBit r j ↔ UpA S (hBit (nr c)) j) → post r ()) :
    ∀ (k m : Nat) (x y : Int32), m + k = 33 → (∀ j, hBit x j ↔ Up S (hBit (nr c)) m j) → ((m = 0 ∧ y = 0) ∨ (∃ m', m = m' + 1 ∧ ∀ j, hBit y j ↔ Up S (hBit (nr c)) m' j)) → wpX11_goesOn_12 post nr (k + 1) (zI (c : Int)) x y := by
  have done : ∀ (m : Nat) (x y : Int32), (∀ j, hBit x j ↔ Up S (hBit (nr c)) m j) → ((m = 0 ∧ y = 0) ∨ (∃ m', m = m' + 1 ∧ ∀ j, hBit y j ↔ Up S (hBit (nr c)) m' j)) → y = x → post x () := by
    intro m x y hx hy e
    refine hp x (fun j => ?_)
    rcases hy with ⟨h0, h1⟩ | ⟨m', h0, h1⟩
    · subst h0
      have hz : ∀ j, ¬ Up S (hBit (nr c)) 0 j := fun j q => by
        have := (hx j).2 q
        rw [← e, h1] at this
        exact hBit_zero j this
      rw [hx j]
      constructor
      · intro q; exact absurd q (hz j)
      · rintro ⟨s, q1, q2, q3⟩
        exact absurd ⟨s, Nat.le_refl s, by omega, q2, fun i r1 r2 => q3 i r1 (by omega)⟩ (hz s)
    · subst h0
      rw [← e] at hx
      rw [← e, h1 j, Up_fix (fun j q => (h1 j).1 ((hx j).2 q)) j]
  intro k
  induction k with
  | zero =>
    intro m x y hm hx hy
    unfold wpX11_goesOn_12
    have e : y = x := by
      rcases hy with ⟨h0, _⟩ | ⟨m', h0, h1⟩
      · omega
      · apply hBit_ext
        intro j
        rw [hx j, h1 j]
        constructor
        · rintro ⟨s, q1, q2, q3, q4⟩
          exact ⟨s, q1, by omega, q3, q4⟩
        · rintro ⟨s, q1, q2, q3, q4⟩
          have := hBit_lt (q4 j q1 (Nat.le_refl j))
          exact ⟨s, q1, by omega, q3, q4⟩
    exact ⟨fun _ => done m x y hx hy e, fun q => absurd e q⟩
  | succ k ih =>
    intro m x y hm hx hy
    unfold wpX11_goesOn_12
    refine ⟨fun e => done m x y hx hy e, fun _ => ⟨zN_in (by omega), fun v1 e1 => ?_⟩⟩
    refine ih (m + 1) v1 x (by omega) (fun j => ?_) (Or.inr ⟨m, rfl, hx⟩)
    rw [e1, zN (by omega), hBit_or, hBit_and, hBit_shl, Up_succ, hx j, hx (j - 1)]
    constructor
    · rintro (h | ⟨⟨_, h1, h2⟩, h3⟩)
      · exact Or.inl h
      · exact Or.inr ⟨⟨h1, h2⟩, h3⟩
    · rintro (h | ⟨⟨h1, h2⟩, h3⟩)
      · exact Or.inl h
      · exact Or.inr ⟨⟨hBit_lt h3, h1, h2⟩, h3⟩
theorem sr_goesOn {post : Int32 → Unit → Prop} {s : Int32} (hc : c < 30) (hp : ∀ r, (∀ j, hBit r j ↔ UpA (hBit s) (hBit (nr c)) j) → post r ()) : wpX11_goesOn post nr s (zI (c : Int)) := by
  unfold wpX11_goesOn
  refine ⟨zN_in (by omega), fun v1 e1 => ⟨33 + 1, sr_goes12 hc hp 33 0 v1 0 (by omega) (fun j => ?_) (Or.inl ⟨rfl, rfl⟩)⟩⟩
  rw [e1, zN (by omega), hBit_and]
  constructor
  · rintro ⟨h1, h2⟩
    exact ⟨j, Nat.le_refl j, by omega, h1, fun i q1 q2 => by rw [show i = j by omega]; exact h2⟩
  · rintro ⟨s, h1, h2, h3, h4⟩
    have e : s = j := by omega
    subst e
    exact ⟨h3, h4 s h1 h1⟩
def Ent (S : Nat → Prop) (e : Nat) : Prop := S e ∨ (1 ≤ e ∧ S (e - 1))
theorem hBit_ent {x : Int32} (hx : ∀ j, hBit x j → j < 31) (j : Nat) : hBit (x ||| (x <<< ((1 : Int32) &&& 31))) j ↔ Ent (hBit x) j := by
  rw [hBit_or, hBit_shl]
  unfold Ent
  constructor
  · rintro (h | ⟨_, h1, h2⟩)
    · exact Or.inl h
    · exact Or.inr ⟨h1, h2⟩
  · rintro (h | ⟨h1, h2⟩)
    · exact Or.inl h
    · have := hx _ h2
      exact Or.inr ⟨by omega, h1, h2⟩
theorem UpA_ext {S S' nb nb' : Nat → Prop} (h1 : ∀ j, S j ↔ S' j) (h2 : ∀ j, nb j ↔ nb' j) (j : Nat) : UpA S nb j ↔ UpA S' nb' j := by
  have e1 : S = S' := funext fun j => propext (h1 j)
  have e2 : nb = nb' := funext fun j => propext (h2 j)
  rw [e1, e2]
theorem DnA_ext {S S' nb nb' : Nat → Prop} (h1 : ∀ j, S j ↔ S' j) (h2 : ∀ j, nb j ↔ nb' j) (j : Nat) : DnA S nb j ↔ DnA S' nb' j := by
  have e1 : S = S' := funext fun j => propext (h1 j)
  have e2 : nb = nb' := funext fun j => propext (h2 j)
  rw [e1, e2]
theorem sr_comes {post : Int32 → Unit → Prop} {s : Int32} (hc : c < 30) (hs : ∀ j, hBit s j → j < 31) (hp : ∀ r, (∀ j, hBit r j ↔ UpA (Ent (hBit s)) (hBit (nr c)) j) → post r ()) : wpX11_comes post nr s (zI (c : Int)) := by
  unfold wpX11_comes
  refine sr_goesOn hc (fun r hr => hp r (fun j => ?_))
  rw [hr j]
  exact UpA_ext (fun j => hBit_ent hs j) (fun j => Iff.rfl) j
theorem sr_back12 {post : Int32 → Unit → Prop} (hc : c < 30) (hnb : ∀ j, hBit (nr c) j → j < 30) (hp : ∀ r, (∀ j, hBit r j ↔ DnA S (hBit (nr c)) j) → post r ()) :
    ∀ (k m : Nat) (x y : Int32), m + k = 33 → (∀ j, hBit x j ↔ Dwn S (hBit (nr c)) m j) → ((m = 0 ∧ y = 0) ∨ (∃ m', m = m' + 1 ∧ ∀ j, hBit y j ↔ Dwn S (hBit (nr c)) m' j)) → wpX11_backwards_12 post nr (k + 1) (zI (c : Int)) x y := by
  have done : ∀ (m : Nat) (x y : Int32), (∀ j, hBit x j ↔ Dwn S (hBit (nr c)) m j) → ((m = 0 ∧ y = 0) ∨ (∃ m', m = m' + 1 ∧ ∀ j, hBit y j ↔ Dwn S (hBit (nr c)) m' j)) → y = x → post x () := by
    intro m x y hx hy e
    refine hp x (fun j => ?_)
    rcases hy with ⟨h0, h1⟩ | ⟨m', h0, h1⟩
    · subst h0
      have hz : ∀ j, ¬ Dwn S (hBit (nr c)) 0 j := fun j q => by
        have := (hx j).2 q
        rw [← e, h1] at this
        exact hBit_zero j this
      rw [hx j]
      constructor
      · intro q; exact absurd q (hz j)
      · rintro ⟨s, q1, q2, q3⟩
        exact absurd ⟨s, Nat.le_refl s, by omega, q2, fun i r1 r2 => q3 i (by omega) r2⟩ (hz s)
    · subst h0
      rw [← e] at hx
      rw [← e, h1 j, Dn_fix (fun j q => (h1 j).1 ((hx j).2 q)) j]
  intro k
  induction k with
  | zero =>
    intro m x y hm hx hy
    unfold wpX11_backwards_12
    have e : y = x := by
      rcases hy with ⟨h0, _⟩ | ⟨m', h0, h1⟩
      · omega
      · apply hBit_ext
        intro j
        rw [hx j, h1 j]
        constructor
        · rintro ⟨s, q1, q2, q3, q4⟩
          exact ⟨s, q1, by omega, q3, q4⟩
        · rintro ⟨s, q1, q2, q3, q4⟩
          have := hBit_lt (q4 s q1 (Nat.le_refl s))
          exact ⟨s, q1, by omega, q3, q4⟩
    exact ⟨fun _ => done m x y hx hy e, fun q => absurd e q⟩
  | succ k ih =>
    intro m x y hm hx hy
    unfold wpX11_backwards_12
    refine ⟨fun e => done m x y hx hy e, fun _ => ⟨zN_in (by omega), fun v1 e1 => ?_⟩⟩
    have h31 : ¬ hBit x 31 := fun q => by
      have := hnb 31 (Dwn_in ((hx 31).1 q))
      omega
    refine ih (m + 1) v1 x (by omega) (fun j => ?_) (Or.inr ⟨m, rfl, hx⟩)
    rw [e1, zN (by omega), hBit_or, hBit_and, hBit_shr x j h31, Dn_succ, hx j, hx (j + 1)]
theorem sr_leads16 {post : Int32 → Unit → Prop} (hc : c < 30) (hnb : ∀ j, hBit (nr c) j → j < 30) (hp : ∀ r, (∀ j, hBit r j ↔ DnA S (hBit (nr c)) j) → post r ()) :
    ∀ (k m : Nat) (x y : Int32), m + k = 33 → (∀ j, hBit x j ↔ Dwn S (hBit (nr c)) m j) → ((m = 0 ∧ y = 0) ∨ (∃ m', m = m' + 1 ∧ ∀ j, hBit y j ↔ Dwn S (hBit (nr c)) m' j)) → wpX11_leadsTo_16 post nr (k + 1) (zI (c : Int)) x y := by
  have done : ∀ (m : Nat) (x y : Int32), (∀ j, hBit x j ↔ Dwn S (hBit (nr c)) m j) → ((m = 0 ∧ y = 0) ∨ (∃ m', m = m' + 1 ∧ ∀ j, hBit y j ↔ Dwn S (hBit (nr c)) m' j)) → y = x → post x () := by
    intro m x y hx hy e
    refine hp x (fun j => ?_)
    rcases hy with ⟨h0, h1⟩ | ⟨m', h0, h1⟩
    · subst h0
      have hz : ∀ j, ¬ Dwn S (hBit (nr c)) 0 j := fun j q => by
        have := (hx j).2 q
        rw [← e, h1] at this
        exact hBit_zero j this
      rw [hx j]
      constructor
      · intro q; exact absurd q (hz j)
      · rintro ⟨s, q1, q2, q3⟩
        exact absurd ⟨s, Nat.le_refl s, by omega, q2, fun i r1 r2 => q3 i (by omega) r2⟩ (hz s)
    · subst h0
      rw [← e] at hx
      rw [← e, h1 j, Dn_fix (fun j q => (h1 j).1 ((hx j).2 q)) j]
  intro k
  induction k with
  | zero =>
    intro m x y hm hx hy
    unfold wpX11_leadsTo_16
    have e : y = x := by
      rcases hy with ⟨h0, _⟩ | ⟨m', h0, h1⟩
      · omega
      · apply hBit_ext
        intro j
        rw [hx j, h1 j]
        constructor
        · rintro ⟨s, q1, q2, q3, q4⟩
          exact ⟨s, q1, by omega, q3, q4⟩
        · rintro ⟨s, q1, q2, q3, q4⟩
          have := hBit_lt (q4 s q1 (Nat.le_refl s))
          exact ⟨s, q1, by omega, q3, q4⟩
    exact ⟨fun _ => done m x y hx hy e, fun q => absurd e q⟩
  | succ k ih =>
    intro m x y hm hx hy
    unfold wpX11_leadsTo_16
    refine ⟨fun e => done m x y hx hy e, fun _ => ⟨zN_in (by omega), fun v1 e1 => ?_⟩⟩
    have h31 : ¬ hBit x 31 := fun q => by
      have := hnb 31 (Dwn_in ((hx 31).1 q))
      omega
    refine ih (m + 1) v1 x (by omega) (fun j => ?_) (Or.inr ⟨m, rfl, hx⟩)
    rw [e1, zN (by omega), hBit_or, hBit_and, hBit_shr x j h31, Dn_succ, hx j, hx (j + 1)]
theorem sr_backwards {post : Int32 → Unit → Prop} {s : Int32} (hc : c < 30) (hnb : ∀ j, hBit (nr c) j → j < 30) (hp : ∀ r, (∀ j, hBit r j ↔ DnA (hBit s) (hBit (nr c)) j) → post r ()) : wpX11_backwards post nr s (zI (c : Int)) := by
  unfold wpX11_backwards
  refine ⟨zN_in (by omega), fun v1 e1 => ⟨33 + 1, sr_back12 hc hnb hp 33 0 v1 0 (by omega) (fun j => ?_) (Or.inl ⟨rfl, rfl⟩)⟩⟩
  rw [e1, zN (by omega), hBit_and]
  constructor
  · rintro ⟨h1, h2⟩
    exact ⟨j, Nat.le_refl j, by omega, h1, fun i q1 q2 => by rw [show i = j by omega]; exact h2⟩
  · rintro ⟨s, h1, h2, h3, h4⟩
    have e : s = j := by omega
    subst e
    exact ⟨h3, h4 s h1 h1⟩
theorem sr_leadsTo {post : Int32 → Unit → Prop} {s : Int32} (hc : c < 30) (hnb : ∀ j, hBit (nr c) j → j < 30) (hs : ¬ hBit s 31) (hp : ∀ r, (∀ j, hBit r j ↔ DnA (fun j => hBit s j ∨ hBit s (j + 1)) (hBit (nr c)) j) → post r ()) : wpX11_leadsTo post nr s (zI (c : Int)) := by
  unfold wpX11_leadsTo
  refine ⟨zN_in (by omega), fun v1 e1 => ⟨33 + 1, sr_leads16 hc hnb hp 33 0 v1 0 (by omega) (fun j => ?_) (Or.inl ⟨rfl, rfl⟩)⟩⟩
  rw [e1, zN (by omega), hBit_and, hBit_or, hBit_shr s j hs]
  constructor
  · rintro ⟨h1, h2⟩
    exact ⟨j, Nat.le_refl j, by omega, h1, fun i q1 q2 => by rw [show i = j by omega]; exact h2⟩
  · rintro ⟨s', h1, h2, h3, h4⟩
    have e : s' = j := by omega
    subst e
    exact ⟨h3, h4 s' h1 h1⟩
end
