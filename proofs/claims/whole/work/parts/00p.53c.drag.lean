def zL (z : Int) : Int64 := Int64.ofInt z
theorem zL_add (a b : Int) : zL a + zL b = zL (a + b) := by simp [zL, Int64.ofInt_add]
theorem zL_sub (a b : Int) : zL a - zL b = zL (a - b) := by simp [zL, Int64.ofInt_sub]
theorem zL_mul (a b : Int) : zL a * zL b = zL (a * b) := by simp [zL, Int64.ofInt_mul]
theorem zL_lit (n : Nat) : (OfNat.ofNat n : Int64) = zL (OfNat.ofNat n : Int) := rfl
theorem zL_toInt {a : Int} (h : -9223372036854775808 ≤ a ∧ a < 9223372036854775808) : (zL a).toInt = a := by
  unfold zL
  rw [Int64.toInt_ofInt]
  apply Int.bmod_eq_of_le <;> simp [Int64.size] <;> omega
theorem zI_long {a : Int} (h : -2147483648 ≤ a ∧ a < 2147483648) : (zI a).toInt64 = zL a := by
  apply Int64.toInt_inj.mp
  rw [Int32.toInt_toInt64, zI_toInt h, zL_toInt (by omega)]
theorem zL_cmp {a b : Int} (h : (-9223372036854775808 ≤ a ∧ a < 9223372036854775808) ∧ -9223372036854775808 ≤ b ∧ b < 9223372036854775808) : lg_cmp (zL a) (zL b) = if b < a then 1 else if a = b then 0 else -1 := by
  unfold lg_cmp
  have e1 : (zL a > zL b) = (b < a) := by
    show (zL b < zL a) = (b < a)
    rw [Int64.lt_iff_toInt_lt, zL_toInt h.1, zL_toInt h.2]
  have e2 : (zL a = zL b) = (a = b) := by
    apply propext; constructor
    · intro e
      have := congrArg Int64.toInt e
      rwa [zL_toInt h.1, zL_toInt h.2] at this
    · rintro rfl; rfl
  simp only [e1, e2]
theorem zL_cmp_lt {a b : Int} (h : (-9223372036854775808 ≤ a ∧ a < 9223372036854775808) ∧ -9223372036854775808 ≤ b ∧ b < 9223372036854775808) : (lg_cmp (zL a) (zL b) < zI 0) = (a < b) := by
  rw [zL_cmp h]
  apply propext
  by_cases h1 : b < a
  · rw [if_pos h1]; exact ⟨fun h => absurd h (by decide), fun h => by omega⟩
  · rw [if_neg h1]
    by_cases h2 : a = b
    · rw [if_pos h2]; exact ⟨fun h => absurd h (by decide), fun h => by omega⟩
    · rw [if_neg h2]; exact ⟨fun _ => by omega, fun _ => by decide⟩
theorem zL_cmp_gt {a b : Int} (h : (-9223372036854775808 ≤ a ∧ a < 9223372036854775808) ∧ -9223372036854775808 ≤ b ∧ b < 9223372036854775808) : (zI 0 < lg_cmp (zL a) (zL b)) = (b < a) := by
  rw [zL_cmp h]
  apply propext
  by_cases h1 : b < a
  · rw [if_pos h1]; exact ⟨fun _ => h1, fun h => by decide⟩
  · rw [if_neg h1]
    by_cases h2 : a = b
    · rw [if_pos h2]; exact ⟨fun h => absurd h (by decide), fun h => by omega⟩
    · rw [if_neg h2]; exact ⟨fun h => absurd h (by decide), fun h => by omega⟩
theorem zL_cmp_self (x : Int64) : lg_cmp x x = 0 := by
  unfold lg_cmp
  rw [if_neg (by show ¬ x < x; exact Int64.lt_irrefl), if_pos rfl]
theorem zL_min {a b : Int} (h : (-9223372036854775808 ≤ a ∧ a < 9223372036854775808) ∧ -9223372036854775808 ≤ b ∧ b < 9223372036854775808) : lMin (zL a) (zL b) = zL (min a b) := by
  unfold lMin
  have e1 : (zL b < zL a) = (b < a) := by rw [Int64.lt_iff_toInt_lt, zL_toInt h.1, zL_toInt h.2]
  simp only [e1]; split <;> congr 1 <;> omega
theorem updL_eq (f : Nat → Int64) (k j : Nat) (x : Int64) : vp_updL f k x j = if j = k then x else f j := rfl
def PthS (ok : Int → Int → Prop) (q : Int → Int → Int) (a b c e s : Int) : Prop := ∀ P : Int → Int → Int → Int → Int → Prop, (∀ a b, ok a b → P a b a b (q a b)) → (∀ a b x y c e s, ok a b → Nx a b x y → P x y c e s → P a b c e (s + q a b)) → P a b c e s
section
variable {ok : Int → Int → Prop} {q : Int → Int → Int}
theorem PthS.one {a b : Int} (h : ok a b) : PthS ok q a b a b (q a b) := fun _ h1 _ => h1 a b h
theorem PthS.cons {a b x y c e s : Int} (h : ok a b) (hn : Nx a b x y) (hp : PthS ok q x y c e s) : PthS ok q a b c e (s + q a b) := fun P h1 h2 => h2 a b x y c e s h hn (hp P h1 h2)
theorem PthS.ind {P : Int → Int → Int → Int → Int → Prop} (h1 : ∀ a b, ok a b → P a b a b (q a b)) (h2 : ∀ a b x y c e s, ok a b → Nx a b x y → PthS ok q x y c e s → P x y c e s → P a b c e (s + q a b)) {a b c e s : Int} (h : PthS ok q a b c e s) : P a b c e s :=
  (h (fun a b c e s => PthS ok q a b c e s ∧ P a b c e s) (fun a b hk => ⟨.one hk, h1 a b hk⟩) (fun a b x y c e s hk hn hp => ⟨.cons hk hn hp.1, h2 a b x y c e s hk hn hp.1 hp.2⟩)).2
theorem PthS.cases {a b c e s : Int} (h : PthS ok q a b c e s) : (a = c ∧ b = e ∧ ok a b ∧ s = q a b) ∨ ∃ x y s', ok a b ∧ Nx a b x y ∧ PthS ok q x y c e s' ∧ s = s' + q a b :=
  PthS.ind (ok := ok) (q := q) (P := fun a b c e s => (a = c ∧ b = e ∧ ok a b ∧ s = q a b) ∨ ∃ x y s', ok a b ∧ Nx a b x y ∧ PthS ok q x y c e s' ∧ s = s' + q a b) (fun a b hk => Or.inl ⟨rfl, rfl, hk, rfl⟩) (fun a b x y c e s hk hn hp _ => Or.inr ⟨x, y, s, hk, hn, hp, rfl⟩) h
theorem PthS.mono {a b c e s : Int} (h : PthS ok q a b c e s) : a ≤ c ∧ b ≤ e :=
  PthS.ind (ok := ok) (q := q) (P := fun a b c e _ => a ≤ c ∧ b ≤ e) (fun a b _ => by omega) (fun a b x y c e s _ hn _ ih => by unfold Nx at hn; omega) h
theorem PthS.snoc {a b c e s x y : Int} (h : PthS ok q a b c e s) (hn : Nx c e x y) (hk : ok x y) : PthS ok q a b x y (s + q x y) :=
  PthS.ind (ok := ok) (q := q) (P := fun a b c e s => ∀ x y, Nx c e x y → ok x y → PthS ok q a b x y (s + q x y)) (fun a b h x y hn hk => by have := PthS.cons h hn (PthS.one (q := q) hk); rwa [Int.add_comm] at this) (fun a b x y c e s h1 h2 _ ih x' y' hn hk => by
    have := PthS.cons h1 h2 (ih x' y' hn hk)
    rwa [show s + q a b + q x' y' = s + q x' y' + q a b by omega]) h x y hn hk
theorem PthS.last {a b c e s : Int} (h : PthS ok q a b c e s) : ok c e ∧ ((a = c ∧ b = e ∧ s = q c e) ∨ ∃ x y s', Nx x y c e ∧ PthS ok q a b x y s' ∧ s = s' + q c e) :=
  PthS.ind (ok := ok) (q := q) (P := fun a b c e s => ok c e ∧ ((a = c ∧ b = e ∧ s = q c e) ∨ ∃ x y s', Nx x y c e ∧ PthS ok q a b x y s' ∧ s = s' + q c e)) (fun a b h => ⟨h, Or.inl ⟨rfl, rfl, rfl⟩⟩) (fun a b x y c e s h1 h2 h3 ih => by
    refine ⟨ih.1, Or.inr ?_⟩
    rcases ih.2 with ⟨e1, e2, e3⟩ | ⟨x', y', s', k1, k2, k3⟩
    · subst e1 e2; exact ⟨_, _, _, h2, .one h1, by omega⟩
    · exact ⟨x', y', _, k1, .cons h1 h2 k2, by omega⟩) h
end
noncomputable def Bs (ok : Int → Int → Bool) (q : Int → Int → Int) (F M D : Int) (m d : Int) : Int :=
  if m = M ∧ d = D then 0 else if M ≤ m ∨ D ≤ d then F else if min (Bs ok q F M D (m + 1) (d + 1)) (min (Bs ok q F M D (m + 1) d) (Bs ok q F M D m (d + 1))) = F ∨ ok m d = false then F else min (Bs ok q F M D (m + 1) (d + 1)) (min (Bs ok q F M D (m + 1) d) (Bs ok q F M D m (d + 1))) + q m d
termination_by (M - m).toNat + (D - d).toNat
decreasing_by all_goals omega
noncomputable def Fs (ok : Int → Int → Bool) (q : Int → Int → Int) (F : Int) (m d : Int) : Int :=
  if m < 0 ∨ d < 0 then F else if ok m d = false then F else if m = 0 ∧ d = 0 then q m d else if F ≤ min (Fs ok q F (m - 1) (d - 1)) (min (Fs ok q F (m - 1) d) (Fs ok q F m (d - 1))) then F else min (Fs ok q F (m - 1) (d - 1)) (min (Fs ok q F (m - 1) d) (Fs ok q F m (d - 1))) + q m d
termination_by (m + 1).toNat + (d + 1).toNat
decreasing_by all_goals omega
section
variable {ok : Int → Int → Bool} {q : Int → Int → Int} {M D : Int}
theorem Bs_is (hM : M ≤ 30) (hD : D ≤ 30) (hq : ∀ m d, 0 ≤ m → m < M → 0 ≤ d → d < D → 0 ≤ q m d ∧ q m d ≤ 1996002) : ∀ (n : Nat) (m d : Int), (M - m).toNat + (D - d).toNat = n → 0 ≤ m → m < M → 0 ≤ d → d < D →
    (Bs ok q 2147483647 M D m d = 2147483647 ∧ ∀ s, ¬ PthS (fun x y => ok x y = true) q m d (M - 1) (D - 1) s) ∨ ((0 ≤ Bs ok q 2147483647 M D m d ∧ Bs ok q 2147483647 M D m d ≤ (M - m + (D - d)) * 1996002) ∧ PthS (fun x y => ok x y = true) q m d (M - 1) (D - 1) (Bs ok q 2147483647 M D m d) ∧ ∀ s, PthS (fun x y => ok x y = true) q m d (M - 1) (D - 1) s → Bs ok q 2147483647 M D m d ≤ s) := by
  intro n
  induction n using Nat.strongRecOn with
  | _ n ih =>
    intro m d hn hm0 hm hd0 hd
    have hq' := hq m d hm0 hm hd0 hd
    by_cases hk : ok m d = false
    · left
      refine ⟨by rw [Bs, if_neg (by omega), if_neg (by omega), if_pos (Or.inr hk)], fun s hs => ?_⟩
      rcases hs.cases with ⟨_, _, h, _⟩ | ⟨x, y, s', h, _⟩
      · rw [hk] at h; exact absurd h (by decide)
      · rw [hk] at h; exact absurd h (by decide)
    have hk' : ok m d = true := by simpa using hk
    by_cases he : m = M - 1 ∧ d = D - 1
    · have e0 : Bs ok q 2147483647 M D (m + 1) (d + 1) = 0 := by rw [Bs, if_pos (by omega)]
      have e1 : Bs ok q 2147483647 M D (m + 1) d = 2147483647 := by rw [Bs, if_neg (by omega), if_pos (by omega)]
      have e2 : Bs ok q 2147483647 M D m (d + 1) = 2147483647 := by rw [Bs, if_neg (by omega), if_pos (by omega)]
      have e : Bs ok q 2147483647 M D m d = q m d := by
        rw [Bs, if_neg (by omega), if_neg (by omega), e0, e1, e2, if_neg (by rw [hk']; intro h; rcases h with h | h <;> first | omega | exact absurd h (by decide))]
        omega
      right
      rw [e]
      refine ⟨by omega, ?_, fun s hs => ?_⟩
      · have := PthS.one (ok := fun x y => ok x y = true) (q := q) hk'
        rw [← he.1, ← he.2]; exact this
      · rcases hs.cases with ⟨_, _, _, h⟩ | ⟨x, y, s', _, h1, h2, h3⟩
        · omega
        · have := h2.mono; unfold Nx at h1; omega
    · have key : ∀ x y, Nx m d x y → (Bs ok q 2147483647 M D x y = 2147483647 ∧ ∀ s, ¬ PthS (fun x y => ok x y = true) q x y (M - 1) (D - 1) s) ∨ ((0 ≤ Bs ok q 2147483647 M D x y ∧ Bs ok q 2147483647 M D x y ≤ (M - m + (D - d) - 1) * 1996002) ∧ PthS (fun x y => ok x y = true) q x y (M - 1) (D - 1) (Bs ok q 2147483647 M D x y) ∧ ∀ s, PthS (fun x y => ok x y = true) q x y (M - 1) (D - 1) s → Bs ok q 2147483647 M D x y ≤ s) := by
        intro x y hx
        unfold Nx at hx
        by_cases h : x < M ∧ y < D
        · rcases ih ((M - x).toNat + (D - y).toNat) (by omega) x y rfl (by omega) h.1 (by omega) h.2 with h' | h'
          · exact Or.inl h'
          · exact Or.inr ⟨⟨h'.1.1, by have := h'.1.2; omega⟩, h'.2⟩
        · left
          refine ⟨by rw [Bs, if_neg (by omega), if_pos (by omega)], fun s hs => ?_⟩
          have := hs.mono; omega
      have k1 := key (m + 1) (d + 1) (by unfold Nx; omega)
      have k2 := key (m + 1) d (by unfold Nx; omega)
      have k3 := key m (d + 1) (by unfold Nx; omega)
      by_cases hmin : min (Bs ok q 2147483647 M D (m + 1) (d + 1)) (min (Bs ok q 2147483647 M D (m + 1) d) (Bs ok q 2147483647 M D m (d + 1))) = 2147483647
      · left
        refine ⟨by rw [Bs, if_neg (by omega), if_neg (by omega), if_pos (Or.inl hmin)], fun s hs => ?_⟩
        rcases hs.cases with ⟨h1, h2, _⟩ | ⟨x, y, s', _, h1, h2, h3⟩
        · omega
        · rcases h1 with ⟨rfl, rfl⟩ | ⟨rfl, rfl⟩ | ⟨rfl, rfl⟩
          · rcases k2 with k | k
            · exact k.2 _ h2
            · omega
          · rcases k3 with k | k
            · exact k.2 _ h2
            · omega
          · rcases k1 with k | k
            · exact k.2 _ h2
            · omega
      · right
        have e : Bs ok q 2147483647 M D m d = min (Bs ok q 2147483647 M D (m + 1) (d + 1)) (min (Bs ok q 2147483647 M D (m + 1) d) (Bs ok q 2147483647 M D m (d + 1))) + q m d := by
          rw [Bs, if_neg (by omega), if_neg (by omega), if_neg (by rw [hk']; intro h; rcases h with h | h <;> first | exact hmin h | exact absurd h (by decide))]
        rw [e]
        refine ⟨by omega, ?_, fun s hs => ?_⟩
        · rcases (show (min (Bs ok q 2147483647 M D (m + 1) (d + 1)) (min (Bs ok q 2147483647 M D (m + 1) d) (Bs ok q 2147483647 M D m (d + 1))) = Bs ok q 2147483647 M D (m + 1) (d + 1) ∧ Bs ok q 2147483647 M D (m + 1) (d + 1) ≠ 2147483647) ∨ (min (Bs ok q 2147483647 M D (m + 1) (d + 1)) (min (Bs ok q 2147483647 M D (m + 1) d) (Bs ok q 2147483647 M D m (d + 1))) = Bs ok q 2147483647 M D (m + 1) d ∧ Bs ok q 2147483647 M D (m + 1) d ≠ 2147483647) ∨ (min (Bs ok q 2147483647 M D (m + 1) (d + 1)) (min (Bs ok q 2147483647 M D (m + 1) d) (Bs ok q 2147483647 M D m (d + 1))) = Bs ok q 2147483647 M D m (d + 1) ∧ Bs ok q 2147483647 M D m (d + 1) ≠ 2147483647) by omega) with h | h | h
          · rw [h.1]
            rcases k1 with k | k
            · exact absurd k.1 h.2
            · exact PthS.cons (ok := fun x y => ok x y = true) hk' (by unfold Nx; omega) k.2.1
          · rw [h.1]
            rcases k2 with k | k
            · exact absurd k.1 h.2
            · exact PthS.cons (ok := fun x y => ok x y = true) hk' (by unfold Nx; omega) k.2.1
          · rw [h.1]
            rcases k3 with k | k
            · exact absurd k.1 h.2
            · exact PthS.cons (ok := fun x y => ok x y = true) hk' (by unfold Nx; omega) k.2.1
        · rcases hs.cases with ⟨h1, h2, _⟩ | ⟨x, y, s', _, h1, h2, h3⟩
          · omega
          · rcases h1 with ⟨rfl, rfl⟩ | ⟨rfl, rfl⟩ | ⟨rfl, rfl⟩
            · rcases k2 with k | k
              · exact absurd h2 (k.2 _)
              · have := k.2.2 _ h2; omega
            · rcases k3 with k | k
              · exact absurd h2 (k.2 _)
              · have := k.2.2 _ h2; omega
            · rcases k1 with k | k
              · exact absurd h2 (k.2 _)
              · have := k.2.2 _ h2; omega
theorem Fs_is (hM : M ≤ 30) (hD : D ≤ 30) (hq : ∀ m d, 0 ≤ m → m < M → 0 ≤ d → d < D → 0 ≤ q m d ∧ q m d ≤ 1996002) : ∀ (n : Nat) (m d : Int), (m + 1).toNat + (d + 1).toNat = n → m < M → d < D → -1 ≤ m → -1 ≤ d →
    (Fs ok q 1000000000000000 m d = 1000000000000000 ∧ ∀ s, ¬ PthS (fun x y => ok x y = true) q 0 0 m d s) ∨ ((0 ≤ Fs ok q 1000000000000000 m d ∧ Fs ok q 1000000000000000 m d ≤ (m + d + 1) * 1996002) ∧ PthS (fun x y => ok x y = true) q 0 0 m d (Fs ok q 1000000000000000 m d) ∧ ∀ s, PthS (fun x y => ok x y = true) q 0 0 m d s → Fs ok q 1000000000000000 m d ≤ s) := by
  intro n
  induction n using Nat.strongRecOn with
  | _ n ih =>
    intro m d hn hm hd hm1 hd1
    by_cases h0 : m < 0 ∨ d < 0
    · left
      refine ⟨by rw [Fs, if_pos h0], fun s hs => ?_⟩
      have := hs.mono; omega
    have hq' := hq m d (by omega) hm (by omega) hd
    by_cases hk : ok m d = false
    · left
      refine ⟨by rw [Fs, if_neg h0, if_pos hk], fun s hs => ?_⟩
      have h := hs.last.1
      simp only [hk] at h
      exact absurd h (by decide)
    have hk' : ok m d = true := by simpa using hk
    by_cases he : m = 0 ∧ d = 0
    · have e : Fs ok q 1000000000000000 m d = q m d := by rw [Fs, if_neg h0, if_neg hk, if_pos he]
      right
      rw [e]
      refine ⟨by omega, ?_, fun s hs => ?_⟩
      · have := PthS.one (ok := fun x y => ok x y = true) (q := q) hk'
        rw [he.1, he.2] at this ⊢; exact this
      · rcases hs.last.2 with ⟨_, _, h⟩ | ⟨x, y, s', h1, h2, h3⟩
        · omega
        · have := h2.mono; unfold Nx at h1; omega
    · have k1 := ih ((m - 1 + 1).toNat + (d - 1 + 1).toNat) (by omega) (m - 1) (d - 1) rfl (by omega) (by omega) (by omega) (by omega)
      have k2 := ih ((m - 1 + 1).toNat + (d + 1).toNat) (by omega) (m - 1) d rfl (by omega) (by omega) (by omega) (by omega)
      have k3 := ih ((m + 1).toNat + (d - 1 + 1).toNat) (by omega) m (d - 1) rfl (by omega) (by omega) (by omega) (by omega)
      by_cases hmin : 1000000000000000 ≤ min (Fs ok q 1000000000000000 (m - 1) (d - 1)) (min (Fs ok q 1000000000000000 (m - 1) d) (Fs ok q 1000000000000000 m (d - 1)))
      · left
        refine ⟨by rw [Fs, if_neg h0, if_neg hk, if_neg he, if_pos hmin], fun s hs => ?_⟩
        rcases hs.last.2 with ⟨h1, h2, _⟩ | ⟨x, y, s', h1, h2, h3⟩
        · omega
        · rcases h1 with ⟨e1, e2⟩ | ⟨e1, e2⟩ | ⟨e1, e2⟩
          · rw [show x = m - 1 by omega, show y = d by omega] at h2
            rcases k2 with k | k
            · exact k.2 _ h2
            · omega
          · rw [show x = m by omega, show y = d - 1 by omega] at h2
            rcases k3 with k | k
            · exact k.2 _ h2
            · omega
          · rw [show x = m - 1 by omega, show y = d - 1 by omega] at h2
            rcases k1 with k | k
            · exact k.2 _ h2
            · omega
      · right
        have e : Fs ok q 1000000000000000 m d = min (Fs ok q 1000000000000000 (m - 1) (d - 1)) (min (Fs ok q 1000000000000000 (m - 1) d) (Fs ok q 1000000000000000 m (d - 1))) + q m d := by
          rw [Fs, if_neg h0, if_neg hk, if_neg he, if_neg hmin]
        rw [e]
        refine ⟨by omega, ?_, fun s hs => ?_⟩
        · rcases (show (min (Fs ok q 1000000000000000 (m - 1) (d - 1)) (min (Fs ok q 1000000000000000 (m - 1) d) (Fs ok q 1000000000000000 m (d - 1))) = Fs ok q 1000000000000000 (m - 1) (d - 1) ∧ Fs ok q 1000000000000000 (m - 1) (d - 1) ≠ 1000000000000000) ∨ (min (Fs ok q 1000000000000000 (m - 1) (d - 1)) (min (Fs ok q 1000000000000000 (m - 1) d) (Fs ok q 1000000000000000 m (d - 1))) = Fs ok q 1000000000000000 (m - 1) d ∧ Fs ok q 1000000000000000 (m - 1) d ≠ 1000000000000000) ∨ (min (Fs ok q 1000000000000000 (m - 1) (d - 1)) (min (Fs ok q 1000000000000000 (m - 1) d) (Fs ok q 1000000000000000 m (d - 1))) = Fs ok q 1000000000000000 m (d - 1) ∧ Fs ok q 1000000000000000 m (d - 1) ≠ 1000000000000000) by omega) with h | h | h
          · rw [h.1]
            rcases k1 with k | k
            · exact absurd k.1 h.2
            · exact PthS.snoc (ok := fun x y => ok x y = true) k.2.1 (by unfold Nx; omega) hk'
          · rw [h.1]
            rcases k2 with k | k
            · exact absurd k.1 h.2
            · exact PthS.snoc (ok := fun x y => ok x y = true) k.2.1 (by unfold Nx; omega) hk'
          · rw [h.1]
            rcases k3 with k | k
            · exact absurd k.1 h.2
            · exact PthS.snoc (ok := fun x y => ok x y = true) k.2.1 (by unfold Nx; omega) hk'
        · rcases hs.last.2 with ⟨h1, h2, _⟩ | ⟨x, y, s', h1, h2, h3⟩
          · omega
          · rcases h1 with ⟨e1, e2⟩ | ⟨e1, e2⟩ | ⟨e1, e2⟩
            · rw [show x = m - 1 by omega, show y = d by omega] at h2
              rcases k2 with k | k
              · exact absurd h2 (k.2 _)
              · have := k.2.2 _ h2; omega
            · rw [show x = m by omega, show y = d - 1 by omega] at h2
              rcases k3 with k | k
              · exact absurd h2 (k.2 _)
              · have := k.2.2 _ h2; omega
            · rw [show x = m - 1 by omega, show y = d - 1 by omega] at h2
              rcases k1 with k | k
              · exact absurd h2 (k.2 _)
              · have := k.2.2 _ h2; omega
theorem Bs_Fs (hM : 1 ≤ M ∧ M ≤ 30) (hD : 1 ≤ D ∧ D ≤ 30) (hq : ∀ m d, 0 ≤ m → m < M → 0 ≤ d → d < D → 0 ≤ q m d ∧ q m d ≤ 1996002) : (Bs ok q 2147483647 M D 0 0 = 2147483647 ∧ Fs ok q 1000000000000000 (M - 1) (D - 1) = 1000000000000000) ∨ (Bs ok q 2147483647 M D 0 0 = Fs ok q 1000000000000000 (M - 1) (D - 1) ∧ 0 ≤ Bs ok q 2147483647 M D 0 0 ∧ Bs ok q 2147483647 M D 0 0 ≤ 119760120) := by
  rcases Bs_is (ok := ok) hM.2 hD.2 hq _ 0 0 rfl (by omega) (by omega) (by omega) (by omega) with h1 | h1
  · rcases Fs_is (ok := ok) hM.2 hD.2 hq _ (M - 1) (D - 1) rfl (by omega) (by omega) (by omega) (by omega) with h2 | h2
    · exact Or.inl ⟨h1.1, h2.1⟩
    · exact absurd h2.2.1 (h1.2 _)
  · rcases Fs_is (ok := ok) hM.2 hD.2 hq _ (M - 1) (D - 1) rfl (by omega) (by omega) (by omega) (by omega) with h2 | h2
    · exact absurd h1.2.1 (h2.2 _)
    · have a := h1.2.2 _ h2.2.1
      have b := h2.2.2 _ h1.2.1
      right; omega
end
