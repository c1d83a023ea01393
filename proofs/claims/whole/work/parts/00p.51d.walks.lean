noncomputable def Bk (q : Int → Int → Int) (F M D : Int) (m d : Int) : Int :=
  if m = M ∧ d = D then 0 else if M ≤ m ∨ D ≤ d then F else max (q m d) (min (Bk q F M D (m + 1) (d + 1)) (min (Bk q F M D (m + 1) d) (Bk q F M D m (d + 1))))
termination_by (M - m).toNat + (D - d).toNat
decreasing_by all_goals omega
noncomputable def Fw (q : Int → Int → Int) (F : Int) (m d : Int) : Int :=
  if m < 0 ∨ d < 0 then F else if m = 0 ∧ d = 0 then max (q m d) 0 else max (q m d) (min (Fw q F (m - 1) (d - 1)) (min (Fw q F (m - 1) d) (Fw q F m (d - 1))))
termination_by (m + 1).toNat + (d + 1).toNat
decreasing_by all_goals omega
def Nx (a b c e : Int) : Prop := (c = a + 1 ∧ e = b) ∨ (c = a ∧ e = b + 1) ∨ (c = a + 1 ∧ e = b + 1)
def Pth (ok : Int → Int → Prop) (a b c e : Int) : Prop := ∀ P : Int → Int → Int → Int → Prop, (∀ a b, ok a b → P a b a b) → (∀ a b x y c e, ok a b → Nx a b x y → P x y c e → P a b c e) → P a b c e
theorem Pth.one {ok : Int → Int → Prop} {a b : Int} (h : ok a b) : Pth ok a b a b := fun _ h1 _ => h1 a b h
theorem Pth.cons {ok : Int → Int → Prop} {a b x y c e : Int} (h : ok a b) (hn : Nx a b x y) (hp : Pth ok x y c e) : Pth ok a b c e := fun P h1 h2 => h2 a b x y c e h hn (hp P h1 h2)
theorem Pth.ind {ok : Int → Int → Prop} {P : Int → Int → Int → Int → Prop} (h1 : ∀ a b, ok a b → P a b a b) (h2 : ∀ a b x y c e, ok a b → Nx a b x y → Pth ok x y c e → P x y c e → P a b c e) {a b c e : Int} (h : Pth ok a b c e) : P a b c e :=
  (h (fun a b c e => Pth ok a b c e ∧ P a b c e) (fun a b hk => ⟨.one hk, h1 a b hk⟩) (fun a b x y c e hk hn hp => ⟨.cons hk hn hp.1, h2 a b x y c e hk hn hp.1 hp.2⟩)).2
theorem Pth.cases {ok : Int → Int → Prop} {a b c e : Int} (h : Pth ok a b c e) : (a = c ∧ b = e ∧ ok a b) ∨ ∃ x y, ok a b ∧ Nx a b x y ∧ Pth ok x y c e :=
  Pth.ind (P := fun a b c e => (a = c ∧ b = e ∧ ok a b) ∨ ∃ x y, ok a b ∧ Nx a b x y ∧ Pth ok x y c e) (fun a b hk => Or.inl ⟨rfl, rfl, hk⟩) (fun a b x y c e hk hn hp _ => Or.inr ⟨x, y, hk, hn, hp⟩) h
theorem Pth.mono {ok : Int → Int → Prop} {a b c e : Int} (h : Pth ok a b c e) : a ≤ c ∧ b ≤ e :=
  Pth.ind (P := fun a b c e => a ≤ c ∧ b ≤ e) (fun a b _ => by omega) (fun a b x y c e _ hn _ ih => by unfold Nx at hn; omega) h
theorem Pth.snoc {ok : Int → Int → Prop} {a b c e x y : Int} (h : Pth ok a b c e) (hn : Nx c e x y) (hk : ok x y) : Pth ok a b x y :=
  Pth.ind (P := fun a b c e => ∀ x y, Nx c e x y → ok x y → Pth ok a b x y) (fun a b h x y hn hk => .cons h hn (.one hk)) (fun a b x y c e h1 h2 _ ih x' y' hn hk => .cons h1 h2 (ih x' y' hn hk)) h x y hn hk
theorem Pth.last {ok : Int → Int → Prop} {a b c e : Int} (h : Pth ok a b c e) : ok c e ∧ ((a = c ∧ b = e) ∨ ∃ x y, Nx x y c e ∧ Pth ok a b x y) :=
  Pth.ind (P := fun a b c e => ok c e ∧ ((a = c ∧ b = e) ∨ ∃ x y, Nx x y c e ∧ Pth ok a b x y)) (fun a b h => ⟨h, Or.inl ⟨rfl, rfl⟩⟩) (fun a b x y c e h1 h2 h3 ih => by
    refine ⟨ih.1, Or.inr ?_⟩
    rcases ih.2 with ⟨e1, e2⟩ | ⟨x', y', k1, k2⟩
    · subst e1 e2; exact ⟨_, _, h2, .one h1⟩
    · exact ⟨x', y', k1, .cons h1 h2 k2⟩) h
theorem Pth.imp {ok ok' : Int → Int → Prop} {a b c e : Int} (h : Pth ok a b c e) (hi : ∀ x y, a ≤ x → x ≤ c → b ≤ y → y ≤ e → ok x y → ok' x y) : Pth ok' a b c e :=
  Pth.ind (P := fun a b c e => (∀ x y, a ≤ x → x ≤ c → b ≤ y → y ≤ e → ok x y → ok' x y) → Pth ok' a b c e) (fun a b h hi => .one (hi _ _ (by omega) (by omega) (by omega) (by omega) h)) (fun a b x y c e h1 h2 h3 ih hi => by
    have := h3.mono
    have h2' := h2
    unfold Nx at h2'
    exact .cons (hi _ _ (by omega) (by omega) (by omega) (by omega) h1) h2 (ih (fun x y _ _ _ _ hk => hi x y (by omega) (by omega) (by omega) (by omega) hk))) h hi
theorem Bk_pth {q : Int → Int → Int} {F M D t : Int} (ht : 0 ≤ t) (hF : t < F) : ∀ (n : Nat) (m d : Int), (M - m).toNat + (D - d).toNat = n → m < M → d < D → (Bk q F M D m d ≤ t ↔ Pth (fun x y => q x y ≤ t) m d (M - 1) (D - 1)) := by
  intro n
  induction n using Nat.strongRecOn with
  | _ n ih =>
    intro m d hn hm hd
    have key : ∀ x y, Nx m d x y → (Bk q F M D x y ≤ t ↔ (x = M ∧ y = D) ∨ (x < M ∧ y < D ∧ Pth (fun x y => q x y ≤ t) x y (M - 1) (D - 1))) := by
      intro x y hx
      unfold Nx at hx
      by_cases h : x < M ∧ y < D
      · rw [ih ((M - x).toNat + (D - y).toNat) (by omega) x y rfl h.1 h.2]
        constructor
        · exact fun hp => Or.inr ⟨h.1, h.2, hp⟩
        · rintro (h' | h')
          · omega
          · exact h'.2.2
      · rw [Bk]
        split
        · constructor
          · exact fun _ => Or.inl ‹_›
          · exact fun _ => ht
        · rw [if_pos (by omega)]
          constructor
          · exact fun h => by omega
          · rintro (h' | h')
            · exact absurd h' ‹_›
            · omega
    have k1 := key (m + 1) (d + 1) (by unfold Nx; omega)
    have k2 := key (m + 1) d (by unfold Nx; omega)
    have k3 := key m (d + 1) (by unfold Nx; omega)
    rw [Bk, if_neg (by omega), if_neg (by omega)]
    rw [show (max (q m d) (min (Bk q F M D (m + 1) (d + 1)) (min (Bk q F M D (m + 1) d) (Bk q F M D m (d + 1)))) ≤ t) ↔ (q m d ≤ t ∧ (Bk q F M D (m + 1) (d + 1) ≤ t ∨ Bk q F M D (m + 1) d ≤ t ∨ Bk q F M D m (d + 1) ≤ t)) by omega, k1, k2, k3]
    constructor
    · rintro ⟨h0, (h | h) | (h | h) | (h | h)⟩
      · have e1 : m = M - 1 := by omega
        have e2 : d = D - 1 := by omega
        rw [e1, e2] at h0 ⊢
        exact .one h0
      · exact .cons h0 (by unfold Nx; omega) h.2.2
      · omega
      · exact .cons h0 (by unfold Nx; omega) h.2.2
      · omega
      · exact .cons h0 (by unfold Nx; omega) h.2.2
    · intro h
      rcases h.cases with ⟨e1, e2, h0⟩ | ⟨x, y, h0, hn, hp⟩
      · exact ⟨h0, Or.inl (Or.inl (by omega))⟩
      · refine ⟨h0, ?_⟩
        have := hp.mono
        rcases hn with ⟨rfl, rfl⟩ | ⟨rfl, rfl⟩ | ⟨rfl, rfl⟩
        · exact Or.inr (Or.inl (Or.inr ⟨by omega, by omega, hp⟩))
        · exact Or.inr (Or.inr (Or.inr ⟨by omega, by omega, hp⟩))
        · exact Or.inl (Or.inr ⟨by omega, by omega, hp⟩)
theorem Fw_pth {q : Int → Int → Int} {F t : Int} (ht : 0 ≤ t) (hF : t < F) : ∀ (n : Nat) (m d : Int), (m + 1).toNat + (d + 1).toNat = n → (Fw q F m d ≤ t ↔ (0 ≤ m ∧ 0 ≤ d) ∧ Pth (fun x y => q x y ≤ t) 0 0 m d) := by
  intro n
  induction n using Nat.strongRecOn with
  | _ n ih =>
    intro m d hn
    rw [Fw]
    split
    · constructor
      · intro h; omega
      · intro h; omega
    · split
      · rename_i h1 h2
        rw [h2.1, h2.2]
        constructor
        · exact fun h => ⟨by omega, .one (by omega)⟩
        · intro h
          have := h.2.last.1
          omega
      · rename_i h1 h2
        have k1 := ih ((m - 1 + 1).toNat + (d - 1 + 1).toNat) (by omega) (m - 1) (d - 1) rfl
        have k2 := ih ((m - 1 + 1).toNat + (d + 1).toNat) (by omega) (m - 1) d rfl
        have k3 := ih ((m + 1).toNat + (d - 1 + 1).toNat) (by omega) m (d - 1) rfl
        rw [show (max (q m d) (min (Fw q F (m - 1) (d - 1)) (min (Fw q F (m - 1) d) (Fw q F m (d - 1)))) ≤ t) ↔ (q m d ≤ t ∧ (Fw q F (m - 1) (d - 1) ≤ t ∨ Fw q F (m - 1) d ≤ t ∨ Fw q F m (d - 1) ≤ t)) by omega, k1, k2, k3]
        constructor
        · rintro ⟨h0, h | h | h⟩
          · exact ⟨by omega, h.2.snoc (by unfold Nx; omega) h0⟩
          · exact ⟨by omega, h.2.snoc (by unfold Nx; omega) h0⟩
          · exact ⟨by omega, h.2.snoc (by unfold Nx; omega) h0⟩
        · rintro ⟨h0, h⟩
          obtain ⟨l1, l2 | ⟨x, y, hn, hp⟩⟩ := h.last
          · omega
          · refine ⟨l1, ?_⟩
            have := hp.mono
            rcases hn with ⟨e1, e2⟩ | ⟨e1, e2⟩ | ⟨e1, e2⟩
            · right; left
              rw [show m - 1 = x by omega, e2]
              exact ⟨by omega, hp⟩
            · right; right
              rw [show d - 1 = y by omega, e1]
              exact ⟨by omega, hp⟩
            · left
              rw [show d - 1 = y by omega, show m - 1 = x by omega]
              exact ⟨by omega, hp⟩
def Agr (x y : Int) : Prop := (x = 2147483647 ∧ y = 2000000000) ∨ (x = y ∧ 0 ≤ x ∧ x < 2000000000)
theorem agr_of {x y : Int} (hx : x = 2147483647 ∨ 0 ≤ x ∧ x < 2000000000) (hy : y = 2000000000 ∨ 0 ≤ y ∧ y < 2000000000) (h : ∀ t, 0 ≤ t → t < 2000000000 → (x ≤ t ↔ y ≤ t)) : Agr x y := by
  unfold Agr
  rcases hx with hx | hx
  · rcases hy with hy | hy
    · exact Or.inl ⟨hx, hy⟩
    · have := h y hy.1 hy.2; omega
  · have h1 := h x hx.1 hx.2
    rcases hy with hy | hy
    · omega
    · have h2 := h y hy.1 hy.2; omega
theorem Bk_rng {q : Int → Int → Int} {M D : Int} (hq : ∀ m d, 0 ≤ m → m < M → 0 ≤ d → d < D → q m d = 2147483647 ∨ 0 ≤ q m d ∧ q m d < 2000000000) : ∀ (n : Nat) (m d : Int), (M - m).toNat + (D - d).toNat = n → 0 ≤ m → 0 ≤ d → (Bk q 2147483647 M D m d = 2147483647 ∨ 0 ≤ Bk q 2147483647 M D m d ∧ Bk q 2147483647 M D m d < 2000000000) := by
  intro n
  induction n using Nat.strongRecOn with
  | _ n ih =>
    intro m d hn hm0 hd0
    rw [Bk]
    split
    · omega
    · split
      · omega
      · have k1 := ih ((M - (m + 1)).toNat + (D - (d + 1)).toNat) (by omega) (m + 1) (d + 1) rfl (by omega) (by omega)
        have k2 := ih ((M - (m + 1)).toNat + (D - d).toNat) (by omega) (m + 1) d rfl (by omega) (by omega)
        have k3 := ih ((M - m).toNat + (D - (d + 1)).toNat) (by omega) m (d + 1) rfl (by omega) (by omega)
        have := hq m d (by omega) (by omega) (by omega) (by omega)
        omega
theorem Fw_rng {q : Int → Int → Int} {M D : Int} (hq : ∀ m d, 0 ≤ m → m < M → 0 ≤ d → d < D → q m d = 2000000000 ∨ 0 ≤ q m d ∧ q m d < 2000000000) : ∀ (n : Nat) (m d : Int), (m + 1).toNat + (d + 1).toNat = n → m < M → d < D → (Fw q 2000000000 m d = 2000000000 ∨ 0 ≤ Fw q 2000000000 m d ∧ Fw q 2000000000 m d < 2000000000) := by
  intro n
  induction n using Nat.strongRecOn with
  | _ n ih =>
    intro m d hn hm hd
    rw [Fw]
    split
    · omega
    · have := hq m d (by omega) (by omega) (by omega) (by omega)
      split
      · omega
      · have k1 := ih ((m - 1 + 1).toNat + (d - 1 + 1).toNat) (by omega) (m - 1) (d - 1) rfl (by omega) (by omega)
        have k2 := ih ((m - 1 + 1).toNat + (d + 1).toNat) (by omega) (m - 1) d rfl (by omega) (by omega)
        have k3 := ih ((m + 1).toNat + (d - 1 + 1).toNat) (by omega) m (d - 1) rfl (by omega) (by omega)
        omega
theorem Bk_Fw {q1 q2 : Int → Int → Int} {M D : Int} (hM : 0 < M) (hD : 0 < D) (hq : ∀ m d, 0 ≤ m → m < M → 0 ≤ d → d < D → Agr (q1 m d) (q2 m d)) : Agr (Bk q1 2147483647 M D 0 0) (Fw q2 2000000000 (M - 1) (D - 1)) := by
  refine agr_of (Bk_rng (fun m d a b c e => by have := hq m d a b c e; unfold Agr at this; omega) _ 0 0 rfl (by omega) (by omega)) (Fw_rng (M := M) (D := D) (fun m d a b c e => ?_) _ (M - 1) (D - 1) rfl (by omega) (by omega)) (fun t h0 h1 => ?_)
  · have := hq m d a b c e
    unfold Agr at this; omega
  · rw [Bk_pth h0 (by omega) _ 0 0 rfl hM hD, Fw_pth h0 h1 _ (M - 1) (D - 1) rfl]
    constructor
    · refine fun h => ⟨by omega, h.imp (fun x y a b c e hk => ?_)⟩
      have := hq x y a (by omega) c (by omega)
      unfold Agr at this; omega
    · refine fun h => h.2.imp (fun x y a b c e hk => ?_)
      have := hq x y a (by omega) c (by omega)
      unfold Agr at this; omega
theorem pr_agr {g : Gd} (hg : g.Ok) {S : Int → Int → Int → Int → Bool} {w o m d : Int} (h1 : g.hc w m) (h2 : g.hc o d) : Agr (g.pr S 2147483647 w o m d) (g.pr S 2000000000 w o m d) := by
  have := Gd.far_le hg h1 h2
  unfold Gd.pr Agr
  split <;> omega
theorem Bk_bd {q : Int → Int → Int} {F M D : Int} (hF : 0 ≤ F) (hq : ∀ m d, 0 ≤ m → m < M → 0 ≤ d → d < D → 0 ≤ q m d ∧ q m d ≤ F) : ∀ (n : Nat) (m d : Int), (M - m).toNat + (D - d).toNat = n → 0 ≤ m → 0 ≤ d → 0 ≤ Bk q F M D m d ∧ Bk q F M D m d ≤ F := by
  intro n
  induction n using Nat.strongRecOn with
  | _ n ih =>
    intro m d hn hm0 hd0
    rw [Bk]
    split
    · omega
    · split
      · omega
      · have k1 := ih ((M - (m + 1)).toNat + (D - (d + 1)).toNat) (by omega) (m + 1) (d + 1) rfl (by omega) (by omega)
        have k2 := ih ((M - (m + 1)).toNat + (D - d).toNat) (by omega) (m + 1) d rfl (by omega) (by omega)
        have k3 := ih ((M - m).toNat + (D - (d + 1)).toNat) (by omega) m (d + 1) rfl (by omega) (by omega)
        have := hq m d (by omega) (by omega) (by omega) (by omega)
        omega
theorem Bk_in {q : Int → Int → Int} {F M D m d : Int} (hm : m < M) (hd : d < D) : Bk q F M D m d = max (q m d) (min (Bk q F M D (m + 1) (d + 1)) (min (Bk q F M D (m + 1) d) (Bk q F M D m (d + 1)))) := by
  rw [Bk, if_neg (by omega), if_neg (by omega)]
theorem Bk_out {q : Int → Int → Int} {F M D m d : Int} (h : M ≤ m ∨ D ≤ d) (hn : ¬ (m = M ∧ d = D)) : Bk q F M D m d = F := by
  rw [Bk, if_neg hn, if_pos h]
theorem Bk_end {q : Int → Int → Int} {F M D : Int} : Bk q F M D M D = 0 := by
  rw [Bk, if_pos ⟨rfl, rfl⟩]
theorem Fw_bd {q : Int → Int → Int} {F M D : Int} (hF : 0 ≤ F) (hq : ∀ m d, 0 ≤ m → m < M → 0 ≤ d → d < D → 0 ≤ q m d ∧ q m d ≤ F) : ∀ (n : Nat) (m d : Int), (m + 1).toNat + (d + 1).toNat = n → m < M → d < D → 0 ≤ Fw q F m d ∧ Fw q F m d ≤ F := by
  intro n
  induction n using Nat.strongRecOn with
  | _ n ih =>
    intro m d hn hm hd
    rw [Fw]
    split
    · omega
    · have := hq m d (by omega) (by omega) (by omega) (by omega)
      split
      · omega
      · have k1 := ih ((m - 1 + 1).toNat + (d - 1 + 1).toNat) (by omega) (m - 1) (d - 1) rfl (by omega) (by omega)
        have k2 := ih ((m - 1 + 1).toNat + (d + 1).toNat) (by omega) (m - 1) d rfl (by omega) (by omega)
        have k3 := ih ((m + 1).toNat + (d - 1 + 1).toNat) (by omega) m (d - 1) rfl (by omega) (by omega)
        omega
theorem Fw_in {q : Int → Int → Int} {F m d : Int} (hm : 0 ≤ m) (hd : 0 ≤ d) (h : ¬ (m = 0 ∧ d = 0)) : Fw q F m d = max (q m d) (min (Fw q F (m - 1) (d - 1)) (min (Fw q F (m - 1) d) (Fw q F m (d - 1)))) := by
  rw [Fw, if_neg (by omega), if_neg h]
theorem Fw_out {q : Int → Int → Int} {F m d : Int} (h : m < 0 ∨ d < 0) : Fw q F m d = F := by
  rw [Fw, if_pos h]
theorem Fw_zero {q : Int → Int → Int} {F : Int} : Fw q F 0 0 = max (q 0 0) 0 := by
  rw [Fw, if_neg (by omega), if_pos ⟨rfl, rfl⟩]
