section
variable {g : Gd} {S : Int → Int → Int → Int → Bool} {v f2 tk : Nat → Int32} {w o l m d n r : Int} {th x1 rm : Int32} {A : Int → Bool}
def Wk (v : Nat → Int32) (w o l m d n : Int) : Prop := v 6 = 1 ∧ v 7 = zI w ∧ v 8 = zI o ∧ v 9 = zI l ∧ v 10 = zI m ∧ v 11 = zI d ∧ v 12 = zI n
theorem sr_live117 {k32 : Int32 → Int32 → (Nat → Int32) → (Nat → Int32) → (Nat → Int32) → Int32 → Int32 → Prop} {post : Int32 → (Int32 × Int32 × (Nat → Int32) × (Nat → Int32) × (Nat → Int32)) → Prop} {x2 : Int32} {k : Int}
    (hA : ∀ (s : Int) (post' : Int32 → ((Nat → Int32)) → Prop) (sn : Nat → Int32), (s = 1 ∨ s = 2 ∨ s = 3) → (A s = true → ∀ sn, post' 1 sn) → (A s = false → ∀ sn, post' 0 sn) → wpX11_canGo post' v sn (zI s)) (hk : 0 ≤ k ∧ k < many A)
    (hp : ∀ sn, wpX11_goes (fun (_ : Int32) (u3 : Int32 × (Nat → Int32) × (Nat → Int32)) => ∀ v5 : Int32, v5 = x2 + 1 → k32 th u3.1 u3.2.2 sn u3.2.1 x1 v5) rm tk v (zI (pick A k))) :
    ∃ n, wpX11_live_117 k32 post n th rm v f2 tk x1 x2 (zI k) 1 := by
  have yes : ∀ (n : Nat) (s k : Int) (sn : Nat → Int32), (s = 1 ∨ s = 2 ∨ s = 3) → A s = true → k = 0 → (∀ sn, wpX11_goes (fun (_ : Int32) (u3 : Int32 × (Nat → Int32) × (Nat → Int32)) => ∀ v5 : Int32, v5 = x2 + 1 → k32 th u3.1 u3.2.2 sn u3.2.1 x1 v5) rm tk v (zI s)) → wpX11_live_117 k32 post (n + 1) th rm v sn tk x1 x2 (zI k) (zI s) := by
    intro n s k sn hs ha hk hgo
    subst hk
    unfold wpX11_live_117
    refine hA s _ sn hs (fun _ sn => ⟨fun h => absurd h (by decide), fun _ => ⟨fun _ => hgo sn, fun h => absurd (by decide) h⟩⟩) (fun h => absurd (ha.symm.trans h) (by decide))
  have next : ∀ (n : Nat) (s k : Int) (sn : Nat → Int32), (s = 1 ∨ s = 2 ∨ s = 3) → (A s = true → 1 ≤ k ∧ k ≤ 2) → (0 ≤ k ∧ k ≤ 2) → (∀ sn, wpX11_live_117 k32 post n th rm v sn tk x1 x2 (zI (if A s = true then k - 1 else k)) (zI (s + 1))) → wpX11_live_117 k32 post (n + 1) th rm v sn tk x1 x2 (zI k) (zI s) := by
    intro n s k sn hs ha hk hgo
    have g131 : ∀ sn, wpX11_live_131 (fun y0 y1 y2 y3 y4 y5 y6 y7 y8 => wpX11_live_117 k32 post n y0 y1 y2 y3 y4 y5 y6 y7 y8) k32 post th rm v sn tk x1 x2 (zI k) (zI s) := by
      intro sn
      unfold wpX11_live_131
      refine hA s _ sn hs (fun h sn => ⟨fun h => absurd h (by decide), fun _ => ?_⟩) (fun h sn => ⟨fun _ => ?_, fun h => absurd rfl h⟩)
      · have := hgo sn
        rw [if_pos h] at this
        unfold wpX11_live_147
        simp (disch := omega) only [zI_lit, zI_add, zI_sub, zI_mul, zI_neg, zI_le, zI_lt, zI_eq, zI_nat, zI_max, zI_min, zI_abs, forall_eq, Int.reduceNeg, Int.reduceAdd, Int.reduceMul, Int.reduceSub, Int.add_zero, Int.zero_add, Int.zero_mul, Int.toNat_zero]
        exact this
      · have := hgo sn
        rw [if_neg (by rw [h]; decide)] at this
        unfold wpX11_live_147
        simp (disch := omega) only [zI_lit, zI_add, zI_sub, zI_mul, zI_neg, zI_le, zI_lt, zI_eq, zI_nat, zI_max, zI_min, zI_abs, forall_eq, Int.reduceNeg, Int.reduceAdd, Int.reduceMul, Int.reduceSub, Int.add_zero, Int.zero_add, Int.zero_mul, Int.toNat_zero, Int.sub_zero]
        exact this
    unfold wpX11_live_117
    refine hA s _ sn hs (fun h sn => ⟨fun h => absurd h (by decide), fun _ => ⟨fun hle => ?_, fun _ => g131 sn⟩⟩) (fun h sn => ⟨fun _ => g131 sn, fun h => absurd rfl h⟩)
    rw [show (0 : Int32) = zI 0 from rfl, zI_le (by omega)] at hle
    have := ha h
    omega
  refine ⟨3, ?_⟩
  unfold many at hk
  unfold pick at hp
  cases h1 : A 1 <;> cases h2 : A 2 <;> cases h3 : A 3 <;> simp only [h1, h2, h3, if_true, if_false, Bool.false_eq_true] at hk hp
  · omega
  · refine next 2 1 k f2 (by omega) (by rw [h1]; intro h; exact absurd h (by decide)) (by omega) (fun sn => ?_)
    rw [if_neg (by rw [h1]; decide)]
    refine next 1 2 k sn (by omega) (by rw [h2]; intro h; exact absurd h (by decide)) (by omega) (fun sn => ?_)
    rw [if_neg (by rw [h2]; decide)]
    exact yes 0 3 k sn (by omega) h3 (by omega) hp
  · refine next 2 1 k f2 (by omega) (by rw [h1]; intro h; exact absurd h (by decide)) (by omega) (fun sn => ?_)
    rw [if_neg (by rw [h1]; decide)]
    exact yes 1 2 k sn (by omega) h2 (by omega) (by rw [if_pos (by omega)] at hp; exact hp)
  · refine next 2 1 k f2 (by omega) (by rw [h1]; intro h; exact absurd h (by decide)) (by omega) (fun sn => ?_)
    rw [if_neg (by rw [h1]; decide)]
    by_cases e : k = 0
    · rw [if_pos e] at hp
      exact yes 1 2 k sn (by omega) h2 e hp
    · rw [if_neg e] at hp
      refine next 1 2 k sn (by omega) (by omega) (by omega) (fun sn => ?_)
      rw [if_pos h2]
      exact yes 0 3 (k - 1) sn (by omega) h3 (by omega) hp
  · exact yes 2 1 k f2 (by omega) h1 (by omega) (by rw [if_pos (by omega)] at hp; exact hp)
  · by_cases e : k = 0
    · rw [if_pos e] at hp
      exact yes 2 1 k f2 (by omega) h1 e hp
    · rw [if_neg e] at hp
      refine next 2 1 k f2 (by omega) (by omega) (by omega) (fun sn => ?_)
      rw [if_pos h1]
      refine next 1 2 (k - 1) sn (by omega) (by rw [h2]; intro h; exact absurd h (by decide)) (by omega) (fun sn => ?_)
      rw [if_neg (by rw [h2]; decide)]
      exact yes 0 3 (k - 1) sn (by omega) h3 (by omega) hp
  · by_cases e : k = 0
    · rw [if_pos e] at hp
      exact yes 2 1 k f2 (by omega) h1 e hp
    · rw [if_neg e, if_pos (by omega)] at hp
      refine next 2 1 k f2 (by omega) (by omega) (by omega) (fun sn => ?_)
      rw [if_pos h1]
      exact yes 1 2 (k - 1) sn (by omega) h2 (by omega) hp
  · by_cases e : k = 0
    · rw [if_pos e] at hp
      exact yes 2 1 k f2 (by omega) h1 e hp
    · rw [if_neg e] at hp
      refine next 2 1 k f2 (by omega) (by omega) (by omega) (fun sn => ?_)
      rw [if_pos h1]
      by_cases e' : k = 1
      · rw [if_pos e'] at hp
        exact yes 1 2 (k - 1) sn (by omega) h2 (by omega) hp
      · rw [if_neg e'] at hp
        refine next 1 2 (k - 1) sn (by omega) (by omega) (by omega) (fun sn => ?_)
        rw [if_pos h2]
        exact yes 0 3 (k - 1 - 1) sn (by omega) h3 (by omega) hp
theorem sr_live42 {k32 : Int32 → Int32 → (Nat → Int32) → (Nat → Int32) → (Nat → Int32) → Int32 → Int32 → Prop} {post : Int32 → (Int32 × Int32 × (Nat → Int32) × (Nat → Int32) × (Nat → Int32)) → Prop} {x2 : Int32}
    (hA : ∀ (v' : Nat → Int32) (s : Int) (post' : Int32 → ((Nat → Int32)) → Prop) (sn : Nat → Int32), (v' = v ∨ v' = upd v 5 (1103515245 * v 5 + 12345)) → (s = 1 ∨ s = 2 ∨ s = 3) → (A s = true → ∀ sn, post' 1 sn) → (A s = false → ∀ sn, post' 0 sn) → wpX11_canGo post' v' sn (zI s))
    (h0 : many A = 0 → ∀ sn, post x2 (th, rm, v, sn, tk))
    (hp : many A ≠ 0 → ∀ k, (0 ≤ k ∧ k < many A) → (((1103515245 * v 5 + 12345) >>> ((16 : Int32) &&& 31)) &&& 32767) - (((1103515245 * v 5 + 12345) >>> ((16 : Int32) &&& 31)) &&& 32767) / zI (many A) * zI (many A) = zI k → ∀ sn, wpX11_goes (fun (_ : Int32) (u3 : Int32 × (Nat → Int32) × (Nat → Int32)) => ∀ v5 : Int32, v5 = x2 + 1 → k32 th u3.1 u3.2.2 sn u3.2.1 x1 v5) rm tk (upd v 5 (1103515245 * v 5 + 12345)) (zI (pick A k))) :
    ∃ n, wpX11_live_42 k32 post n th rm v f2 tk x1 x2 0 1 := by
  have fin : ∀ sn, wpX11_live_42 k32 post 1 th rm v sn tk x1 x2 (zI (many A)) 4 := by
    intro sn
    have mb : 0 ≤ many A ∧ many A ≤ 3 := by unfold many; split <;> split <;> split <;> omega
    unfold wpX11_live_42
    refine ⟨fun _ => ?_, fun h => absurd (by decide) h⟩
    rw [show (0 : Int32) = zI 0 from rfl, zI_eq (by omega)]
    refine ⟨fun h => ⟨by unfold vp_in; decide, by unfold vp_in; decide, by unfold vp_in; decide, h, ?_⟩, fun h => h0 h sn⟩
    intro v1 e1
    rw [show (5 : Int32).toNatClampNeg = 5 from rfl, upd_eq, if_pos rfl] at e1
    obtain ⟨k, hk, ek⟩ := draw_rem ((1103515245 * v 5 + 12345) >>> ((16 : Int32) &&& 31)) (c := many A) (by omega)
    rw [ek] at e1
    subst e1
    exact sr_live117 (fun s post' sn hs => hA _ s post' sn (Or.inr rfl) hs) hk (fun sn => hp h k hk ek sn)
  have step : ∀ (n : Nat) (s : Int) (c : Int32) (sn : Nat → Int32), (s = 1 ∨ s = 2 ∨ s = 3) →
      (A s = true → ∀ sn, wpX11_live_42 k32 post n th rm v sn tk x1 x2 (c + 1) (zI s + 1)) →
      (A s = false → ∀ sn, wpX11_live_42 k32 post n th rm v sn tk x1 x2 (c + 0) (zI s + 1)) →
      wpX11_live_42 k32 post (n + 1) th rm v sn tk x1 x2 c (zI s) := by
    intro n s c sn hs hy hn
    unfold wpX11_live_42
    refine ⟨fun h => ?_, fun _ => ?_⟩
    · rcases hs with rfl | rfl | rfl <;> exact absurd h (by decide)
    · refine hA v s _ sn (Or.inl rfl) hs (fun ha sn => ⟨fun h => absurd h (by decide), fun _ => ?_⟩) (fun ha sn => ⟨fun _ => ?_, fun h => absurd rfl h⟩)
      · unfold wpX11_live_63
        intro v1 e1; subst e1
        intro v1 e1; subst e1
        exact hy ha sn
      · unfold wpX11_live_63
        intro v1 e1; subst e1
        intro v1 e1; subst e1
        exact hn ha sn
  refine ⟨4, step 3 1 0 f2 (by omega) (fun a1 sn => ?_) (fun a1 sn => ?_)⟩
  · refine step 2 2 _ sn (by omega) (fun a2 sn => ?_) (fun a2 sn => ?_)
    · refine step 1 3 _ sn (by omega) (fun a3 sn => ?_) (fun a3 sn => ?_)
      · have := fin sn; unfold many at this; rw [a1, a2, a3] at this; exact this
      · have := fin sn; unfold many at this; rw [a1, a2, a3] at this; exact this
    · refine step 1 3 _ sn (by omega) (fun a3 sn => ?_) (fun a3 sn => ?_)
      · have := fin sn; unfold many at this; rw [a1, a2, a3] at this; exact this
      · have := fin sn; unfold many at this; rw [a1, a2, a3] at this; exact this
  · refine step 2 2 _ sn (by omega) (fun a2 sn => ?_) (fun a2 sn => ?_)
    · refine step 1 3 _ sn (by omega) (fun a3 sn => ?_) (fun a3 sn => ?_)
      · have := fin sn; unfold many at this; rw [a1, a2, a3] at this; exact this
      · have := fin sn; unfold many at this; rw [a1, a2, a3] at this; exact this
    · refine step 1 3 _ sn (by omega) (fun a3 sn => ?_) (fun a3 sn => ?_)
      · have := fin sn; unfold many at this; rw [a1, a2, a3] at this; exact this
      · have := fin sn; unfold many at this; rw [a1, a2, a3] at this; exact this
end
