def pick (A : Int → Bool) (k : Int) : Int := if A 1 = true then (if k = 0 then 1 else if A 2 = true then (if k = 1 then 2 else 3) else 3) else if A 2 = true then (if k = 0 then 2 else 3) else 3
def many (A : Int → Bool) : Int := (if A 1 = true then 1 else 0) + (if A 2 = true then 1 else 0) + (if A 3 = true then 1 else 0)
theorem pick_ok {A : Int → Bool} {k : Int} (h : 0 ≤ k ∧ k < many A) : A (pick A k) = true ∧ (pick A k = 1 ∨ pick A k = 2 ∨ pick A k = 3) := by
  unfold pick
  unfold many at h
  by_cases h1 : A 1 = true
  · rw [if_pos h1] at h ⊢
    by_cases k0 : k = 0
    · rw [if_pos k0]; exact ⟨h1, Or.inl rfl⟩
    · rw [if_neg k0]
      by_cases h2 : A 2 = true
      · rw [if_pos h2] at h ⊢
        by_cases k1 : k = 1
        · rw [if_pos k1]; exact ⟨h2, Or.inr (Or.inl rfl)⟩
        · rw [if_neg k1]
          by_cases h3 : A 3 = true
          · exact ⟨h3, Or.inr (Or.inr rfl)⟩
          · rw [if_neg h3] at h; omega
      · rw [if_neg h2] at h ⊢
        by_cases h3 : A 3 = true
        · exact ⟨h3, Or.inr (Or.inr rfl)⟩
        · rw [if_neg h3] at h; omega
  · rw [if_neg h1] at h ⊢
    by_cases h2 : A 2 = true
    · rw [if_pos h2] at h ⊢
      by_cases k0 : k = 0
      · rw [if_pos k0]; exact ⟨h2, Or.inr (Or.inl rfl)⟩
      · rw [if_neg k0]
        by_cases h3 : A 3 = true
        · exact ⟨h3, Or.inr (Or.inr rfl)⟩
        · rw [if_neg h3] at h; omega
    · rw [if_neg h2] at h ⊢
      by_cases h3 : A 3 = true
      · exact ⟨h3, Or.inr (Or.inr rfl)⟩
      · rw [if_neg h3] at h; omega
theorem draw_rem (x : Int32) {c : Int} (hc : c = 1 ∨ c = 2 ∨ c = 3) : ∃ k : Int, (0 ≤ k ∧ k < c) ∧ (x &&& 32767) - (x &&& 32767) / zI c * zI c = zI k := by
  obtain ⟨j, h1, h2⟩ := pk_andE x (m := 32767) 15 (by decide)
  have h1' : j < 32768 := h1
  refine ⟨(j : Int) - (j : Int) / c * c, ?_, ?_⟩
  · rcases hc with rfl | rfl | rfl <;> omega
  · rw [h2, zI_nI, zI_div (by omega), zI_mul, zI_sub]
section
variable {post : Int32 → (Int32 × (Nat → Int32)) → Prop} {uw wa ot le ma do' nw nl sz : Int32} {cs xs ys ws os : Nat → Int32} {A : Int → Bool}
theorem sp_draw50 {sd : Int32} {sn : Nat → Int32} {k : Int} (hk : 0 ≤ k ∧ k < many A) (hp : post (zI (pick A k)) (sd, sn)) :
    ∃ n, wpX6_drawStep_50 post uw wa ot le ma do' nw nl cs xs ys ws sz os n sd sn (zI ((if A 1 = true then 2 else 0) + (if A 2 = true then 4 else 0) + (if A 3 = true then 8 else 0))) (zI k) 1 := by
  refine ⟨4, ?_⟩
  unfold many at hk
  unfold pick at hp
  cases h1 : A 1 <;> cases h2 : A 2 <;> cases h3 : A 3 <;> simp only [h1, h2, h3, if_true, if_false, Bool.false_eq_true] at hk hp ⊢
  · omega
  · obtain rfl : k = 0 := by omega
    exact ⟨fun h => absurd h (by decide), fun _ => ⟨fun h => absurd (by decide) h, fun _ => by
      intro v1 e1; subst e1
      exact ⟨fun h => absurd h (by decide), fun _ => ⟨fun h => absurd (by decide) h, fun _ => by
        intro v1 e1; subst e1
        exact ⟨fun h => absurd h (by decide), fun _ => ⟨fun _ => ⟨fun h => absurd rfl h, fun _ => hp⟩, fun h => absurd h (by decide)⟩⟩⟩⟩⟩⟩
  · obtain rfl : k = 0 := by omega
    exact ⟨fun h => absurd h (by decide), fun _ => ⟨fun h => absurd (by decide) h, fun _ => by
      intro v1 e1; subst e1
      exact ⟨fun h => absurd h (by decide), fun _ => ⟨fun _ => ⟨fun h => absurd rfl h, fun _ => hp⟩, fun h => absurd h (by decide)⟩⟩⟩⟩
  · rcases (show k = 0 ∨ k = 1 by omega) with rfl | rfl
    · exact ⟨fun h => absurd h (by decide), fun _ => ⟨fun h => absurd (by decide) h, fun _ => by
        intro v1 e1; subst e1
        exact ⟨fun h => absurd h (by decide), fun _ => ⟨fun _ => ⟨fun h => absurd rfl h, fun _ => hp⟩, fun h => absurd h (by decide)⟩⟩⟩⟩
    · exact ⟨fun h => absurd h (by decide), fun _ => ⟨fun h => absurd (by decide) h, fun _ => by
        intro v1 e1; subst e1
        exact ⟨fun h => absurd h (by decide), fun _ => ⟨fun _ => ⟨fun _ => by
          intro v1 e1; subst e1
          intro v1 e1; subst e1
          exact ⟨fun h => absurd h (by decide), fun _ => ⟨fun _ => ⟨fun h => absurd rfl h, fun _ => hp⟩, fun h => absurd h (by decide)⟩⟩, fun h => absurd h (by decide)⟩, fun h => absurd h (by decide)⟩⟩⟩⟩
  · obtain rfl : k = 0 := by omega
    exact ⟨fun h => absurd h (by decide), fun _ => ⟨fun _ => ⟨fun h => absurd rfl h, fun _ => hp⟩, fun h => absurd h (by decide)⟩⟩
  · rcases (show k = 0 ∨ k = 1 by omega) with rfl | rfl
    · exact ⟨fun h => absurd h (by decide), fun _ => ⟨fun _ => ⟨fun h => absurd rfl h, fun _ => hp⟩, fun h => absurd h (by decide)⟩⟩
    · exact ⟨fun h => absurd h (by decide), fun _ => ⟨fun _ => ⟨fun _ => by
        intro v1 e1; subst e1
        intro v1 e1; subst e1
        exact ⟨fun h => absurd h (by decide), fun _ => ⟨fun h => absurd (by decide) h, fun _ => by
          intro v1 e1; subst e1
          exact ⟨fun h => absurd h (by decide), fun _ => ⟨fun _ => ⟨fun h => absurd rfl h, fun _ => hp⟩, fun h => absurd h (by decide)⟩⟩⟩⟩, fun h => absurd h (by decide)⟩, fun h => absurd h (by decide)⟩⟩
  · rcases (show k = 0 ∨ k = 1 by omega) with rfl | rfl
    · exact ⟨fun h => absurd h (by decide), fun _ => ⟨fun _ => ⟨fun h => absurd rfl h, fun _ => hp⟩, fun h => absurd h (by decide)⟩⟩
    · exact ⟨fun h => absurd h (by decide), fun _ => ⟨fun _ => ⟨fun _ => by
        intro v1 e1; subst e1
        intro v1 e1; subst e1
        exact ⟨fun h => absurd h (by decide), fun _ => ⟨fun _ => ⟨fun h => absurd rfl h, fun _ => hp⟩, fun h => absurd h (by decide)⟩⟩, fun h => absurd h (by decide)⟩, fun h => absurd h (by decide)⟩⟩
  · rcases (show k = 0 ∨ k = 1 ∨ k = 2 by omega) with rfl | rfl | rfl
    · exact ⟨fun h => absurd h (by decide), fun _ => ⟨fun _ => ⟨fun h => absurd rfl h, fun _ => hp⟩, fun h => absurd h (by decide)⟩⟩
    · exact ⟨fun h => absurd h (by decide), fun _ => ⟨fun _ => ⟨fun _ => by
        intro v1 e1; subst e1
        intro v1 e1; subst e1
        exact ⟨fun h => absurd h (by decide), fun _ => ⟨fun _ => ⟨fun h => absurd rfl h, fun _ => hp⟩, fun h => absurd h (by decide)⟩⟩, fun h => absurd h (by decide)⟩, fun h => absurd h (by decide)⟩⟩
    · exact ⟨fun h => absurd h (by decide), fun _ => ⟨fun _ => ⟨fun _ => by
        intro v1 e1; subst e1
        intro v1 e1; subst e1
        exact ⟨fun h => absurd h (by decide), fun _ => ⟨fun _ => ⟨fun _ => by
          intro v1 e1; subst e1
          intro v1 e1; subst e1
          exact ⟨fun h => absurd h (by decide), fun _ => ⟨fun _ => ⟨fun h => absurd rfl h, fun _ => hp⟩, fun h => absurd h (by decide)⟩⟩, fun h => absurd h (by decide)⟩, fun h => absurd h (by decide)⟩⟩, fun h => absurd h (by decide)⟩, fun h => absurd h (by decide)⟩⟩
theorem sp_draw {sd : Int32} {sn : Nat → Int32}
    (hA : ∀ (s : Int) (post' : Int32 → ((Nat → Int32)) → Prop) (sn : Nat → Int32), (s = 1 ∨ s = 2 ∨ s = 3) → (A s = true → ∀ sn, post' 1 sn) → (A s = false → ∀ sn, post' 0 sn) → wpX6_canGo post' uw wa ot le ma do' nw nl cs xs ys ws sz os sn (zI s))
    (h0 : many A = 0 → ∀ sn, post (-1) (sd, sn))
    (hp : many A ≠ 0 → ∀ k, (0 ≤ k ∧ k < many A) → (((1103515245 * sd + 12345) >>> ((16 : Int32) &&& 31)) &&& 32767) - (((1103515245 * sd + 12345) >>> ((16 : Int32) &&& 31)) &&& 32767) / zI (many A) * zI (many A) = zI k → ∀ sn, post (zI (pick A k)) (1103515245 * sd + 12345, sn)) :
    wpX6_drawStep post uw wa ot le ma do' nw nl cs xs ys ws sz os sd sn := by
  have fin : ∀ sn, wpX6_drawStep_6 post uw wa ot le ma do' nw nl cs xs ys ws sz os 1 sd sn (zI ((if A 1 = true then 2 else 0) + (if A 2 = true then 4 else 0) + (if A 3 = true then 8 else 0))) (zI (many A)) 4 := by
    intro sn
    have mb : 0 ≤ many A ∧ many A ≤ 3 := by unfold many; split <;> split <;> split <;> omega
    unfold wpX6_drawStep_6
    refine ⟨fun _ => ?_, fun h => absurd (by decide) h⟩
    rw [show (0 : Int32) = zI 0 from rfl, zI_eq (by omega)]
    refine ⟨fun h => ?_, fun h => h0 h sn⟩
    unfold wpX6_nextDraw
    intro v1 e1
    subst e1
    refine ⟨h, ?_⟩
    intro v3 e3
    obtain ⟨k, hk, ek⟩ := draw_rem ((1103515245 * sd + 12345) >>> ((16 : Int32) &&& 31)) (c := many A) (by omega)
    rw [ek] at e3
    subst e3
    exact sp_draw50 hk (hp h k hk ek sn)
  have step : ∀ (n : Nat) (s : Int) (mask c : Int32) (sn : Nat → Int32), (s = 1 ∨ s = 2 ∨ s = 3) →
      (A s = true → ∀ sn, wpX6_drawStep_6 post uw wa ot le ma do' nw nl cs xs ys ws sz os n sd sn (mask ||| ((1 : Int32) <<< (zI s &&& 31))) (c + 1) (zI s + 1)) →
      (A s = false → ∀ sn, wpX6_drawStep_6 post uw wa ot le ma do' nw nl cs xs ys ws sz os n sd sn mask c (zI s + 1)) →
      wpX6_drawStep_6 post uw wa ot le ma do' nw nl cs xs ys ws sz os (n + 1) sd sn mask c (zI s) := by
    intro n s mask c sn hs hy hn
    unfold wpX6_drawStep_6
    refine ⟨fun h => ?_, fun _ => ?_⟩
    · rcases hs with rfl | rfl | rfl <;> exact absurd h (by decide)
    · refine hA s _ sn hs (fun ha sn => ⟨fun h => absurd h (by decide), fun _ => ?_⟩) (fun ha sn => ⟨fun _ => ?_, fun h => absurd rfl h⟩)
      · intro v6 e6; subst e6
        intro v7 e7; subst e7
        unfold wpX6_drawStep_28
        intro v1 e1; subst e1
        exact hy ha sn
      · unfold wpX6_drawStep_28
        intro v1 e1; subst e1
        exact hn ha sn
  refine ⟨4, step 3 1 0 0 sn (by omega) (fun a1 sn => ?_) (fun a1 sn => ?_)⟩
  · refine step 2 2 _ _ sn (by omega) (fun a2 sn => ?_) (fun a2 sn => ?_)
    · refine step 1 3 _ _ sn (by omega) (fun a3 sn => ?_) (fun a3 sn => ?_)
      · have := fin sn; unfold many at this; rw [a1, a2, a3] at this; exact this
      · have := fin sn; unfold many at this; rw [a1, a2, a3] at this; exact this
    · refine step 1 3 _ _ sn (by omega) (fun a3 sn => ?_) (fun a3 sn => ?_)
      · have := fin sn; unfold many at this; rw [a1, a2, a3] at this; exact this
      · have := fin sn; unfold many at this; rw [a1, a2, a3] at this; exact this
  · refine step 2 2 _ _ sn (by omega) (fun a2 sn => ?_) (fun a2 sn => ?_)
    · refine step 1 3 _ _ sn (by omega) (fun a3 sn => ?_) (fun a3 sn => ?_)
      · have := fin sn; unfold many at this; rw [a1, a2, a3] at this; exact this
      · have := fin sn; unfold many at this; rw [a1, a2, a3] at this; exact this
    · refine step 1 3 _ _ sn (by omega) (fun a3 sn => ?_) (fun a3 sn => ?_)
      · have := fin sn; unfold many at this; rw [a1, a2, a3] at this; exact this
      · have := fin sn; unfold many at this; rw [a1, a2, a3] at this; exact this
end
