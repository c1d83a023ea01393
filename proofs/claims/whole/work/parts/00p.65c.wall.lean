section
variable {B : Nat → Int32} {N : Nat}
theorem wallAt (hN : N ≤ 400) {g : Gd} (hg : g.Ok0) (h8 : g.nl < 8) : ∀ (k x p : Nat) (q : Int → Int), x + k = 4 → p ≤ N → sk B N p = p → (∀ j : Int, 0 ≤ j → j < x → 0 ≤ q j ∧ q j ≤ 999) → ∃ r : Bool × Nat × (Int → Int),
    (∀ (post : Int32 → (Int32 × (Nat → Int32) × Int32 × Int32 × Int32 × Int32) → Prop) (ws0 ws : Nat → Int32), (∀ j : Int, 0 ≤ j → j < x → ws (g.nl * 4 + j).toNat = zI (q j)) → (∀ m : Nat, (m : Int) < g.nl * 4 → ws m = ws0 m) →
      (r.1 = true → ∀ ws', (∀ j : Int, 0 ≤ j → j < 4 → ws' (g.nl * 4 + j).toNat = zI (r.2.2 j)) → (∀ m : Nat, (m : Int) < g.nl * 4 → ws' m = ws0 m) → post 1 (zI (g.nl + 1), ws', tk B N r.2.1)) →
      (r.1 = false → ∀ ws' b d v, post 0 (zI g.nl, ws', zI (r.2.1 : Int), b, d, v)) →
      wpX1_readWall_2 post (zI (N : Int)) B (k + 1) (zI g.nl) ws (tk B N p).1 (tk B N p).2.1 (tk B N p).2.2.1 (tk B N p).2.2.2 (zI (x : Int))) ∧
    (∀ (post : Int32 → (Int32 × Int32 × (Nat → Int32)) → Prop) (q0 : Nat) (bg : Int32) (v0 v : Nat → Int32), q0 ≤ N → sk B N q0 = p → v0 1 = zI g.nl → (∀ j : Int, 0 ≤ j → j < x → v (746 + 4 * g.nl + j).toNat = zI (q j)) → (∀ m : Nat, (m : Int) < 746 + 4 * g.nl ∨ 778 ≤ m → v m = v0 m) →
      (r.1 = true → ∀ (q' : Nat) bg' v', q' ≤ N → sk B N q' = r.2.1 → (∀ j : Int, 0 ≤ j → j < 4 → v' (746 + 4 * g.nl + j).toNat = zI (r.2.2 j)) → (∀ m : Nat, m ≠ 1 ∧ ((m : Int) < 746 + 4 * g.nl ∨ 778 ≤ m) → v' m = v0 m) → v' 1 = zI (g.nl + 1) → post 1 (zI (q' : Int), bg', v')) →
      (r.1 = false → ∀ q' v', (∀ m : Nat, m ≠ 1 ∧ ((m : Int) < 746 + 4 * g.nl ∨ 778 ≤ m) → v' m = v0 m) → post 0 (q', zI (r.2.1 : Int), v')) →
      wpX11_readWall_17 post (zI (N : Int)) B (k + 1) (zI (q0 : Int)) bg v (zI g.nl) (zI (x : Int))) ∧
    (r.1 = true → (∀ j : Int, 0 ≤ j → j < 4 → 0 ≤ r.2.2 j ∧ r.2.2 j ≤ 999) ∧ p ≤ r.2.1 ∧ r.2.1 ≤ N ∧ sk B N r.2.1 = r.2.1) := by
  have hnl := hg.2.2.2.2.1
  intro k
  induction k with
  | zero =>
    intro x p q e hp hsp hq
    have e4 : x = 4 := by omega
    refine ⟨(true, p, q), ?_, ?_, fun _ => ⟨fun j a b => hq j a (by omega), Nat.le_refl p, hp, hsp⟩⟩
    · intro post ws0 ws h1 h2 k1 k0
      unfold wpX1_readWall_2
      rw [show (4 : Int32) = zI ((4 : Nat) : Int) from rfl, zN_le (by omega)]
      refine ⟨fun _ v1 e1 => ?_, fun z => absurd (show 4 ≤ x by omega) z⟩
      rw [e1, show zI g.nl + 1 = zI (g.nl + 1) from zI_add _ 1]
      exact k1 rfl ws (fun j a b => h1 j a (by omega)) h2
    · intro post q0 bg v0 v hq0 hsk hv1 h1 h2 k1 k0
      unfold wpX11_readWall_17
      rw [show (4 : Int32) = zI ((4 : Nat) : Int) from rfl, zN_le (by omega)]
      refine ⟨fun _ => ⟨vin (by decide), vin (by decide), ?_⟩, fun z => absurd (show 4 ≤ x by omega) z⟩
      have e1 : v (1 : Int32).toNatClampNeg + 1 = zI (g.nl + 1) := by
        show v 1 + 1 = _
        rw [h2 1 (by omega), hv1]; exact zI_add _ 1
      rw [e1]
      refine k1 rfl q0 bg _ hq0 hsk (fun j a b => ?_) (fun m hm => ?_) ?_
      · show upd v 1 _ _ = _
        rw [upd_eq, if_neg (by omega)]; exact h1 j a (by omega)
      · show upd v 1 _ _ = _
        rw [upd_eq, if_neg hm.1]; exact h2 m hm.2
      · show upd v 1 _ _ = _
        rw [upd_eq, if_pos rfl]
  | succ k ih =>
    intro x p q e hp hsp hq
    cases hnm : isNm B N p 3 with
    | false =>
      refine ⟨(false, p, q), ?_, ?_, fun h => ff_ h⟩
      · intro post ws0 ws h1 h2 k1 k0
        unfold wpX1_readWall_2
        rw [show (4 : Int32) = zI ((4 : Nat) : Int) from rfl, zN_le (by omega)]
        refine ⟨fun z => absurd z (by omega), fun _ => ?_⟩
        exact wp_word' (fun post hh => sp_isNumber (m := 3) hN hp (by decide) hh) (fun _ => k0 rfl _ _ _ _) (fun e => absurd (hnm.symm.trans e) (by decide))
      · intro post q0 bg v0 v hq0 hsk hv1 h1 h2 k1 k0
        unfold wpX11_readWall_17
        rw [show (4 : Int32) = zI ((4 : Nat) : Int) from rfl, zN_le (by omega)]
        refine ⟨fun z => absurd z (by omega), fun _ => ?_⟩
        refine sr_number hN hq0 hsk (fun e => absurd (hnm.symm.trans e) (by decide)) (fun _ pt => ?_)
        exact ⟨fun z => absurd z (by decide), fun _ => k0 rfl _ _ (fun m hm => h2 m hm.2)⟩
    | true =>
      obtain ⟨z, ez, hz0, hz1⟩ := vl3 hp hnm
      have hlt := (nm_nx hp hnm).1
      have hn1 := nx_bd (B := B) hlt
      have hs1 := sk_le (B := B) (N := N) (p := nx B N p) hn1.2
      have hss1 : sk B N (sk B N (nx B N p)) = sk B N (nx B N p) := sk_sk hn1.2
      generalize hq1 : sk B N (nx B N p) = p1 at hs1 hss1
      obtain ⟨r, hC, hR, hS⟩ := ih (x + 1) p1 (fun j => if j = (x : Int) then z else q j) (by omega) hs1.2 hss1 (fun j a b => by
        by_cases ej : j = (x : Int)
        · rw [if_pos ej]; exact ⟨hz0, hz1⟩
        · rw [if_neg ej]; exact hq j a (by omega))
      refine ⟨r, ?_, ?_, fun h => ?_⟩
      · intro post ws0 ws h1 h2 k1 k0
        unfold wpX1_readWall_2
        have ec : zI g.nl * 4 + zI (x : Int) = zI (g.nl * 4 + (x : Int)) := by rw [show (4 : Int32) = zI 4 from rfl, zI_mul, zI_add]
        rw [ec, zI_nat (a := g.nl * 4 + (x : Int)) (by omega), zS, show (4 : Int32) = zI ((4 : Nat) : Int) from rfl, zN_le (by omega)]
        refine ⟨fun z => absurd z (by omega), fun _ => ?_⟩
        refine wp_word' (fun post hh => sp_isNumber (m := 3) hN hp (by decide) hh) (fun e => absurd (e.symm.trans hnm) (by decide)) (fun _ => ⟨zI_in (by omega), ?_⟩)
        refine sp_toNext hN hn1.2 ?_
        rw [hq1]
        intro v5 e5
        rw [e5]
        have evp : (tk B N p).2.2.2 = zI z := ez
        rw [evp]
        refine hC post ws0 _ (fun j a b => ?_) (fun m hm => ?_) k1 k0
        · rw [upd_eq]
          by_cases ej : j = (x : Int)
          · rw [if_pos ej, if_pos (by rw [ej])]
          · rw [if_neg ej, if_neg (by omega)]; exact h1 j a (by omega)
        · rw [upd_eq, if_neg (by omega)]; exact h2 m hm
      · intro post q0 bg v0 v hq0 hsk hv1 h1 h2 k1 k0
        unfold wpX11_readWall_17
        have ec : (746 : Int32) + 4 * zI g.nl + zI (x : Int) = zI (746 + 4 * g.nl + (x : Int)) := by rw [show (4 : Int32) = zI 4 from rfl, show (746 : Int32) = zI 746 from rfl, zI_mul, zI_add, zI_add]
        rw [ec, zI_nat (a := 746 + 4 * g.nl + (x : Int)) (by omega), zS, show (4 : Int32) = zI ((4 : Nat) : Int) from rfl, zN_le (by omega)]
        refine ⟨fun z => absurd z (by omega), fun _ => ?_⟩
        refine sr_number hN hq0 hsk (fun _ => ?_) (fun e => absurd (e.symm.trans hnm) (by decide))
        rw [ez]
        refine ⟨fun _ => ⟨zI_in (by omega), fun v3 e3 => ?_⟩, fun w => absurd (by rw [show (0 : Int32) = zI 0 from rfl, zI_le (by omega)]; exact hz0) w⟩
        rw [e3]
        refine hR post (nx B N p) _ v0 _ hn1.2 hq1 hv1 (fun j a b => ?_) (fun m hm => ?_) k1 k0
        · rw [upd_eq]
          by_cases ej : j = (x : Int)
          · rw [if_pos ej, if_pos (by rw [ej])]
          · rw [if_neg ej, if_neg (by omega)]; exact h1 j a (by omega)
        · rw [upd_eq, if_neg (by omega)]; exact h2 m hm
      · obtain ⟨s1, s2, s3, s4⟩ := hS h
        exact ⟨s1, by omega, s3, s4⟩
end
