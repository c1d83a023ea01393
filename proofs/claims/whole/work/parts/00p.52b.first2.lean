section
variable {q q2 : Int → Int → Int} {M D t : Int}
def Enl (q : Int → Int → Int) (M D t m d : Int) (f : Nat → Int32) : Prop := ∀ m' d', 0 ≤ m' → m' < M → 0 ≤ d' → d' < D → (m < m' ∨ m' = m ∧ d < d') → (Bk q 2147483647 M D m' d' ≤ t → f (30 * m' + d').toNat = 1) ∧ (¬ Bk q 2147483647 M D m' d' ≤ t → f (30 * m' + d').toNat = 0)
theorem Enl.next {m d : Int} {f : Nat → Int32} {x : Int32} (h : Enl q M D t m d f) (hm : 0 ≤ m) (hd : 0 ≤ d) (hdD : d < D) (hD : D ≤ 30) (h1 : Bk q 2147483647 M D m d ≤ t → x = 1) (h0 : ¬ Bk q 2147483647 M D m d ≤ t → x = 0) : Enl q M D t m (d - 1) (upd f (30 * m + d).toNat x) := by
  intro m' d' c1 c2 c3 c4 c5
  rw [upd_eq]
  by_cases e : m' = m ∧ d' = d
  · obtain ⟨rfl, rfl⟩ := e
    rw [if_pos rfl]
    exact ⟨h1, h0⟩
  · rw [if_neg (by omega)]
    exact h m' d' c1 c2 c3 c4 (by omega)
theorem Enl.line {m : Int} {f : Nat → Int32} (h : Enl q M D t m (-1) f) : Enl q M D t (m - 1) (D - 1) f := fun m' d' c1 c2 c3 c4 c5 => h m' d' c1 c2 c3 c4 (by omega)
theorem sr_isEnding {post : Int32 → Unit → Prop} {m d a b : Int} {f : Nat → Int32} (hM : 1 ≤ M ∧ M ≤ 30) (hD : 1 ≤ D ∧ D ≤ 30) (ht : 0 ≤ t ∧ t < 2147483647) (h : Enl q M D t m d f) (ha : 0 ≤ a ∧ a ≤ M) (hb : 0 ≤ b ∧ b ≤ D) (hn : ¬ (a = M ∧ b = D)) (hl : a < M → b < D → m < a ∨ a = m ∧ d < b)
    (h1 : Bk q 2147483647 M D a b ≤ t → post 1 ()) (h0 : ¬ Bk q 2147483647 M D a b ≤ t → post 0 ()) : wpX11_isEnding post (zI M) (zI D) f (zI a) (zI b) := by
  have ho : M ≤ a ∨ D ≤ b → post 0 () := fun h => h0 (by rw [Bk_out h hn]; omega)
  unfold wpX11_isEnding
  rw [show (0 : Int32) = zI 0 from rfl] at h0 ho
  rw [show (1 : Int32) = zI 1 from rfl] at h1
  simp (disch := omega) only [zI_lit, zI_add, zI_sub, zI_mul, zI_neg, zI_le, zI_lt, zI_eq, zI_nat, zI_max, zI_min, zI_abs, forall_eq, Int.reduceNeg, Int.reduceAdd, Int.reduceMul, Int.reduceSub, Int.add_zero, Int.zero_add, Int.zero_mul, Int.toNat_zero]
  refine ⟨fun h => ho (Or.inl h), fun h1' => ⟨fun h => ho (Or.inr h), fun h2' => ⟨zI_in (by omega), ?_⟩⟩⟩
  have e := h a b ha.1 (by omega) hb.1 (by omega) (hl (by omega) (by omega))
  by_cases hc : Bk q 2147483647 M D a b ≤ t
  · rw [e.1 hc]
    exact ⟨fun h => absurd h (by decide), fun _ => h1 hc⟩
  · rw [e.2 hc]
    exact ⟨fun _ => h0 hc, fun h => absurd rfl h⟩
theorem sr_fw151 {k37 : Int32 → Int32 → (Nat → Int32) → (Nat → Int32) → (Nat → Int32) → (Nat → Int32) → (Nat → Int32) → Int32 → Int32 → Int32 → Prop} {k24 : Int32 → Int32 → (Nat → Int32) → (Nat → Int32) → (Nat → Int32) → (Nat → Int32) → (Nat → Int32) → Int32 → Int32 → Prop} {post : Int32 → (Int32 × Int32 × (Nat → Int32) × (Nat → Int32) × (Nat → Int32) × (Nat → Int32) × (Nat → Int32)) → Prop} {fw f2 f3 f4 f5 f6 : Nat → Int32} {m d : Int} {x : Int32} (hm : 0 ≤ m ∧ m < 30) (hd : 0 ≤ d ∧ d < 30) (hx : vp_nar .boolean x = x)
    (h : k37 (zI M) (zI D) f2 f3 f4 (upd f5 (30 * m + d).toNat x) f6 (zI t) (zI m) (zI (d - 1))) : wpX11_firstWalk_151 k37 k24 post fw (zI M) (zI D) f2 f3 f4 f5 f6 (zI t) (zI m) (zI d) (zI (30 * m + d)) x := by
  unfold wpX11_firstWalk_151
  rw [hx]
  simp (disch := omega) only [zI_lit, zI_add, zI_sub, zI_mul, zI_neg, zI_le, zI_lt, zI_eq, zI_nat, zI_max, zI_min, zI_abs, forall_eq, Int.reduceNeg, Int.reduceAdd, Int.reduceMul, Int.reduceSub, Int.add_zero, Int.zero_add, Int.zero_mul, Int.toNat_zero]
  exact ⟨zI_in (by omega), h⟩
theorem sr_fw37 {k24 : Int32 → Int32 → (Nat → Int32) → (Nat → Int32) → (Nat → Int32) → (Nat → Int32) → (Nat → Int32) → Int32 → Int32 → Prop} {post : Int32 → (Int32 × Int32 × (Nat → Int32) × (Nat → Int32) × (Nat → Int32) × (Nat → Int32) × (Nat → Int32)) → Prop} {fw f2 f3 f4 f6 : Nat → Int32} {m : Int}
    (hM : 1 ≤ M ∧ M ≤ 30) (hD : 1 ≤ D ∧ D ≤ 30) (ht : 0 ≤ t ∧ t < 2147483647) (hq : ∀ m d, 0 ≤ m → m < M → 0 ≤ d → d < D → (0 ≤ q2 m d ∧ q2 m d ≤ 2000000000) ∧ (q2 m d ≤ t ↔ q m d ≤ t)) (hf : Laid2 q2 D M 0 f3) (hm : 0 ≤ m ∧ m < M)
    (hk : ∀ f, Enl q M D t (m - 1) (D - 1) f → k24 (zI M) (zI D) f2 f3 f4 f f6 (zI t) (zI (m - 1))) :
    ∀ (k : Nat) (d : Int) (f : Nat → Int32), d + 1 = k → d < D → Enl q M D t m d f → wpX11_firstWalk_37 k24 post fw (k + 1) (zI M) (zI D) f2 f3 f4 f f6 (zI t) (zI m) (zI d) := by
  intro k
  induction k with
  | zero =>
    intro d f h0 h1 a
    unfold wpX11_firstWalk_37
    simp (disch := omega) only [zI_lit, zI_add, zI_sub, zI_mul, zI_neg, zI_le, zI_lt, zI_eq, zI_nat, zI_max, zI_min, zI_abs, forall_eq, Int.reduceNeg, Int.reduceAdd, Int.reduceMul, Int.reduceSub, Int.add_zero, Int.zero_add, Int.zero_mul, Int.toNat_zero]
    refine ⟨fun _ => ?_, fun h => absurd h (by omega)⟩
    rw [show d = -1 by omega] at a
    exact hk f a.line
  | succ k ih =>
    intro d f h0 h1 a
    have hqd := hq m d hm.1 hm.2 (by omega) h1
    have hfd := hf m d hm.1 (by omega) h1 (by omega)
    have bb := Bk_in (q := q) (F := 2147483647) (m := m) (d := d) hm.2 h1
    have yes : Bk q 2147483647 M D m d ≤ t → wpX11_firstWalk_146 (fun y0 y1 y2 y3 y4 y5 y6 y7 y8 y9 => wpX11_firstWalk_37 k24 post fw (k + 1) y0 y1 y2 y3 y4 y5 y6 y7 y8 y9) k24 post fw (zI M) (zI D) f2 f3 f4 f f6 (zI t) (zI m) (zI d) (zI (30 * m + d)) := fun hb =>
      sr_fw151 (by omega) (by omega) rfl (ih (d - 1) _ (by omega) (by omega) (a.next hm.1 (by omega) h1 hD.2 (fun _ => rfl) (fun h => absurd hb h)))
    have no : ¬ Bk q 2147483647 M D m d ≤ t → wpX11_firstWalk_150 (fun y0 y1 y2 y3 y4 y5 y6 y7 y8 y9 => wpX11_firstWalk_37 k24 post fw (k + 1) y0 y1 y2 y3 y4 y5 y6 y7 y8 y9) k24 post fw (zI M) (zI D) f2 f3 f4 f f6 (zI t) (zI m) (zI d) (zI (30 * m + d)) := fun hb =>
      sr_fw151 (by omega) (by omega) rfl (ih (d - 1) _ (by omega) (by omega) (a.next hm.1 (by omega) h1 hD.2 (fun h => absurd h hb) (fun _ => rfl)))
    have l69 : ∀ s0 : Int32, (s0 = 0 → ¬ (m = M - 1 ∧ d = D - 1)) → (¬ s0 = 0 → m = M - 1 ∧ d = D - 1) → wpX11_firstWalk_69 (fun y0 y1 y2 y3 y4 y5 y6 y7 y8 y9 => wpX11_firstWalk_37 k24 post fw (k + 1) y0 y1 y2 y3 y4 y5 y6 y7 y8 y9) k24 post fw (zI M) (zI D) f2 f3 f4 f f6 (zI t) (zI m) (zI d) s0 := by
      intro s0 hs0 hs1
      unfold wpX11_firstWalk_69
      rw [show (30 : Int32) = zI 30 from rfl, zI_mul, zI_add, zI_nat (by omega), hfd, zI_lt (by omega)]
      refine ⟨zI_in (by omega), fun h => no (by omega), fun h => ⟨fun hs => yes ?_, fun hs => ?_⟩⟩
      · obtain ⟨e1, e2⟩ := hs1 hs
        have : Bk q 2147483647 M D (m + 1) (d + 1) = 0 := by rw [e1, e2, Int.sub_add_cancel, Int.sub_add_cancel, Bk_end]
        omega
      · have hne := hs0 hs
        rw [show (1 : Int32) = zI 1 from rfl, zI_add, zI_add]
        refine sr_isEnding hM hD ht a (by omega) (by omega) (by omega) (by omega) (fun h => ⟨fun _ => yes (by omega), fun h => absurd h (by decide)⟩) (fun h3 => ⟨fun h => absurd rfl h, fun _ => ?_⟩)
        refine sr_isEnding hM hD ht a (by omega) (by omega) (by omega) (by omega) (fun h => ⟨fun _ => yes (by omega), fun h => absurd h (by decide)⟩) (fun h4 => ⟨fun h => absurd rfl h, fun _ => ?_⟩)
        refine sr_isEnding hM hD ht a (by omega) (by omega) (by omega) (by omega) (fun h => ⟨fun h => absurd h (by decide), fun _ => yes (by omega)⟩) (fun h5 => ⟨fun _ => no (by omega), fun h => absurd rfl h⟩)
    unfold wpX11_firstWalk_37
    unfold wpX11_firstWalk_68
    rw [show (0 : Int32) = zI 0 from rfl, zI_lt (by omega)]
    refine ⟨fun h => absurd h (by omega), fun _ => ?_⟩
    rw [show (1 : Int32) = zI 1 from rfl, zI_sub, zI_sub, zI_eq (by omega), zI_eq (by omega)]
    exact ⟨fun h => l69 _ (fun _ => by omega) (fun h' => absurd rfl h'), fun h => ⟨fun h' => l69 _ (fun _ => by omega) (fun h' => absurd rfl h'), fun h' => l69 _ (fun h => absurd h (by decide)) (fun _ => ⟨h, h'⟩)⟩⟩
theorem sr_fw173 {post : Int32 → (Int32 × Int32 × (Nat → Int32) × (Nat → Int32) × (Nat → Int32) × (Nat → Int32) × (Nat → Int32)) → Prop} {fw f2 f3 f4 f5 : Nat → Int32} {N : Nat}
    (hM : 1 ≤ M ∧ M ≤ 30) (hD : 1 ≤ D ∧ D ≤ 30) (ht : 0 ≤ t ∧ t < 2147483647) (h0 : Bk q 2147483647 M D 0 0 ≤ t) (hE : Enl q M D t (-1) (D - 1) f5)
    (hN : N ≤ 58) (hN1 : ∀ i, i < N → ¬ (M - 1 ≤ (wk q M D t i).1 ∧ D - 1 ≤ (wk q M D t i).2)) (hN2 : M - 1 ≤ (wk q M D t N).1 ∧ D - 1 ≤ (wk q M D t N).2)
    (hp : ∀ f6 : Nat → Int32, (∀ i : Nat, i < N → f6 i = zI (stp q M D t (wk q M D t i).1 (wk q M D t i).2)) → post (zI N) (zI M, zI D, f2, f3, f4, f5, f6)) :
    ∀ (n j : Nat) (f6 : Nat → Int32), j + n = N → (∀ i : Nat, i < j → f6 i = zI (stp q M D t (wk q M D t i).1 (wk q M D t i).2)) → wpX11_firstWalk_173 post fw (n + 1) (zI M) (zI D) f2 f3 f4 f5 f6 (zI j) (zI (wk q M D t j).1) (zI (wk q M D t j).2) := by
  intro n
  induction n with
  | zero =>
    intro j f6 hj hf
    obtain rfl : j = N := by omega
    have a := wk_in ht hM.1 hD.1 h0 j hN1
    unfold wpX11_firstWalk_173
    simp (disch := omega) only [zI_lit, zI_add, zI_sub, zI_mul, zI_neg, zI_le, zI_lt, zI_eq, zI_nat, zI_max, zI_min, zI_abs, forall_eq, Int.reduceNeg, Int.reduceAdd, Int.reduceMul, Int.reduceSub, Int.add_zero, Int.zero_add, Int.zero_mul, Int.toNat_zero]
    exact ⟨fun h => absurd h (by omega), fun _ => ⟨fun _ => hp f6 hf, fun h => absurd h (by omega)⟩⟩
  | succ n ih =>
    intro j f6 hj hf
    have a := wk_in ht hM.1 hD.1 h0 j (fun i hi => hN1 i (by omega))
    have hne := hN1 j (by omega)
    have l230 : ∀ s : Int, s = stp q M D t (wk q M D t j).1 (wk q M D t j).2 → wpX11_firstWalk_230 (fun y0 y1 y2 y3 y4 y5 y6 y7 y8 y9 => wpX11_firstWalk_173 post fw (n + 1) y0 y1 y2 y3 y4 y5 y6 y7 y8 y9) post fw (zI M) (zI D) f2 f3 f4 f5 f6 (zI j) (zI (wk q M D t j).1) (zI (wk q M D t j).2) (zI s) := by
      intro s hs
      have hi := stp_is q M D t (wk q M D t j).1 (wk q M D t j).2
      rw [← hs] at hi
      unfold wpX11_firstWalk_230
      simp (disch := omega) only [zI_lit, zI_add, zI_sub, zI_mul, zI_neg, zI_le, zI_lt, zI_eq, zI_nat, zI_max, zI_min, zI_abs, forall_eq, Int.reduceNeg, Int.reduceAdd, Int.reduceMul, Int.reduceSub, Int.add_zero, Int.zero_add, Int.zero_mul, Int.toNat_zero]
      refine ⟨zI_in (by omega), sr_manBy hi ?_⟩
      simp (disch := omega) only [zI_lit, zI_add, zI_sub, zI_mul, zI_neg, zI_le, zI_lt, zI_eq, zI_nat, zI_max, zI_min, zI_abs, forall_eq, Int.reduceNeg, Int.reduceAdd, Int.reduceMul, Int.reduceSub, Int.add_zero, Int.zero_add, Int.zero_mul, Int.toNat_zero]
      refine sr_dogBy hi ?_
      simp (disch := omega) only [zI_lit, zI_add, zI_sub, zI_mul, zI_neg, zI_le, zI_lt, zI_eq, zI_nat, zI_max, zI_min, zI_abs, forall_eq, Int.reduceNeg, Int.reduceAdd, Int.reduceMul, Int.reduceSub, Int.add_zero, Int.zero_add, Int.zero_mul, Int.toNat_zero]
      rw [hs]
      refine ih (j + 1) _ (by omega) (fun i hi => ?_)
      rw [upd_eq]
      split
      · rename_i e
        have : i = j := by omega
        rw [this]
      · exact hf i (by omega)
    have l195 : wpX11_firstWalk_195 (fun y0 y1 y2 y3 y4 y5 y6 y7 y8 y9 => wpX11_firstWalk_173 post fw (n + 1) y0 y1 y2 y3 y4 y5 y6 y7 y8 y9) post fw (zI M) (zI D) f2 f3 f4 f5 f6 (zI j) (zI (wk q M D t j).1) (zI (wk q M D t j).2) := by
      unfold wpX11_firstWalk_195
      rw [show (1 : Int32) = zI 1 from rfl, show (2 : Int32) = zI 2 from rfl, show (3 : Int32) = zI 3 from rfl, zI_add, zI_add]
      refine sr_isEnding hM hD ht hE (by omega) (by omega) (by omega) (by omega) (fun h => ⟨fun h => absurd h (by decide), fun _ => l230 1 (by unfold stp; rw [if_pos h])⟩) (fun h => ⟨fun _ => ?_, fun h => absurd rfl h⟩)
      refine sr_isEnding hM hD ht hE (by omega) (by omega) (by omega) (by omega) (fun h' => ⟨fun h => absurd h (by decide), fun _ => l230 2 (by unfold stp; rw [if_neg h, if_pos h'])⟩) (fun h' => ⟨fun _ => l230 3 (by unfold stp; rw [if_neg h, if_neg h']), fun h => absurd rfl h⟩)
    unfold wpX11_firstWalk_173
    simp (disch := omega) only [zI_lit, zI_add, zI_sub, zI_mul, zI_neg, zI_le, zI_lt, zI_eq, zI_nat, zI_max, zI_min, zI_abs, forall_eq, Int.reduceNeg, Int.reduceAdd, Int.reduceMul, Int.reduceSub, Int.add_zero, Int.zero_add, Int.zero_mul, Int.toNat_zero]
    exact ⟨fun _ => l195, fun h => ⟨fun h' => absurd ⟨by omega, by omega⟩ hne, fun _ => l195⟩⟩
theorem sr_fw24 {post : Int32 → (Int32 × Int32 × (Nat → Int32) × (Nat → Int32) × (Nat → Int32) × (Nat → Int32) × (Nat → Int32)) → Prop} {fw f2 f3 f4 f6 : Nat → Int32} {N : Nat}
    (hM : 1 ≤ M ∧ M ≤ 30) (hD : 1 ≤ D ∧ D ≤ 30) (ht : 0 ≤ t ∧ t < 2147483647) (hq : ∀ m d, 0 ≤ m → m < M → 0 ≤ d → d < D → (0 ≤ q2 m d ∧ q2 m d ≤ 2000000000) ∧ (q2 m d ≤ t ↔ q m d ≤ t)) (hf : Laid2 q2 D M 0 f3) (h0 : Bk q 2147483647 M D 0 0 ≤ t)
    (hN : N ≤ 58) (hN1 : ∀ i, i < N → ¬ (M - 1 ≤ (wk q M D t i).1 ∧ D - 1 ≤ (wk q M D t i).2)) (hN2 : M - 1 ≤ (wk q M D t N).1 ∧ D - 1 ≤ (wk q M D t N).2)
    (hp : ∀ f5 f6 : Nat → Int32, (∀ i : Nat, i < N → f6 i = zI (stp q M D t (wk q M D t i).1 (wk q M D t i).2)) → post (zI N) (zI M, zI D, f2, f3, f4, f5, f6)) :
    ∀ (k : Nat) (m : Int) (f : Nat → Int32), m + 1 = k → m < M → Enl q M D t m (D - 1) f → wpX11_firstWalk_24 post fw (k + 1) (zI M) (zI D) f2 f3 f4 f f6 (zI t) (zI m) := by
  intro k
  induction k with
  | zero =>
    intro m f e0 e1 a
    rw [show m = -1 by omega] at a ⊢
    unfold wpX11_firstWalk_24
    simp (disch := omega) only [zI_lit, zI_add, zI_sub, zI_mul, zI_neg, zI_le, zI_lt, zI_eq, zI_nat, zI_max, zI_min, zI_abs, forall_eq, Int.reduceNeg, Int.reduceAdd, Int.reduceMul, Int.reduceSub, Int.add_zero, Int.zero_add, Int.zero_mul, Int.toNat_zero]
    refine ⟨fun _ => ⟨N + 1, ?_⟩, fun h => absurd h (by omega)⟩
    exact sr_fw173 hM hD ht h0 a hN hN1 hN2 (fun f6 hf6 => hp f f6 hf6) N 0 f6 (by omega) (fun i hi => absurd hi (Nat.not_lt_zero i))
  | succ k ih =>
    intro m f e0 e1 a
    unfold wpX11_firstWalk_24
    simp (disch := omega) only [zI_lit, zI_add, zI_sub, zI_mul, zI_neg, zI_le, zI_lt, zI_eq, zI_nat, zI_max, zI_min, zI_abs, forall_eq, Int.reduceNeg, Int.reduceAdd, Int.reduceMul, Int.reduceSub, Int.add_zero, Int.zero_add, Int.zero_mul, Int.toNat_zero]
    refine ⟨fun h => absurd h (by omega), fun _ => ⟨D.toNat + 1, ?_⟩⟩
    exact sr_fw37 hM hD ht hq hf ⟨by omega, e1⟩ (fun f' a' => ih (m - 1) f' (by omega) (by omega) a') D.toNat (D - 1) f (by omega) (by omega) a
end
