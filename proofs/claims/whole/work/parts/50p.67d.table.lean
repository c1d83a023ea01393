def Gd.nr (g : Gd) (w l : Int) (c a : Nat) : Prop := g.far w (c : Int) w (a : Int) ≤ l
theorem ix31 (c a : Nat) : (zI (c : Int) * 31) + zI (a : Int) = zI ((31 * c + a : Nat) : Int) := by
  rw [show (31 : Int32) = zI 31 from rfl, zI_mul, zI_add]; congr 1; omega
section
variable {g : Gd} {xs ys cs ws : Nat → Int32} {nw nl : Int32} {w l : Int} {n c : Nat}
theorem sp_cf14 {post : ((Nat → Int32)) → Prop} {L f0 : Nat → Int32} (hg : g.Ok) (hc : CG g xs ys cs ws nw nl) (hw : g.hw w) (hn : g.cn w = (n : Int)) (hcn : c < n) (hl : -2147483648 ≤ l ∧ l < 2147483648)
    (hL : ∀ a, a ≤ n → Lst (On n (g.nr w l) (c + 1) a) (L a))
    (hp : ∀ f', (∀ a, a ≤ n → Lst (fun k => Fro n (g.nr w l) k c a) (f' (31 * c + a))) → (∀ i, (i < 31 * c ∨ 31 * c + 31 ≤ i) → f' i = f0 i) → post f') :
    ∀ (r : Nat) (f : Nat → Int32), r ≤ n → (∀ a, r ≤ a → a ≤ n → Lst (fun k => Fro n (g.nr w l) k c a) (f (31 * c + a))) → (∀ a, a < r → f (31 * c + a) = zI 2147483647) → (∀ i, (i < 31 * c ∨ 31 * c + 31 ≤ i) → f i = f0 i) →
      wpX9_countFrom_14 post L cs xs ys (r + 1) f (zI w) (zI (c : Int)) (zI l) (zI (n : Int)) (zI ((r : Int) - 1)) := by
  have h30 := hg.cn w hw.1 hw.2
  intro r
  induction r with
  | zero =>
    intro f hr h1 h2 h3
    unfold wpX9_countFrom_14
    rw [show (0 : Int32) = zI 0 from rfl, zI_lt (by omega)]
    exact ⟨fun _ => hp f (fun a ha => h1 a (Nat.zero_le a) ha) h3, fun q => absurd (show ((0 : Nat) : Int) - 1 < 0 by omega) q⟩
  | succ r ih =>
    intro f hr h1 h2 h3
    have next : ∀ f' : Nat → Int32, (∀ a, r ≤ a → a ≤ n → Lst (fun k => Fro n (g.nr w l) k c a) (f' (31 * c + a))) → (∀ a, a < r → f' (31 * c + a) = zI 2147483647) → (∀ i, (i < 31 * c ∨ 31 * c + 31 ≤ i) → f' i = f0 i) → wpX9_countFrom_126 (fun y0 y1 y2 y3 y4 y5 => wpX9_countFrom_14 post L cs xs ys (r + 1) y0 y1 y2 y3 y4 y5) post L cs xs ys f' (zI w) (zI (c : Int)) (zI l) (zI (n : Int)) (zI (r : Int)) := by
      intro f' q1 q2 q3
      unfold wpX9_countFrom_126
      intro v1 e1
      rw [e1, show (-1 : Int32) = zI (-1) from rfl, zI_add, show (r : Int) + -1 = (r : Int) - 1 by omega]
      exact ih f' (by omega) q1 q2 q3
    rw [show (((r + 1 : Nat) : Int) - 1) = (r : Int) by omega]
    unfold wpX9_countFrom_14
    have hfar := Gd.far_le hg (w := w) (m := (c : Int)) (o := w) (d := (r : Int)) ⟨hw, by omega, by omega⟩ ⟨hw, by omega, by omega⟩
    rw [show (0 : Int32) = zI 0 from rfl, zI_lt (by omega)]
    refine ⟨fun q => absurd q (by omega), fun _ => ?_⟩
    refine sp_distance hg hc ⟨hw, by omega, by omega⟩ ⟨hw, by omega, by omega⟩ ?_
    rw [zI_le (by omega), show (2147483647 : Int32) = zI 2147483647 from rfl]
    refine ⟨fun hN => ⟨zN_in (by omega), ?_, fun v3 e3 => ?_⟩, fun hN => next f (fun a q1 q2 => ?_) (fun a q => h2 a (by omega)) h3⟩
    · rw [zS]; exact zN_in (by omega)
    · rw [zS, zN (by omega), zN (by omega)] at e3
      have hm : Lst (fun j => On n (g.nr w l) (c + 1) r j ∨ On n (g.nr w l) (c + 1) (r + 1) j) v3 := by
        rw [e3]; exact (hL r (by omega)).min (hL (r + 1) (by omega))
      have hN' : g.nr w l c r := hN
      have fin : ∀ s : Int32, Lst (fun k => sc (fun j => On n (g.nr w l) (c + 1) r j ∨ On n (g.nr w l) (c + 1) (r + 1) j) k ∨ (k = 0 ∧ c + 1 = n ∧ r + 1 = n)) s → wpX9_countFrom_95 (fun y0 y1 y2 y3 y4 y5 => wpX9_countFrom_14 post L cs xs ys (r + 1) y0 y1 y2 y3 y4 y5) post L cs xs ys f (zI w) (zI (c : Int)) (zI l) (zI (n : Int)) (zI (r : Int)) s := by
        intro s hs
        unfold wpX9_countFrom_95
        rw [ix31, zS, zN (by omega), zN (by omega)]
        refine ⟨zN_in (by omega), zN_in (by omega), next _ (fun a q1 q2 => ?_) (fun a q => ?_) (fun i q => ?_)⟩
        · rw [upd_eq]
          by_cases e : a = r
          · subst e
            rw [if_pos rfl]
            exact (hs.min (h1 (a + 1) (by omega) (by omega))).ext (fun k => Fr_step hN' hcn (by omega))
          · rw [if_neg (by omega)]; exact h1 a (by omega) q2
        · rw [upd_eq, if_neg (by omega)]; exact h2 a (by omega)
        · rw [upd_eq, if_neg (by omega)]; exact h3 i q
      have go73 : ∀ s : Int32, Lst (sc (fun j => On n (g.nr w l) (c + 1) r j ∨ On n (g.nr w l) (c + 1) (r + 1) j)) s → wpX9_countFrom_73 (fun y0 y1 y2 y3 y4 y5 => wpX9_countFrom_14 post L cs xs ys (r + 1) y0 y1 y2 y3 y4 y5) post L cs xs ys f (zI w) (zI (c : Int)) (zI l) (zI (n : Int)) (zI (r : Int)) s := by
        intro s hs
        unfold wpX9_countFrom_73
        rw [show (1 : Int32) = zI 1 from rfl, zI_sub, zI_eq (by omega), zI_eq (by omega)]
        refine ⟨fun q => fin s (hs.ext fun k => ?_), fun q => ⟨fun q' => fin s (hs.ext fun k => ?_), fun q' => fin (zI 1) (Or.inl ⟨0, by omega, Or.inr ⟨rfl, by omega, by omega⟩, fun j hj => absurd hj (Nat.not_lt_zero j), rfl⟩)⟩⟩
        · exact ⟨fun h => h.elim id (fun h => absurd h.2.1 (by omega)), Or.inl⟩
        · exact ⟨fun h => h.elim id (fun h => absurd h.2.2 (by omega)), Or.inl⟩
      refine ⟨fun q => go73 _ (hm.suc (fun k hk => ?_) q), fun q => go73 _ (hm.suc0 q)⟩
      rcases hk with hk | hk <;> · have := On_bd hk; omega
    · by_cases e : a = r
      · subst e
        exact Or.inr ⟨fun k q => hN (Fr_in q).1, h2 a (by omega)⟩
      · exact h1 a (by omega) q2
theorem sp_countFrom {post : ((Nat → Int32)) → Prop} {L f : Nat → Int32} (hg : g.Ok) (hc : CG g xs ys cs ws nw nl) (hw : g.hw w) (hn : g.cn w = (n : Int)) (hcn : c < n) (hl : -2147483648 ≤ l ∧ l < 2147483648)
    (hL : ∀ a, a ≤ n → Lst (On n (g.nr w l) (c + 1) a) (L a)) (hr : ∀ a, a ≤ n → f (31 * c + a) = zI 2147483647)
    (hp : ∀ f', (∀ a, a ≤ n → Lst (fun k => Fro n (g.nr w l) k c a) (f' (31 * c + a))) → (∀ i, (i < 31 * c ∨ 31 * c + 31 ≤ i) → f' i = f i) → post f') :
    wpX9_countFrom post L cs xs ys f (zI w) (zI (c : Int)) (zI l) := by
  have h30 := hg.cn w hw.1 hw.2
  have h12 := hg.nw
  have hw' : 0 ≤ w ∧ w < g.nw := hw
  unfold wpX9_countFrom
  rw [zI_nat (by omega), hc.cs w hw.1 hw.2, hn]
  refine ⟨zI_in (by omega), fun v1 e1 v2 e2 => ⟨n + 1, ?_⟩⟩
  rw [e2, e1, show (1 : Int32) = zI 1 from rfl, zI_sub]
  refine sp_cf14 hg hc hw hn hcn hl hL hp n f (Nat.le_refl n) (fun a q1 q2 => Or.inr ⟨fun k q => ?_, hr a q2⟩) (fun a q => hr a (by omega)) (fun i _ => rfl)
  have := (Fr_in q).2.1
  omega
theorem sp_fc49 {N : Nat → Nat → Prop} {post : Int32 → ((Nat → Int32) × (Nat → Int32)) → Prop} {k32 : (Nat → Int32) → (Nat → Int32) → Int32 → Int32 → Int32 → Int32 → Prop} {F : Nat → Int32} (hcn : c < n) (h30 : n ≤ 30)
    (hF : ∀ a, a ≤ n → Lst (fun k => Fro n N k c a) (F (31 * c + a)))
    (hk : ∀ L', (∀ a, a ≤ n → Lst (On n N c a) (L' a)) → k32 F L' (zI w) (zI l) (zI (n : Int)) (zI ((c : Int) - 1))) :
    ∀ (j b : Nat) (L : Nat → Int32), b + j = n → (∀ a, a < b → Lst (On n N c a) (L a)) → (∀ a, b ≤ a → a ≤ n → Lst (On n N (c + 1) a) (L a)) →
      wpX9_fewestCorners_49 k32 post cs xs ys (j + 1) F L (zI w) (zI l) (zI (n : Int)) (zI (c : Int)) (zI (b : Int)) := by
  intro j
  induction j with
  | zero =>
    intro b L hb h1 h2
    unfold wpX9_fewestCorners_49
    rw [zN_le (by omega)]
    refine ⟨fun _ v1 e1 => ?_, fun q => absurd (show n ≤ b by omega) q⟩
    rw [e1, show (-1 : Int32) = zI (-1) from rfl, zI_add, show (c : Int) + -1 = (c : Int) - 1 by omega]
    refine hk L (fun a ha => ?_)
    by_cases e : a < b
    · exact h1 a e
    · exact (h2 a (by omega) ha).ext (fun k => ⟨fun q => absurd q (On_out (by omega)), fun q => absurd q (On_out (by omega))⟩)
  | succ j ih =>
    intro b L hb h1 h2
    unfold wpX9_fewestCorners_49
    rw [zN_le (by omega), ix31, zS, zN (by omega), zN (by omega)]
    refine ⟨fun q => absurd q (by omega), fun _ => ⟨zN_in (by omega), zN_in (by omega), zN_in (by omega), fun v2 e2 => ?_⟩⟩
    rw [e2]
    refine ih (b + 1) _ (by omega) (fun a ha => ?_) (fun a q1 q2 => ?_)
    · rw [upd_eq]
      by_cases e : a = b
      · subst e
        rw [if_pos rfl]
        exact ((h2 a (by omega) (by omega)).min (hF a (by omega))).ext (fun k => On_split hcn)
      · rw [if_neg e]; exact h1 a (by omega)
    · rw [upd_eq, if_neg (by omega)]; exact h2 a (by omega) q2
theorem sp_fc32 {post : Int32 → ((Nat → Int32) × (Nat → Int32)) → Prop} (hg : g.Ok) (hc : CG g xs ys cs ws nw nl) (hw : g.hw w) (hn : g.cn w = (n : Int)) (hl : -2147483648 ≤ l ∧ l < 2147483648)
    (hp : ∀ F L : Nat → Int32, (∀ c, c < n → ∀ a, a ≤ n → Lst (fun k => Fro n (g.nr w l) k c a) (F (31 * c + a))) → wpX9_firstChoice (fun r2 _ => post r2 (F, L)) F (zI (n : Int))) :
    ∀ (r : Nat) (F L : Nat → Int32), r ≤ n → (∀ c, r ≤ c → c < n → ∀ a, a ≤ n → Lst (fun k => Fro n (g.nr w l) k c a) (F (31 * c + a))) → (∀ c, c < r → ∀ a, a ≤ n → F (31 * c + a) = zI 2147483647) → (∀ a, a ≤ n → Lst (On n (g.nr w l) r a) (L a)) →
      wpX9_fewestCorners_32 post cs xs ys (r + 1) F L (zI w) (zI l) (zI (n : Int)) (zI ((r : Int) - 1)) := by
  have h30 := hg.cn w hw.1 hw.2
  intro r
  induction r with
  | zero =>
    intro F L hr h1 h2 h3
    unfold wpX9_fewestCorners_32
    rw [show (0 : Int32) = zI 0 from rfl, zI_lt (by omega)]
    exact ⟨fun _ => hp F L (fun c q => h1 c (Nat.zero_le c) q), fun q => absurd (show ((0 : Nat) : Int) - 1 < 0 by omega) q⟩
  | succ r ih =>
    intro F L hr h1 h2 h3
    rw [show (((r + 1 : Nat) : Int) - 1) = (r : Int) by omega]
    unfold wpX9_fewestCorners_32
    have z0 : ¬ zI (r : Int) < 0 := by
      rw [show (0 : Int32) = zI 0 from rfl, zI_lt (by omega)]; omega
    refine ⟨fun q => absurd q z0, fun _ => ?_⟩
    refine sp_countFrom hg hc hw hn (by omega) hl h3 (fun a q => h2 r (by omega) a q) (fun F' q1 q2 => ⟨n + 1, ?_⟩)
    refine sp_fc49 (N := g.nr w l) (by omega) (by omega) q1 (fun L' hL' => ih F' L' (by omega) (fun c p1 p2 a p3 => ?_) (fun c p1 a p2 => ?_) hL') n 0 L (by omega) (fun a q => absurd q (Nat.not_lt_zero a)) (fun a _ q => h3 a q)
    · by_cases e : c = r
      · subst e; exact q1 a p3
      · rw [q2 _ (Or.inr (by omega))]; exact h1 c (by omega) p2 a p3
    · rw [q2 _ (Or.inl (by omega))]; exact h2 c (by omega) a p2
theorem sp_fewestCorners {post : Int32 → ((Nat → Int32) × (Nat → Int32)) → Prop} {f1 f2 : Nat → Int32} (hg : g.Ok) (hc : CG g xs ys cs ws nw nl) (hw : g.hw w) (hn : g.cn w = (n : Int)) (hl : -2147483648 ≤ l ∧ l < 2147483648)
    (hp : ∀ F L : Nat → Int32, (∀ c, c < n → ∀ a, a ≤ n → Lst (fun k => Fro n (g.nr w l) k c a) (F (31 * c + a))) → wpX9_firstChoice (fun r2 _ => post r2 (F, L)) F (zI (n : Int))) :
    wpX9_fewestCorners post cs xs ys f1 f2 (zI w) (zI l) := by
  have h30 := hg.cn w hw.1 hw.2
  have h12 := hg.nw
  have hw' : 0 ≤ w ∧ w < g.nw := hw
  unfold wpX9_fewestCorners
  rw [zI_nat (by omega), hc.cs w hw.1 hw.2, hn]
  refine ⟨zI_in (by omega), fun v1 e1 => sp_fill (by omega) (fun u2 h2 => sp_fill (by omega) (fun u3 h3 => ?_))⟩
  intro v4 e4
  refine ⟨n + 1, ?_⟩
  rw [e4, e1, show (1 : Int32) = zI 1 from rfl, zI_sub]
  refine sp_fc32 hg hc hw hn hl hp n u2 u3 (Nat.le_refl n) (fun c q1 q2 => absurd q2 (by omega)) (fun c q a q' => h2 _ (by omega)) (fun a q => Or.inr ⟨fun k h => ?_, h3 a (by omega)⟩)
  have := On_bd h
  omega
end
