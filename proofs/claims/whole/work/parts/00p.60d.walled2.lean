section
variable {g : Gd} {v f2 : Nat → Int32} {post : Int32 → (Nat → Int32) → Prop} {w m o d : Int}
theorem sr_walled1 {x6 : Int32} (k : Nat) (a b c e : Int32) (p1 : post 1 f2) : wpX11_isShut_56 post v (k + 1) f2 a b c e 1 x6 := by
  unfold wpX11_isShut_56
  exact ⟨zI_in (a := 1) (by omega), fun _ => ⟨Or.inr rfl, p1⟩, fun _ => ⟨fun _ => ⟨Or.inr rfl, p1⟩, fun h => absurd h (by decide)⟩⟩
theorem sr_walled (hg : g.Ok) (hv : WG g v) (h1 : g.hc w m) (h2 : g.hc o d) (p1 : g.walled w m o d → post 1 f2) (p0 : ¬ g.walled w m o d → post 0 f2) :
    ∀ (k : Nat) (n : Int), n + k = g.nl → 0 ≤ n → (∀ j, 0 ≤ j → j < n → ¬ g.cr w m o d j) → wpX11_isShut_56 post v (k + 1) f2 (zI w) (zI m) (zI o) (zI d) 0 (zI n) := by
  have l8 := hg.nl
  have l12 := hg.nw
  obtain ⟨⟨a1, a2⟩, a3, a4⟩ := id h1
  obtain ⟨⟨b1, b2⟩, b3, b4⟩ := id h2
  have c1 := hg.cn w a1 a2
  have c2 := hg.cn o b1 b2
  have e1 : v (1 : Int32).toNatClampNeg = zI g.nl := hv.nl
  intro k
  induction k with
  | zero =>
    intro n e hn hj
    unfold wpX11_isShut_56
    rw [e1, zI_le (by omega)]
    exact ⟨zI_in (a := 1) (by omega), fun _ => ⟨Or.inl rfl, p0 fun ⟨j, h, q⟩ => hj j h.1 (by omega) q⟩, fun h => absurd (show g.nl ≤ n by omega) h⟩
  | succ k ih =>
    intro n e hn hj
    unfold wpX11_isShut_56
    rw [e1, zI_le (by omega)]
    have fw : ∀ j, 0 ≤ j → j < 4 → v (746 + 4 * n + j).toNat = zI (g.wl n j) := fun j x y => hv.ws n j hn (by omega) x y
    have f0 := fw 0 (by omega) (by omega)
    rw [Int.add_zero] at f0
    refine ⟨zI_in (a := 1) (by omega), fun h => absurd h (by omega), fun _ => ⟨fun h => absurd rfl h, fun _ => ?_⟩⟩
    refine sr_xOf hg hv h1 (sr_yOf hg hv h1 (sr_xOf hg hv h2 (sr_yOf hg hv h2 ?_)))
    refine sr_isCrossed (by omega) (hg.wl n 0 hn (by omega) (by omega) (by omega)) (hg.wl n 1 hn (by omega) (by omega) (by omega)) (hg.wl n 2 hn (by omega) (by omega) (by omega)) (hg.wl n 3 hn (by omega) (by omega) (by omega)) (hg.px w m a1 a2 a3 a4) (hg.py w m a1 a2 a3 a4) (hg.px o d b1 b2 b3 b4) (hg.py o d b1 b2 b3 b4) f0 (fw 1 (by omega) (by omega)) (fw 2 (by omega) (by omega)) (fw 3 (by omega) (by omega)) (fun q => ?_) (fun q => ?_)
    · intro v3 e3
      exact sr_walled1 k _ _ _ _ (p1 ⟨n, ⟨hn, by omega⟩, q⟩)
    · intro v3 e3
      rw [e3, show (1 : Int32) = zI 1 from rfl, zI_add]
      refine ih (n + 1) (by omega) (by omega) (fun j x y => ?_)
      by_cases hjn : j = n
      · rw [hjn]; exact q
      · exact hj j x (by omega)
theorem sr_isShut_53 (hg : g.Ok) (hv : WG g v) (h1 : g.hc w m) (h2 : g.hc o d) (x : Int32) (hx : x = 0 ∨ x = 1) (p1 : x = 1 ∨ g.walled w m o d → post 1 f2) (p0 : ¬ (x = 1 ∨ g.walled w m o d) → post 0 f2) : wpX11_isShut_53 post v f2 (zI w) (zI m) (zI o) (zI d) x := by
  have l8 := hg.nl
  unfold wpX11_isShut_53
  rcases hx with hx | hx
  · subst hx
    refine ⟨_, sr_walled hg hv h1 h2 (fun q => p1 (Or.inr q)) (fun q => p0 ?_) g.nl.toNat 0 (by omega) (by omega) (fun j x y => by omega)⟩
    rintro (e | e)
    · exact absurd e (by decide)
    · exact q e
  · subst hx
    exact ⟨1, sr_walled1 0 _ _ _ _ (p1 (Or.inl rfl))⟩
end
