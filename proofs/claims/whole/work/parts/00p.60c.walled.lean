def Gd.cr (g : Gd) (w m o d n : Int) : Prop := crs (g.wl n 0) (g.wl n 1) (g.wl n 2) (g.wl n 3) (g.px w m) (g.py w m) (g.px o d) (g.py o d)
def Gd.walled (g : Gd) (w m o d : Int) : Prop := ∃ n, (0 ≤ n ∧ n < g.nl) ∧ g.cr w m o d n
section
variable {g : Gd} {xs ys cs ws v : Nat → Int32} {nw nl : Int32} {post : Int32 → Unit → Prop} {w m o d : Int}
theorem sp_walled (hg : g.Ok) (hc : CG g xs ys cs ws nw nl) (h1 : g.hc w m) (h2 : g.hc o d) (p1 : g.walled w m o d → post 1 ()) (p0 : ¬ g.walled w m o d → post 0 ()) :
    ∀ (k : Nat) (n : Int), n + k = g.nl → 0 ≤ n → (∀ j, 0 ≤ j → j < n → ¬ g.cr w m o d j) → wpX1_isWalledOff_20 post nl xs ys ws (k + 1) (zI (w * 30 + m)) (zI (o * 30 + d)) (zI n) := by
  have l8 := hg.nl
  have l12 := hg.nw
  obtain ⟨⟨a1, a2⟩, a3, a4⟩ := h1
  obtain ⟨⟨b1, b2⟩, b3, b4⟩ := h2
  have c1 := hg.cn w a1 a2
  have c2 := hg.cn o b1 b2
  intro k
  induction k with
  | zero =>
    intro n e hn hj
    unfold wpX1_isWalledOff_20
    rw [hc.nl, zI_le (by omega)]
    exact ⟨fun _ => p0 fun ⟨j, h, q⟩ => hj j h.1 (by omega) q, fun h => absurd (show g.nl ≤ n by omega) h⟩
  | succ k ih =>
    intro n e hn hj
    unfold wpX1_isWalledOff_20
    rw [hc.nl, zI_le (by omega), zI_nat (a := w * 30 + m) (by omega), zI_nat (a := o * 30 + d) (by omega), hc.xs w m a1 a2 a3 a4, hc.ys w m a1 a2 a3 a4, hc.xs o d b1 b2 b3 b4, hc.ys o d b1 b2 b3 b4, ← hc.nl]
    have fw : ∀ j, 0 ≤ j → j < 4 → ws (4 * n + j).toNat = zI (g.wl n j) := fun j x y => by rw [Int.mul_comm 4 n]; exact hc.ws n j hn (by omega) x y
    have f0 := fw 0 (by omega) (by omega)
    rw [Int.add_zero] at f0
    refine ⟨fun h => absurd h (by omega), fun _ => ⟨zI_in (by omega), zI_in (by omega), zI_in (by omega), zI_in (by omega), ?_⟩⟩
    refine sp_isCrossed (by omega) (hg.wl n 0 hn (by omega) (by omega) (by omega)) (hg.wl n 1 hn (by omega) (by omega) (by omega)) (hg.wl n 2 hn (by omega) (by omega) (by omega)) (hg.wl n 3 hn (by omega) (by omega) (by omega)) (hg.px w m a1 a2 a3 a4) (hg.py w m a1 a2 a3 a4) (hg.px o d b1 b2 b3 b4) (hg.py o d b1 b2 b3 b4) f0 (fw 1 (by omega) (by omega)) (fw 2 (by omega) (by omega)) (fw 3 (by omega) (by omega)) (fun q => ?_) (fun q => ?_)
    · exact ⟨fun e => absurd e (by decide), fun _ => p1 ⟨n, ⟨hn, by omega⟩, q⟩⟩
    · refine ⟨fun _ v3 e3 => ?_, fun e => absurd rfl e⟩
      rw [e3, show (1 : Int32) = zI 1 from rfl, zI_add]
      refine ih (n + 1) (by omega) (by omega) (fun j x y => ?_)
      by_cases hjn : j = n
      · rw [hjn]; exact q
      · exact hj j x (by omega)
theorem sp_isWalledOff (hg : g.Ok) (hc : CG g xs ys cs ws nw nl) (h1 : g.hc w m) (h2 : g.hc o d) (p1 : g.walled w m o d → post 1 ()) (p0 : ¬ g.walled w m o d → post 0 ()) : wpX1_isWalledOff post nl xs ys ws (zI w) (zI m) (zI o) (zI d) := by
  have l8 := hg.nl
  unfold wpX1_isWalledOff
  intro v1 e1 v2 e2
  rw [show (30 : Int32) = zI 30 from rfl, zI_mul, zI_add] at e1 e2
  subst e1 e2
  exact ⟨_, sp_walled hg hc h1 h2 p1 p0 g.nl.toNat 0 (by omega) (by omega) (fun j x y => by omega)⟩
end
