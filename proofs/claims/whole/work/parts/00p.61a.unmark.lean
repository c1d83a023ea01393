section
variable {k : Mk} {mi xs ys wh v : Nat → Int32} {sz : Int32}
theorem sp_unmark {post : Int32 → Int32 → Prop} (hk : k.Ok) (hc : CM k mi xs ys wh sz) (p0 : k.n = 0 → post (-1) sz) (p1 : ¬ k.n = 0 → post (zI (k.n - 1)) (zI (k.n - 1))) : wpX10_unmark post sz := by
  have h20 := hk.1
  unfold wpX10_unmark
  have e : (sz = 0) = (k.n = 0) := by rw [hc.1]; exact zI_eq (b := 0) (by omega)
  rw [e]
  refine ⟨fun h v1 e1 => ?_, p0⟩
  rw [e1, hc.1, show (1 : Int32) = zI 1 from rfl, zI_sub]
  exact p1 h
theorem sr_unmark {post : Int32 → (Int32 × (Nat → Int32)) → Prop} {t : Int32} (hk : k.Ok) (hv : WM k v) (p0 : k.n = 0 → post (-1) (0, v)) (p1 : ¬ k.n = 0 → post (zI (k.n - 1)) (0, upd v 4 (zI (k.n - 1)))) : wpX11_unmark post t v := by
  have h20 := hk.1
  have e4 : v (4 : Int32).toNatClampNeg = zI k.n := hv.1
  have i4 : vp_in 4 2508 := zI_in (a := 4) (by omega)
  unfold wpX11_unmark
  have e : (v (4 : Int32).toNatClampNeg = 0) = (k.n = 0) := by rw [e4]; exact zI_eq (b := 0) (by omega)
  rw [e]
  refine ⟨i4, fun h => ⟨i4, i4, i4, ?_⟩, p0⟩
  rw [e4, show (1 : Int32) = zI 1 from rfl, zI_sub, show (4 : Int32).toNatClampNeg = 4 from rfl, upd_eq, if_pos rfl]
  exact p1 h
end
