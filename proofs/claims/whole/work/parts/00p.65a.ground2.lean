def Gd.Ok0 (g : Gd) : Prop :=
  (0 ≤ g.nw ∧ g.nw ≤ 12) ∧ (∀ w, 0 ≤ w → w < g.nw → 0 ≤ g.cn w ∧ g.cn w ≤ 30) ∧ (∀ w c, 0 ≤ w → w < g.nw → 0 ≤ c → c < g.cn w → 0 ≤ g.px w c ∧ g.px w c ≤ 999) ∧ (∀ w c, 0 ≤ w → w < g.nw → 0 ≤ c → c < g.cn w → 0 ≤ g.py w c ∧ g.py w c ≤ 999) ∧ (0 ≤ g.nl ∧ g.nl ≤ 8) ∧ (∀ n j, 0 ≤ n → n < g.nl → 0 ≤ j → j < 4 → 0 ≤ g.wl n j ∧ g.wl n j ≤ 999) ∧ (0 ≤ g.nt ∧ g.nt ≤ 16)
theorem Gd.Ok.to0 {g : Gd} (h : g.Ok) : g.Ok0 := ⟨h.1, fun w a b => by have := h.cn w a b; omega, h.2.2⟩
theorem Gd.Ok0.toOk {g : Gd} (h : g.Ok0) (h1 : ∀ w, 0 ≤ w → w < g.nw → 1 ≤ g.cn w) : g.Ok := ⟨h.1, fun w a b => ⟨h1 w a b, (h.2.1 w a b).2⟩, h.2.2⟩
def Gd.addC (g : Gd) (w x y : Int) : Gd := (g.nw, (fun a => if a = w then g.cn w + 1 else g.cn a), (fun a c => if a = w ∧ c = g.cn w then x else g.px a c), (fun a c => if a = w ∧ c = g.cn w then y else g.py a c), g.nl, g.wl, g.nt)
theorem Gd.addC_cn (g : Gd) (w x y a : Int) : (g.addC w x y).cn a = if a = w then g.cn w + 1 else g.cn a := rfl
theorem Gd.addC_px (g : Gd) (w x y a c : Int) : (g.addC w x y).px a c = if a = w ∧ c = g.cn w then x else g.px a c := rfl
theorem Gd.addC_py (g : Gd) (w x y a c : Int) : (g.addC w x y).py a c = if a = w ∧ c = g.cn w then y else g.py a c := rfl
theorem Gd.addC_nw (g : Gd) (w x y : Int) : (g.addC w x y).nw = g.nw := rfl
theorem Gd.Ok0.addC {g : Gd} (h : g.Ok0) {w x y : Int} (hw : g.hw w) (hc : g.cn w < 30) (hx : 0 ≤ x ∧ x ≤ 999) (hy : 0 ≤ y ∧ y ≤ 999) : (g.addC w x y).Ok0 := by
  refine ⟨h.1, fun a h0 h1 => ?_, fun a c h0 h1 h2 h3 => ?_, fun a c h0 h1 h2 h3 => ?_, h.2.2.2.2⟩
  · rw [Gd.addC_cn]
    have := h.2.1 a h0 h1
    have := h.2.1 w hw.1 hw.2
    by_cases e : a = w
    · rw [if_pos e]; omega
    · rw [if_neg e]; omega
  · rw [Gd.addC_cn] at h3
    rw [Gd.addC_px]
    by_cases e : a = w ∧ c = g.cn w
    · rw [if_pos e]; exact hx
    · rw [if_neg e]
      by_cases e2 : a = w
      · rw [if_pos e2] at h3
        have e3 : ¬ c = g.cn w := fun q => e ⟨e2, q⟩
        rw [e2]; exact h.2.2.1 w c hw.1 hw.2 h2 (by omega)
      · rw [if_neg e2] at h3; exact h.2.2.1 a c h0 h1 h2 h3
  · rw [Gd.addC_cn] at h3
    rw [Gd.addC_py]
    by_cases e : a = w ∧ c = g.cn w
    · rw [if_pos e]; exact hy
    · rw [if_neg e]
      by_cases e2 : a = w
      · rw [if_pos e2] at h3
        have e3 : ¬ c = g.cn w := fun q => e ⟨e2, q⟩
        rw [e2]; exact h.2.2.2.1 w c hw.1 hw.2 h2 (by omega)
      · rw [if_neg e2] at h3; exact h.2.2.2.1 a c h0 h1 h2 h3
theorem CG.addC {g : Gd} {xs ys cs ws : Nat → Int32} {nw nl : Int32} (hg : g.Ok0) (h : CG g xs ys cs ws nw nl) {w : Int} (hw : g.hw w) (hc : g.cn w < 30) (x y : Int) : CG (g.addC w x y) (upd xs (w * 30 + g.cn w).toNat (zI x)) (upd ys (w * 30 + g.cn w).toNat (zI y)) (upd cs w.toNat (zI (g.cn w + 1))) ws nw nl := by
  have hcw := hg.2.1 w hw.1 hw.2
  obtain ⟨hw1, hw2⟩ := hw
  refine ⟨h.1, h.2.1, fun a h0 h1 => ?_, fun a c h0 h1 h2 h3 => ?_, fun a c h0 h1 h2 h3 => ?_, h.2.2.2.2.2⟩
  · rw [Gd.addC_cn, upd_eq]
    by_cases e : a = w
    · rw [if_pos e, if_pos (by rw [e])]
    · rw [if_neg e, if_neg (by omega)]; exact h.cs a h0 h1
  · have hca := hg.2.1 a h0 h1
    rw [Gd.addC_cn] at h3
    rw [Gd.addC_px, upd_eq]
    by_cases e : a = w ∧ c = g.cn w
    · rw [if_pos e, if_pos (by rw [e.1, e.2])]
    · have h3' : c < g.cn a := by
        by_cases e2 : a = w
        · rw [if_pos e2] at h3
          have e3 : ¬ c = g.cn w := fun q => e ⟨e2, q⟩
          rw [e2]; omega
        · rw [if_neg e2] at h3; exact h3
      rw [if_neg e, if_neg (by
        intro q
        apply e
        have : a * 30 + c = w * 30 + g.cn w := by omega
        omega)]
      exact h.xs a c h0 h1 h2 h3'
  · have hca := hg.2.1 a h0 h1
    rw [Gd.addC_cn] at h3
    rw [Gd.addC_py, upd_eq]
    by_cases e : a = w ∧ c = g.cn w
    · rw [if_pos e, if_pos (by rw [e.1, e.2])]
    · have h3' : c < g.cn a := by
        by_cases e2 : a = w
        · rw [if_pos e2] at h3
          have e3 : ¬ c = g.cn w := fun q => e ⟨e2, q⟩
          rw [e2]; omega
        · rw [if_neg e2] at h3; exact h3
      rw [if_neg e, if_neg (by
        intro q
        apply e
        have : a * 30 + c = w * 30 + g.cn w := by omega
        omega)]
      exact h.ys a c h0 h1 h2 h3'
def wC (g : Gd) (v : Nat → Int32) (w x y : Int) : Nat → Int32 := upd (upd (upd v (14 + 61 * w + 1 + 2 * g.cn w).toNat (zI x)) (14 + 61 * w + 2 + 2 * g.cn w).toNat (zI y)) (14 + 61 * w).toNat (zI (g.cn w + 1))
def Fp (v v' : Nat → Int32) : Prop := ∀ k : Nat, (2 ≤ k ∧ k < 14) ∨ 778 ≤ k → v' k = v k
theorem Fp.rf {v : Nat → Int32} : Fp v v := fun _ _ => rfl
theorem Fp.trans {v v' v'' : Nat → Int32} (h : Fp v v') (h' : Fp v' v'') : Fp v v'' := fun k hk => (h' k hk).trans (h k hk)
theorem Fp.wc {g : Gd} {v : Nat → Int32} {w x y : Int} (hg : g.Ok0) (hw : g.hw w) (hc : g.cn w < 30) : Fp v (wC g v w x y) := by
  have hcw := hg.2.1 w hw.1 hw.2
  have h12 := hg.1
  obtain ⟨hw1, hw2⟩ := hw
  intro k hk
  unfold wC
  rw [upd_eq, upd_eq, upd_eq, if_neg (by omega), if_neg (by omega), if_neg (by omega)]
theorem WG.addC {g : Gd} {v : Nat → Int32} (hg : g.Ok0) (h : WG g v) {w : Int} (hw : g.hw w) (hc : g.cn w < 30) (x y : Int) : WG (g.addC w x y) (wC g v w x y) := by
  have hcw := hg.2.1 w hw.1 hw.2
  have h12 := hg.1
  have hnl := hg.2.2.2.2.1
  obtain ⟨hw1, hw2⟩ := hw
  unfold wC
  refine ⟨?_, ?_, ?_, fun a h0 h1 => ?_, fun a c h0 h1 h2 h3 => ?_, fun a c h0 h1 h2 h3 => ?_, fun n j h0 h1 h2 h3 => ?_⟩
  · rw [upd_eq, upd_eq, upd_eq, if_neg (by omega), if_neg (by omega), if_neg (by omega)]; exact h.nw
  · rw [upd_eq, upd_eq, upd_eq, if_neg (by omega), if_neg (by omega), if_neg (by omega)]; exact h.nl
  · rw [upd_eq, upd_eq, upd_eq, if_neg (by omega), if_neg (by omega), if_neg (by omega)]; exact h.nt
  · rw [Gd.addC_cn, upd_eq, upd_eq, upd_eq]
    have h1 : a < g.nw := h1
    by_cases e : a = w
    · rw [if_pos e, if_pos (by rw [e])]
    · rw [if_neg e, if_neg (by omega), if_neg (by omega), if_neg (by omega)]; exact h.cs a h0 h1
  · have h1 : a < g.nw := h1
    have hca := hg.2.1 a h0 h1
    rw [Gd.addC_cn] at h3
    rw [Gd.addC_px, upd_eq, upd_eq, upd_eq]
    by_cases e : a = w ∧ c = g.cn w
    · rw [if_pos e, if_neg (by omega), if_neg (by omega), if_pos (by rw [e.1, e.2])]
    · have h3' : c < g.cn a := by
        by_cases e2 : a = w
        · rw [if_pos e2] at h3
          have e3 : ¬ c = g.cn w := fun q => e ⟨e2, q⟩
          rw [e2]; omega
        · rw [if_neg e2] at h3; exact h3
      rw [if_neg e, if_neg (by omega), if_neg (by omega), if_neg (by
        intro q
        apply e
        have : 14 + 61 * a + 1 + 2 * c = 14 + 61 * w + 1 + 2 * g.cn w := by omega
        omega)]
      exact h.xs a c h0 h1 h2 h3'
  · have h1 : a < g.nw := h1
    have hca := hg.2.1 a h0 h1
    rw [Gd.addC_cn] at h3
    rw [Gd.addC_py, upd_eq, upd_eq, upd_eq]
    by_cases e : a = w ∧ c = g.cn w
    · rw [if_pos e, if_neg (by omega), if_pos (by rw [e.1, e.2])]
    · have h3' : c < g.cn a := by
        by_cases e2 : a = w
        · rw [if_pos e2] at h3
          have e3 : ¬ c = g.cn w := fun q => e ⟨e2, q⟩
          rw [e2]; omega
        · rw [if_neg e2] at h3; exact h3
      rw [if_neg e, if_neg (by omega), if_neg (by
        intro q
        apply e
        have : 14 + 61 * a + 2 + 2 * c = 14 + 61 * w + 2 + 2 * g.cn w := by omega
        omega), if_neg (by omega)]
      exact h.ys a c h0 h1 h2 h3'
  · have h1 : n < g.nl := h1
    rw [upd_eq, upd_eq, upd_eq, if_neg (by omega), if_neg (by omega), if_neg (by omega)]; exact h.ws n j h0 h1 h2 h3
def Gd.newW (g : Gd) : Gd := (g.nw + 1, (fun a => if a = g.nw then 0 else g.cn a), g.px, g.py, g.nl, g.wl, g.nt)
theorem Gd.newW_cn (g : Gd) (a : Int) : g.newW.cn a = if a = g.nw then 0 else g.cn a := rfl
theorem Gd.Ok0.newW {g : Gd} (h : g.Ok0) (hn : g.nw < 12) : g.newW.Ok0 := by
  have h12 := h.1
  refine ⟨by show 0 ≤ g.nw + 1 ∧ g.nw + 1 ≤ 12; omega, fun a h0 h1 => ?_, fun a c h0 h1 h2 h3 => ?_, fun a c h0 h1 h2 h3 => ?_, h.2.2.2.2⟩
  · have h1 : a < g.nw + 1 := h1
    rw [Gd.newW_cn]
    by_cases e : a = g.nw
    · rw [if_pos e]; omega
    · rw [if_neg e]; exact h.2.1 a h0 (by omega)
  · have h1 : a < g.nw + 1 := h1
    rw [Gd.newW_cn] at h3
    by_cases e : a = g.nw
    · rw [if_pos e] at h3; omega
    · rw [if_neg e] at h3; exact h.2.2.1 a c h0 (by omega) h2 h3
  · have h1 : a < g.nw + 1 := h1
    rw [Gd.newW_cn] at h3
    by_cases e : a = g.nw
    · rw [if_pos e] at h3; omega
    · rw [if_neg e] at h3; exact h.2.2.2.1 a c h0 (by omega) h2 h3
theorem CG.newW {g : Gd} {xs ys cs ws : Nat → Int32} {nw nl : Int32} (hg : g.Ok0) (h : CG g xs ys cs ws nw nl) : CG g.newW xs ys (upd cs g.nw.toNat 0) ws (zI (g.nw + 1)) nl := by
  have h12 := hg.1
  refine ⟨rfl, h.2.1, fun a h0 h1 => ?_, fun a c h0 h1 h2 h3 => ?_, fun a c h0 h1 h2 h3 => ?_, h.2.2.2.2.2⟩
  · have h1 : a < g.nw + 1 := h1
    rw [Gd.newW_cn, upd_eq]
    by_cases e : a = g.nw
    · rw [if_pos e, if_pos (by rw [e])]; rfl
    · rw [if_neg e, if_neg (by omega)]; exact h.cs a h0 (by omega)
  · have h1 : a < g.nw + 1 := h1
    rw [Gd.newW_cn] at h3
    by_cases e : a = g.nw
    · rw [if_pos e] at h3; omega
    · rw [if_neg e] at h3; exact h.xs a c h0 (by omega) h2 h3
  · have h1 : a < g.nw + 1 := h1
    rw [Gd.newW_cn] at h3
    by_cases e : a = g.nw
    · rw [if_pos e] at h3; omega
    · rw [if_neg e] at h3; exact h.ys a c h0 (by omega) h2 h3
theorem WG.newW {g : Gd} {v : Nat → Int32} (hg : g.Ok0) (hn : g.nw < 12) (h : WG g v) : WG g.newW (upd (upd v (14 + 61 * g.nw).toNat 0) 0 (zI (g.nw + 1))) := by
  have h12 := hg.1
  have hnl := hg.2.2.2.2.1
  refine ⟨?_, ?_, ?_, fun a h0 h1 => ?_, fun a c h0 h1 h2 h3 => ?_, fun a c h0 h1 h2 h3 => ?_, fun n j h0 h1 h2 h3 => ?_⟩
  · rw [upd_eq, if_pos rfl]; rfl
  · rw [upd_eq, upd_eq, if_neg (by omega), if_neg (by omega)]; exact h.nl
  · rw [upd_eq, upd_eq, if_neg (by omega), if_neg (by omega)]; exact h.nt
  · have h1 : a < g.nw + 1 := h1
    rw [Gd.newW_cn, upd_eq, upd_eq, if_neg (by omega)]
    by_cases e : a = g.nw
    · rw [if_pos e, if_pos (by rw [e])]; rfl
    · rw [if_neg e, if_neg (by omega)]; exact h.cs a h0 (by omega)
  · have h1 : a < g.nw + 1 := h1
    rw [Gd.newW_cn] at h3
    by_cases e : a = g.nw
    · rw [if_pos e] at h3; omega
    · rw [if_neg e] at h3
      have := hg.2.1 a h0 (by omega)
      rw [upd_eq, upd_eq, if_neg (by omega), if_neg (by omega)]; exact h.xs a c h0 (by omega) h2 h3
  · have h1 : a < g.nw + 1 := h1
    rw [Gd.newW_cn] at h3
    by_cases e : a = g.nw
    · rw [if_pos e] at h3; omega
    · rw [if_neg e] at h3
      have := hg.2.1 a h0 (by omega)
      rw [upd_eq, upd_eq, if_neg (by omega), if_neg (by omega)]; exact h.ys a c h0 (by omega) h2 h3
  · have h1 : n < g.nl := h1
    rw [upd_eq, upd_eq, if_neg (by omega), if_neg (by omega)]; exact h.ws n j h0 h1 h2 h3
def Gd.addL (g : Gd) (q : Int → Int) : Gd := (g.nw, g.cn, g.px, g.py, g.nl + 1, (fun n j => if n = g.nl then q j else g.wl n j), g.nt)
theorem Gd.addL_wl (g : Gd) (q : Int → Int) (n j : Int) : (g.addL q).wl n j = if n = g.nl then q j else g.wl n j := rfl
theorem Gd.Ok0.addL {g : Gd} (h : g.Ok0) (hn : g.nl < 8) {q : Int → Int} (hq : ∀ j, 0 ≤ j → j < 4 → 0 ≤ q j ∧ q j ≤ 999) : (g.addL q).Ok0 := by
  have h8 := h.2.2.2.2.1
  refine ⟨h.1, h.2.1, h.2.2.1, h.2.2.2.1, by show 0 ≤ g.nl + 1 ∧ g.nl + 1 ≤ 8; omega, fun n j h0 h1 h2 h3 => ?_, h.2.2.2.2.2.2⟩
  have h1 : n < g.nl + 1 := h1
  rw [Gd.addL_wl]
  by_cases e : n = g.nl
  · rw [if_pos e]; exact hq j h2 h3
  · rw [if_neg e]; exact h.2.2.2.2.2.1 n j h0 (by omega) h2 h3
theorem CG.addL {g : Gd} {xs ys cs ws ws' : Nat → Int32} {nw nl : Int32} (h : CG g xs ys cs ws nw nl) {q : Int → Int} (h1 : ∀ j, 0 ≤ j → j < 4 → ws' (g.nl * 4 + j).toNat = zI (q j)) (h2 : ∀ k : Nat, (k : Int) < g.nl * 4 → ws' k = ws k) (h0 : 0 ≤ g.nl) : CG (g.addL q) xs ys cs ws' nw (zI (g.nl + 1)) := by
  refine ⟨h.1, rfl, h.2.2.1, h.2.2.2.1, h.2.2.2.2.1, fun n j a b c d => ?_⟩
  have b : n < g.nl + 1 := b
  rw [Gd.addL_wl]
  by_cases e : n = g.nl
  · rw [if_pos e, e]; exact h1 j c d
  · rw [if_neg e, h2 _ (by omega)]; exact h.ws n j a (by omega) c d
theorem WG.addL {g : Gd} {v v' : Nat → Int32} (hg : g.Ok0) (h : WG g v) {q : Int → Int} (h1 : ∀ j, 0 ≤ j → j < 4 → v' (746 + 4 * g.nl + j).toNat = zI (q j)) (h2 : ∀ k : Nat, (k ≠ 1 ∧ ((k : Int) < 746 + 4 * g.nl ∨ 778 ≤ k)) → v' k = v k) (h3 : v' 1 = zI (g.nl + 1)) : WG (g.addL q) v' := by
  have h12 := hg.1
  have h8 := hg.2.2.2.2.1
  refine ⟨by rw [h2 0 (by omega)]; exact h.nw, h3, by rw [h2 2 (by omega)]; exact h.nt, fun a b c => ?_, fun a c a1 a2 a3 a4 => ?_, fun a c a1 a2 a3 a4 => ?_, fun n j a b c d => ?_⟩
  · have c : a < g.nw := c
    rw [h2 _ (by omega)]; exact h.cs a b c
  · have a2 : a < g.nw := a2
    have := hg.2.1 a a1 a2
    have a4 : c < g.cn a := a4
    rw [h2 _ (by omega)]; exact h.xs a c a1 a2 a3 a4
  · have a2 : a < g.nw := a2
    have := hg.2.1 a a1 a2
    have a4 : c < g.cn a := a4
    rw [h2 _ (by omega)]; exact h.ys a c a1 a2 a3 a4
  · have b : n < g.nl + 1 := b
    rw [Gd.addL_wl]
    by_cases e : n = g.nl
    · rw [if_pos e, e]; exact h1 j c d
    · rw [if_neg e, h2 _ (by omega)]; exact h.ws n j a (by omega) c d
