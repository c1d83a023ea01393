def LawS (Ls : List Ln) (os : Nat → Int32) (sz ln : Int32) (w : Nat → Int32) : Prop := LwC Ls os sz ∧ LwH Ls w ∧ ((w 3 = 1 ∧ ln = zI (Ls.length : Int)) ∨ (w 3 = 0 ∧ ln = -1))
def StrollR (g : Gd) (s : tX7) (w tk : Nat → Int32) (rm sd : Int32) : Prop :=
  (aS_underWay s = 0 ∧ w 6 = 0 ∧ rm = 0) ∨ (aS_underWay s = 1 ∧ ∃ (a o l : Int) (z : Lv), (-2147483648 ≤ l ∧ l < 2147483648) ∧ LvOk g a o z ∧ WkR g a o l w w z tk ∧ s = (1, zI a, zI o, zI l, zI z.m, zI z.d, zI z.n, z.gr, zI z.r, z.st, z.ga) ∧ rm = zI z.r ∧ sd = z.sd)
def GrR (g : Gd) (G : tX1) (w : Nat → Int32) : Prop := g.Ok ∧ CG g (aG_xs G) (aG_ys G) (aG_counts G) (aG_walls G) (aG_ways G) (aG_wallCount G) ∧ aG_texts G = zI g.nt ∧ WG g w
def MkR (k : Mk) (M : tX3) (w : Nat → Int32) : Prop := k.Ok ∧ CM k (aK_minutes M) (aK_xs M) (aK_ys M) (aK_whose M) (aK_size M) ∧ WM k w
def SceneR (G : tX1) (os : Nat → Int32) (sz ln : Int32) (M : tX3) (s : tX7) (sd : Int32) (w tk : Nat → Int32) (rm : Int32) : Prop := ∃ (g : Gd) (k : Mk) (Ls : List Ln), GrR g G w ∧ LawS Ls os sz ln w ∧ MkR k M w ∧ sd = w 5 ∧ StrollR g s w tk rm sd
def TapeR (by' : Nat → Int32) (sz : Int32) (tp : Nat → Int32) (td : Int32) : Prop := tp = by' ∧ td = sz ∧ (∃ n : Nat, n ≤ 400 ∧ sz = zI (n : Int)) ∧ ∀ k, -128 ≤ (by' k).toInt ∧ (by' k).toInt ≤ 127
def ImgR (c : tX6) (im : Nat → Int32) : Prop := ∃ tk, SceneR (aC_ground c) (aL_orders (aC_law c)) (aL_size (aC_law c)) (aL_lines (aC_law c)) (aC_marks c) (aC_stroll c) (aC_drawSeed c) im tk 0
def InvP (by' : Nat → Int32) (sz : Int32) (G : tX1) (os : Nat → Int32) (lz ln : Int32) (M : tX3) (s : tX7) (sd : Int32) (kp : tX6) (ik wb : Int32) (w im : Nat → Int32) (hi : Int32) (tk : Nat → Int32) (rm : Int32) (tp : Nat → Int32) (td fa : Int32) : Prop :=
  TapeR by' sz tp td ∧ SceneR G os lz ln M s sd w tk rm ∧ wb = fa ∧ ((ik = 0 ∧ hi = 0) ∨ (ik = 1 ∧ hi = 1 ∧ ImgR kp im))
def Inv (u : tX10) (v : tX11) : Prop :=
  InvP u.1.1 u.1.2.1 u.2.1.1 u.2.1.2.1.1 u.2.1.2.1.2.2.1 u.2.1.2.1.2.2.2 u.2.1.2.2.1 u.2.1.2.2.2.1 u.2.1.2.2.2.2 u.2.2.1 u.2.2.2.2.2.2.2.2.2.1 u.2.2.2.2.2.2.2.2.2.2 v.2.1 v.2.2.1 v.2.2.2.2.1 v.2.2.2.2.2.1 v.2.2.2.2.2.2.1 v.2.2.2.2.2.2.2.1 v.2.2.2.2.2.2.2.2.1 v.2.2.2.2.2.2.2.2.2.2.2.2.2.1
def gd0 : Gd := (0, (fun _ => 0), (fun _ _ => 0), (fun _ _ => 0), 0, (fun _ _ => 0), 0)
def mk0 : Mk := (0, (fun _ => 0), (fun _ => 0), (fun _ => 0), (fun _ => 0))
theorem inv0 : Inv u00 v00 := by
  refine ⟨⟨rfl, rfl, ⟨0, by decide, rfl⟩, fun k => by show -128 ≤ (0 : Int32).toInt ∧ (0 : Int32).toInt ≤ 127; decide⟩, ⟨gd0, mk0, [], ?_, ?_, ?_, rfl, Or.inl ⟨rfl, rfl, rfl⟩⟩, rfl, Or.inl ⟨rfl, rfl⟩⟩
  · have no : ∀ {w : Int}, 0 ≤ w → ¬ w < (0 : Int) := fun h => by omega
    refine ⟨⟨by decide, fun w a b => absurd b (no a), fun w c a b => absurd b (no a), fun w c a b => absurd b (no a), by decide, fun n j a b => absurd b (no a), by decide⟩, ⟨rfl, rfl, fun w a b => absurd b (no a), fun w c a b => absurd b (no a), fun w c a b => absurd b (no a), fun n j a b => absurd b (no a)⟩, rfl, ⟨rfl, rfl, rfl, fun w a b => absurd b (no a), fun w c a b => absurd b (no a), fun w c a b => absurd b (no a), fun n j a b => absurd b (no a)⟩⟩
  · exact ⟨⟨[], rfl, by decide, fun k hk => absurd hk (Nat.not_lt_zero k), CL.nil⟩, Or.inr ⟨rfl, rfl⟩, Or.inr ⟨rfl, rfl⟩⟩
  · have no : ∀ {w : Int}, 0 ≤ w → ¬ w < (0 : Int) := fun h => by omega
    exact ⟨⟨by decide, fun a b c => absurd c (no b)⟩, ⟨rfl, fun a b c => absurd c (no b)⟩, ⟨rfl, fun a b c => absurd c (no b)⟩⟩
theorem nI_p {i L : Nat} (h : i + 6 ≤ L) (hL : L ≤ 3072) {j : Nat} (hj : j < 6) : vp_in (nI i + zI (j : Int)) L := by
  rw [zI_nI, zN_add]; exact zN_in (by omega)
theorem nI_6 (i : Nat) : nI i + 6 = nI (i + 6) := by
  rw [zI_nI, zI_nI]; exact zN_add i 6
theorem case_default : caseOk Inv wpL_2345 := by
  intro L xs kk u v o i hL hi hI hk v1 e1
  rw [e1, nI_6]
  exact hk _ _ _ hI
theorem case_fault : caseOk Inv wpL_390 := by
  intro L xs kk u v o i hL hi hI hk
  obtain ⟨ht, hs, hw, hm⟩ := hI
  refine ⟨fun _ v5 e5 => ?_, fun z => absurd hw z⟩
  rw [e5, nI_6]
  exact hk _ _ _ ⟨ht, hs, hw, hm⟩
theorem case_end : caseOk Inv wpL_277 := by
  intro L xs kk u v o i hL hi hI hk
  have i1 : vp_in (nI i + 1) L := nI_p hi hL (j := 1) (by decide)
  obtain ⟨⟨ht1, ht2, ⟨n, hn, hn2⟩, ht4⟩, hs, hw, hm⟩ := hI
  refine ⟨i1, ?_⟩
  unfold wpX10_end wpX11_end
  obtain ⟨z, ez, hz1, hz2⟩ := zI_of (xs (nI i + 1).toNatClampNeg)
  rw [ez, ht2]
  have same : Inv u v → True := fun _ => trivial
  refine ⟨fun h => ⟨i1, fun _ => ⟨fun _ v5 e5 => ?_, fun q => absurd rfl q⟩, fun q => absurd h q⟩, fun h => ⟨fun h2 => ⟨i1, fun q => absurd q h, fun _ => ⟨fun _ => ⟨fun _ v5 e5 => ?_, fun q => absurd rfl q⟩, fun q => absurd h2 q⟩⟩, fun h2 => ⟨i1, fun q => absurd q h, fun _ => ⟨fun q => absurd q h2, fun _ => ⟨fun _ v5 e5 => ?_, fun q => absurd rfl q⟩⟩⟩⟩⟩
  · rw [e5, nI_6]; exact hk _ _ _ ⟨⟨ht1, rfl, ⟨n, hn, hn2⟩, ht4⟩, hs, hw, hm⟩
  · rw [e5, nI_6]
    rw [show (0 : Int32) = zI 0 from rfl, zI_lt (by omega)] at h
    rw [hn2, zI_le (by omega)] at h2
    refine hk _ _ _ ⟨⟨ht1, rfl, ⟨z.toNat, by omega, ?_⟩, ht4⟩, hs, hw, hm⟩
    show zI z = zI _
    congr 1; omega
  · rw [e5, nI_6]; exact hk _ _ _ ⟨⟨ht1, rfl, ⟨n, hn, hn2⟩, ht4⟩, hs, hw, hm⟩
