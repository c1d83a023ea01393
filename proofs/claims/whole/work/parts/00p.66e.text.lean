def fby (p : Nat → Int32) (x : Nat) : Int32 := vp_nar .byte ((p (x / 4)) >>> (zI (24 - 8 * ((x % 4 : Nat) : Int)) &&& 31)).toInt8.toInt32
def fd (f p : Nat → Int32) (n : Nat) : Nat → Nat → Int32
  | 0 => f
  | x + 1 => upd (fd f p n x) (n + x) (fby p x)
theorem fby_bd (p : Nat → Int32) (x : Nat) : -128 ≤ (fby p x).toInt ∧ (fby p x).toInt ≤ 127 := by
  unfold fby
  generalize ((p (x / 4)) >>> (zI (24 - 8 * ((x % 4 : Nat) : Int)) &&& 31)).toInt8 = y
  have h1 := y.toInt_lt
  have h2 := y.le_toInt
  have e : vp_nar .byte y.toInt32 = y.toInt32 := by
    show y.toInt32.toInt8.toInt32 = y.toInt32
    simp
  rw [e]
  have : y.toInt32.toInt = y.toInt := by simp
  rw [this]
  constructor
  · simpa using h2
  · have : y.toInt < 128 := by simpa using h1
    omega
theorem fd_bd {f p : Nat → Int32} {n : Nat} (h : ∀ k, -128 ≤ (f k).toInt ∧ (f k).toInt ≤ 127) : ∀ x k, -128 ≤ (fd f p n x k).toInt ∧ (fd f p n x k).toInt ≤ 127 := by
  intro x
  induction x with
  | zero => exact h
  | succ x ih =>
    intro k
    show -128 ≤ (upd (fd f p n x) (n + x) (fby p x) k).toInt ∧ (upd (fd f p n x) (n + x) (fby p x) k).toInt ≤ 127
    rw [upd_eq]
    by_cases e : k = n + x
    · rw [if_pos e]; exact fby_bd p x
    · rw [if_neg e]; exact ih k
theorem sp_app3 {post : (Int32 × (Nat → Int32)) → Prop} {f : Nat → Int32} {m k : Nat} {r : Int} {p : Int32} (hr : 0 ≤ r ∧ r ≤ 24) (hm : m < 400)
    (h : wpX8_append_3 post k (zI ((m + 1 : Nat) : Int)) (upd f m (vp_nar .byte ((p >>> (zI r &&& 31)).toInt8.toInt32))) p (zI (r - 8))) : wpX8_append_3 post (k + 1) (zI (m : Int)) f p (zI r) := by
  unfold wpX8_append_3
  rw [show (0 : Int32) = zI 0 from rfl, zI_lt (by omega), show (400 : Int32) = zI ((400 : Nat) : Int) from rfl, zN_le (by omega), zN (by omega), zS]
  refine ⟨fun z => absurd z (by omega), fun _ => ⟨fun z => absurd z (by omega), fun _ => ⟨zN_in (by omega), fun v1 e1 v2 e2 => ?_⟩⟩⟩
  rw [e1, e2, show (-8 : Int32) = zI (-8) from rfl, zI_add]
  exact h
theorem sp_append {post : (Int32 × (Nat → Int32)) → Prop} {f p : Nat → Int32} {n q : Nat} (h : n + 4 * q + 4 ≤ 400)
    (hp : post (zI ((n + 4 * (q + 1) : Nat) : Int), fd f p n (4 * (q + 1)))) : wpX8_append post (zI ((n + 4 * q : Nat) : Int)) (fd f p n (4 * q)) (p q) := by
  have e : ∀ r : Nat, r < 4 → vp_nar .byte ((p q >>> (zI (24 - 8 * (r : Int)) &&& 31)).toInt8.toInt32) = fby p (4 * q + r) := by
    intro r hr
    unfold fby
    rw [show (4 * q + r) / 4 = q by omega, show (4 * q + r) % 4 = r by omega]
  have e0 := e 0 (by omega)
  have e1 := e 1 (by omega)
  have e2 := e 2 (by omega)
  have e3 := e 3 (by omega)
  unfold wpX8_append
  refine ⟨5, ?_⟩
  refine sp_app3 (m := n + 4 * q) (r := 24) (by omega) (by omega) ?_
  refine sp_app3 (m := n + 4 * q + 1) (r := 16) (by omega) (by omega) ?_
  refine sp_app3 (m := n + 4 * q + 2) (r := 8) (by omega) (by omega) ?_
  refine sp_app3 (m := n + 4 * q + 3) (r := 0) (by omega) (by omega) ?_
  unfold wpX8_append_3
  refine ⟨fun _ => ?_, fun z => absurd (by decide) z⟩
  have q1 : vp_nar .byte ((p q >>> (zI 24 &&& 31)).toInt8.toInt32) = fby p (4 * q) := e0
  have q2 : vp_nar .byte ((p q >>> (zI 16 &&& 31)).toInt8.toInt32) = fby p (4 * q + 1) := e1
  have q3 : vp_nar .byte ((p q >>> (zI 8 &&& 31)).toInt8.toInt32) = fby p (4 * q + 2) := e2
  have q4 : vp_nar .byte ((p q >>> (zI 0 &&& 31)).toInt8.toInt32) = fby p (4 * q + 3) := e3
  rw [q1, q2, q3, q4]
  exact hp
theorem sr_feed60 {post : Int32 → (Int32 × Int32 × (Nat → Int32) × (Nat → Int32)) → Prop} {t : Int32} {f1 f : Nat → Int32} {n : Nat} (h : n + 20 ≤ 400) (hp : post (zI ((n + 20 : Nat) : Int)) (t, zI ((n + 20 : Nat) : Int), f1, fd f f1 n 20)) :
    ∀ k x : Nat, x + k = 20 → wpX11_feed_60 post (k + 1) t (zI (n : Int)) f1 (fd f f1 n x) (zI (x : Int)) := by
  intro k
  induction k with
  | zero =>
    intro x e
    have e : x = 20 := by omega
    subst e
    unfold wpX11_feed_60
    refine ⟨fun _ v1 e1 => ?_, fun z => absurd (by decide) z⟩
    rw [e1, show (20 : Int32) = zI ((20 : Nat) : Int) from rfl, zN_add]
    exact hp
  | succ k ih =>
    intro x e
    unfold wpX11_feed_60
    rw [show (20 : Int32) = zI ((20 : Nat) : Int) from rfl, zN_le (by omega), zN_add, zN_add, zN (by omega), zS]
    have hv : (zI (x : Int)) / 4 = zI ((x / 4 : Nat) : Int) ∧ zI (24 - 8 * ((x % 4 : Nat) : Int)) = 24 - (8 * (zI (x : Int) - zI ((x / 4 : Nat) : Int) * 4)) := by
      have hx : x < 20 := by omega
      clear ih e hp h
      revert hx
      revert x
      decide
    refine ⟨fun z => absurd z (by omega), fun _ => ⟨?_, zN_in (by omega), fun v2 e2 => ?_⟩⟩
    · rw [hv.1]; exact zN_in (by omega)
    · rw [e2, hv.1, ← hv.2, zN (by omega)]
      exact ih (x + 1) (by omega)
theorem case_feed : caseOk Inv wpL_204 := by
  intro L xs kk u v o i hL hi hI hk
  have i1 : vp_in (nI i + 1) L := nI_p hi hL (j := 1) (by decide)
  have i2 : vp_in (nI i + 2) L := nI_p hi hL (j := 2) (by decide)
  have i3 : vp_in (nI i + 3) L := nI_p hi hL (j := 3) (by decide)
  have i4 : vp_in (nI i + 4) L := nI_p hi hL (j := 4) (by decide)
  have i5 : vp_in (nI i + 5) L := nI_p hi hL (j := 5) (by decide)
  obtain ⟨⟨ht1, ht2, ⟨n, hn, hn2⟩, ht4⟩, hs, hw, hm⟩ := hI
  unfold wpL_204
  generalize xs (nI i + 1).toNatClampNeg = a1
  generalize xs (nI i + 2).toNatClampNeg = a2
  generalize xs (nI i + 3).toNatClampNeg = a3
  generalize xs (nI i + 4).toNatClampNeg = a4
  generalize xs (nI i + 5).toNatClampNeg = a5
  refine ⟨i1, i2, i3, i4, i5, ?_⟩
  unfold wpX10_feed wpX11_feed wpX8_hasRoomFor
  rw [ht2, ht1, hn2, show (20 : Int32) = zI ((20 : Nat) : Int) from rfl, zN_add, show (400 : Int32) = zI ((400 : Nat) : Int) from rfl, zN_lt (by omega), zN_le (by omega)]
  refine ⟨fun hf => ⟨fun z => absurd rfl z, fun _ => ?_⟩, fun hf => ⟨fun _ => ?_, fun z => absurd z (by decide)⟩⟩
  · refine ⟨i1, i2, i3, i4, i5, fun z => absurd z (by omega), fun _ => ?_⟩
    refine tl_eq rfl (tl_6 (hk _ _ _ ⟨⟨rfl, rfl, ⟨n, hn, rfl⟩, ht4⟩, hs, hw, hm⟩))
  · let P : Nat → Int32 := upd (upd (upd (upd (upd v.2.2.2.2.2.2.2.2.2.2.2.2.2.2.1 0 a1) 1 a2) 2 a3) 3 a4) 4 a5
    refine sp_append (f := u.1.1) (p := P) (n := n) (q := 0) (by omega) ?_
    refine sp_append (f := u.1.1) (p := P) (n := n) (q := 1) (by omega) ?_
    refine sp_append (f := u.1.1) (p := P) (n := n) (q := 2) (by omega) ?_
    refine sp_append (f := u.1.1) (p := P) (n := n) (q := 3) (by omega) ?_
    refine sp_append (f := u.1.1) (p := P) (n := n) (q := 4) (by omega) ?_
    refine ⟨i1, i2, i3, i4, i5, fun _ => ⟨vin (by decide), vin (by decide), vin (by decide), vin (by decide), vin (by decide), 20 + 1, ?_⟩, fun z => absurd (show n + 20 ≤ 400 by omega) z⟩
    refine sr_feed60 (f1 := P) (f := u.1.1) (n := n) (by omega) ?_ 20 0 rfl
    exact tl_eq rfl (tl_6 (hk _ _ _ ⟨⟨rfl, rfl, ⟨n + 20, by omega, rfl⟩, fd_bd ht4 20⟩, hs, hw, hm⟩))
theorem WG.fr {g : Gd} {w w' : Nat → Int32} (g1 : g.Ok) (g4 : WG g w) (hf : ∀ j : Nat, j < 3 ∨ (14 ≤ j ∧ j < 778) → w' j = w j) : WG g w' := by
  have h12 := g1.nw
  have h8 := g1.nl
  refine ⟨(hf 0 (by omega)).trans g4.1, (hf 1 (by omega)).trans g4.2.1, (hf 2 (by omega)).trans g4.2.2.1, fun w a b => ?_, fun w c a b d e => ?_, fun w c a b d e => ?_, fun n j a b d e => ?_⟩
  · rw [hf _ (by omega)]; exact g4.cs w a b
  · have := g1.cn w a b; rw [hf _ (by omega)]; exact g4.xs w c a b d e
  · have := g1.cn w a b; rw [hf _ (by omega)]; exact g4.ys w c a b d e
  · rw [hf _ (by omega)]; exact g4.ws n j a b d e
theorem case_law : caseOk Inv wpL_346 := by
  intro L xs kk u v o i hL hi hI hk
  obtain ⟨⟨ht1, ht2, ⟨n, hn, hn2⟩, ht4⟩, ⟨g, k, Ls, hgr, hla, ⟨hmk, hcm, hwm⟩, hsd, hst⟩, hwb, himg⟩ := hI
  obtain ⟨t, hC, hR, hS⟩ := lawText (B := u.1.1) hn
  unfold wpL_346 wpL_law
  rw [ht2, ht1, hn2]
  refine sp_law_of hC hS (fun ht ds dl df th tb td tv sz' os' hlc => ⟨vin (by decide), ?_⟩) (fun ht ds dl df tb td tv => ⟨fun _ => ?_, rfl⟩)
  · refine sr_law_of hR hS (fun _ q' bg' dp' st' v' hlr hf h3 h6 => ?_) (fun z => absurd (ht.symm.trans z) (by decide))
    refine tl_val rfl (lgs o _) (tl_6 (hk _ _ _ ⟨⟨rfl, rfl, ⟨0, by decide, rfl⟩, ht4⟩, ⟨g, k, t.2.2.2, ?_, ⟨hlc, Or.inl ⟨h3, hlr⟩, Or.inl ⟨h3, rfl⟩⟩, ⟨hmk, hcm, hwm.fr hmk (fun j hj => hf j (by omega) (by omega) (by omega))⟩, hsd.trans (hf 5 (by omega) (by omega) (by omega)).symm, Or.inl ⟨rfl, h6, rfl⟩⟩, rfl, himg⟩))
    exact ⟨hgr.1, hgr.2.1, hgr.2.2.1, hgr.2.2.2.fr hgr.1 (fun j hj => hf j (by omega) (by omega) (by omega))⟩
  · refine sr_law_of hR hS (fun z => absurd (ht.symm.trans z) (by decide)) (fun _ q' dp' s' v' hf => ?_)
    refine tl_thr rfl (by decide) (tl_6 (hk _ _ _ ⟨⟨rfl, rfl, ⟨0, by decide, rfl⟩, ht4⟩, ⟨g, k, Ls, ?_, hla.fr (fun j hj => hf j (by omega)), ⟨hmk, hcm, hwm.fr hmk (fun j hj => hf j (by omega))⟩, hsd.trans (hf 5 (by omega)).symm, hst.fr (fun j hj => hf j (by omega))⟩, rfl, himg⟩))
    exact ⟨hgr.1, hgr.2.1, hgr.2.2.1, hgr.2.2.2.fr hgr.1 (fun j hj => hf j (by omega))⟩
theorem Gd.tick_ok {g : Gd} (h : g.Ok) (hn : g.nt < 16) : g.tick.Ok := ⟨h.1, h.2.1, h.2.2.1, h.2.2.2.1, h.2.2.2.2.1, h.2.2.2.2.2.1, by have := h.nt; show 0 ≤ g.nt + 1 ∧ g.nt + 1 ≤ 16; omega⟩
theorem case_park : caseOk Inv wpL_302 := by
  intro L xs kk u v o i hL hi hI hk
  obtain ⟨⟨ht1, ht2, ⟨n, hn, hn2⟩, ht4⟩, ⟨g, k, Ls, ⟨hg, hc, hnt, hv⟩, hla, ⟨hmk, hcm, hwm⟩, hsd, hst⟩, hwb, himg⟩ := hI
  obtain ⟨r, hr⟩ := parkText (B := u.1.1) hn hg
  have hS := hr.2.2
  unfold wpL_302 wpL_park
  rw [ht2, ht1, hn2, show u.2.1.1.2.2.2.2.1 = zI g.nw from hc.nw, show u.2.1.1.2.2.2.2.2.1 = zI g.nl from hc.nl, show u.2.1.1.2.2.2.2.2.2 = zI g.nt from hnt]
  have hc' : CG g u.2.1.1.1 u.2.1.1.2.1 u.2.1.1.2.2.1 u.2.1.1.2.2.2.1 (zI g.nw) (zI g.nl) := by
    have := hc
    rw [hc.nw, hc.nl] at this
    exact this
  refine sp_park_of hg hc' hr (fun h1 h2 xs' ys' cs' ws' da db dc dx dy dcs dw t1 t2 t3 t4 hC => ⟨vin (by decide), ?_⟩) (fun h1 h2 da db dc dx dy dcs dw t1 t2 t3 t4 => ⟨fun z => absurd z (by decide), fun _ => ?_, Or.inr rfl⟩) (fun h1 da db dc dx dy dcs dw t1 t2 t3 t4 => ⟨fun _ => ?_, fun z => absurd z (by decide), Or.inl rfl⟩)
  · refine sr_park_of hg hv hr (fun _ _ q' bg' dp' st' v' bf' hv' hf h6 => ?_) (fun _ z => absurd h2 z) (fun z => absurd (h1.symm.trans z) (by decide))
    have gs := hS h1
    refine tl_val rfl (lgs o _) (tl_6 (hk _ _ _ ⟨⟨rfl, rfl, ⟨0, by decide, rfl⟩, ht4⟩, ⟨r.2.2.tick, k, Ls, ⟨Gd.tick_ok gs.1 (by rw [gs.2]; exact h2), hC, ?_, hv'⟩, hla.fr (fun j hj => hf j (by omega)), ⟨hmk, hcm, hwm.fr hmk (fun j hj => hf j (by omega))⟩, hsd.trans (hf 5 (by omega)).symm, Or.inl ⟨rfl, h6, rfl⟩⟩, rfl, himg⟩))
    show zI (g.nt + 1) = zI (r.2.2.nt + 1)
    rw [gs.2]
  · refine sr_park_of hg hv hr (fun _ z => absurd z h2) (fun _ _ q' bg' dp' st' v' bf' hf => ?_) (fun z => absurd (h1.symm.trans z) (by decide))
    exact tl_thr rfl (by decide) (tl_6 (hk _ _ _ ⟨⟨rfl, rfl, ⟨0, by decide, rfl⟩, ht4⟩, ⟨g, k, Ls, ⟨hg, hc', rfl, hv.fr hg (fun j hj => hf j (by omega))⟩, hla.fr (fun j hj => hf j (by omega)), ⟨hmk, hcm, hwm.fr hmk (fun j hj => hf j (by omega))⟩, hsd.trans (hf 5 (by omega)).symm, hst.fr (fun j hj => hf j (by omega))⟩, rfl, himg⟩))
  · refine sr_park_of hg hv hr (fun z => absurd (h1.symm.trans z) (by decide)) (fun z => absurd (h1.symm.trans z) (by decide)) (fun _ q' bg' dp' st' v' bf' hf => ?_)
    exact tl_thr rfl (by decide) (tl_6 (hk _ _ _ ⟨⟨rfl, rfl, ⟨0, by decide, rfl⟩, ht4⟩, ⟨g, k, Ls, ⟨hg, hc', rfl, hv.fr hg (fun j hj => hf j (by omega))⟩, hla.fr (fun j hj => hf j (by omega)), ⟨hmk, hcm, hwm.fr hmk (fun j hj => hf j (by omega))⟩, hsd.trans (hf 5 (by omega)).symm, hst.fr (fun j hj => hf j (by omega))⟩, rfl, himg⟩))
