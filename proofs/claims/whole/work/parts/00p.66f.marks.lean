def Mk.pop (k : Mk) : Mk := (k.n - 1, k.wh, k.mi, k.x, k.y)
theorem WM.add {k : Mk} {v : Nat → Int32} (hk : k.Ok) (hn : k.n < 20) (hv : WM k v) (q a b c : Int) : WM (k.add q a b c) (upd (upd (upd (upd (upd v (778 + 4 * k.n).toNat (zI q)) (778 + 4 * k.n + 1).toNat (zI a)) (778 + 4 * k.n + 2).toNat (zI b)) (778 + 4 * k.n + 3).toNat (zI c)) 4 (zI (k.n + 1))) := by
  have h0 := hk.1.1
  refine ⟨rfl, fun j h1 h2 => ?_⟩
  have h2 : j < k.n + 1 := h2
  show _ = zI (if j = k.n then q else k.wh j) ∧ _ = zI (if j = k.n then a else k.mi j) ∧ _ = zI (if j = k.n then b else k.x j) ∧ _ = zI (if j = k.n then c else k.y j)
  by_cases e : j = k.n
  · subst e
    rw [if_pos rfl, if_pos rfl, if_pos rfl, if_pos rfl]
    refine ⟨?_, ?_, ?_, ?_⟩
    · rw [upd_eq, if_neg (by omega), upd_eq, if_neg (by omega), upd_eq, if_neg (by omega), upd_eq, if_neg (by omega), upd_eq, if_pos rfl]
    · rw [upd_eq, if_neg (by omega), upd_eq, if_neg (by omega), upd_eq, if_neg (by omega), upd_eq, if_pos rfl]
    · rw [upd_eq, if_neg (by omega), upd_eq, if_neg (by omega), upd_eq, if_pos rfl]
    · rw [upd_eq, if_neg (by omega), upd_eq, if_pos rfl]
  · rw [if_neg e, if_neg e, if_neg e, if_neg e]
    have hh := hv.2 j h1 (by omega)
    refine ⟨?_, ?_, ?_, ?_⟩
    · rw [upd_eq, if_neg (by omega), upd_eq, if_neg (by omega), upd_eq, if_neg (by omega), upd_eq, if_neg (by omega), upd_eq, if_neg (by omega)]; exact hh.1
    · rw [upd_eq, if_neg (by omega), upd_eq, if_neg (by omega), upd_eq, if_neg (by omega), upd_eq, if_neg (by omega), upd_eq, if_neg (by omega)]; exact hh.2.1
    · rw [upd_eq, if_neg (by omega), upd_eq, if_neg (by omega), upd_eq, if_neg (by omega), upd_eq, if_neg (by omega), upd_eq, if_neg (by omega)]; exact hh.2.2.1
    · rw [upd_eq, if_neg (by omega), upd_eq, if_neg (by omega), upd_eq, if_neg (by omega), upd_eq, if_neg (by omega), upd_eq, if_neg (by omega)]; exact hh.2.2.2
theorem sr_mark {post : Int32 → (Int32 × (Nat → Int32)) → Prop} {k : Mk} {v : Nat → Int32} {t p0 : Int32} {a b c : Int} (hk : k.Ok) (hv : WM k v)
    (ha : -2147483648 ≤ a ∧ a < 2147483648) (hb : -2147483648 ≤ b ∧ b < 2147483648) (hd : -2147483648 ≤ c ∧ c < 2147483648)
    (x1 : ¬ okm a b c → post 0 (1, v)) (x2 : okm a b c → ¬ k.n < 20 → post 0 (2, v))
    (hp : okm a b c → k.n < 20 → ∀ v', WM (k.add (if p0 = 0 then 0 else 1) a b c) v' → (∀ j : Nat, j ≠ 4 → ¬ (778 ≤ j ∧ j < 858) → v' j = v j) → post (zI k.n) (0, v')) : wpX11_mark post t v p0 (zI a) (zI b) (zI c) := by
  have h20 := hk.1
  have e4 : v (4 : Int32).toNatClampNeg = zI k.n := hv.1
  have i4 : vp_in 4 2508 := zI_in (a := 4) (by omega)
  have c40 : ¬ okm a b c → wpX11_mark_40 post 0 v p0 (zI a) (zI b) (zI c) := by
    intro h
    unfold wpX11_mark_40 wpX11_mark_45
    exact sr_thr1 ⟨fun _ => x1 h, fun z => absurd z (by decide)⟩
  have c107 : okm a b c → k.n < 20 → ∀ (v3 s : Int32) (q : Int), v3 = zI (778 + 4 * k.n) → s = zI q → q = (if p0 = 0 then 0 else 1) → wpX11_mark_107 post 0 v (zI a) (zI b) (zI c) v3 v3 s := by
    intro ho hn v3 s q e5 es eq
    have p1 : zI (778 + 4 * k.n) + 1 = zI (778 + 4 * k.n + 1) := zI_add _ 1
    have p2 : zI (778 + 4 * k.n) + 2 = zI (778 + 4 * k.n + 2) := zI_add _ 2
    have p3 : zI (778 + 4 * k.n) + 3 = zI (778 + 4 * k.n + 3) := zI_add _ 3
    have w4 : upd (upd (upd (upd v (778 + 4 * k.n).toNat (zI q)) (778 + 4 * k.n + 1).toNat (zI a)) (778 + 4 * k.n + 2).toNat (zI b)) (778 + 4 * k.n + 3).toNat (zI c) (4 : Int32).toNatClampNeg = zI k.n := by
      show upd _ _ _ 4 = _
      rw [upd_eq, if_neg (by omega), upd_eq, if_neg (by omega), upd_eq, if_neg (by omega), upd_eq, if_neg (by omega)]
      exact hv.1
    have q1 : zI k.n + 1 = zI (k.n + 1) := zI_add _ 1
    have q2 : zI (k.n + 1) - 1 = zI k.n := by
      rw [show (1 : Int32) = zI 1 from rfl, zI_sub]; congr 1; omega
    unfold wpX11_mark_107
    rw [es, e5, p1, p2, p3, zI_nat (by omega), zI_nat (by omega), zI_nat (by omega), zI_nat (by omega), w4, q1]
    refine ⟨zI_in (by omega), zI_in (by omega), zI_in (by omega), zI_in (by omega), i4, i4, i4, ?_⟩
    show post (zI (k.n + 1) - 1) _
    rw [q2]
    refine hp ho hn _ ?_ (fun j h1 h2 => ?_)
    · rw [← eq]; exact WM.add hk hn hv q a b c
    · show upd _ 4 _ j = v j
      rw [upd_eq, if_neg h1, upd_eq, if_neg (by omega), upd_eq, if_neg (by omega), upd_eq, if_neg (by omega), upd_eq, if_neg (by omega)]
  unfold wpX11_mark
  rw [show (999 : Int32) = zI 999 from rfl]
  refine sr_in (m := 0) ha (by omega) (by omega) (fun h1 => ⟨fun h => absurd h (by decide), fun _ => ?_⟩) (fun h => ⟨fun _ => c40 (fun h' => h h'.1), fun h => absurd rfl h⟩)
  refine sr_in (m := 0) hb (by omega) (by omega) (fun h2 => ⟨fun h => absurd h (by decide), fun _ => ?_⟩) (fun h => ⟨fun _ => c40 (fun h' => h h'.2.1), fun h => absurd rfl h⟩)
  refine sr_in (m := 0) hd (by omega) (by omega) (fun h3 => ⟨fun _ => ?_, fun h => absurd h (by decide)⟩) (fun h => ⟨fun h => absurd rfl h, fun _ => c40 (fun h' => h h'.2.2)⟩)
  unfold wpX11_mark_45
  refine sr_thr0 ⟨fun z => absurd rfl z, fun _ => ⟨i4, ?_⟩⟩
  rw [e4, show (20 : Int32) = zI 20 from rfl, zI_eq (by omega)]
  refine ⟨fun hne => ?_, fun he => ?_⟩
  · unfold wpX11_mark_69
    refine sr_thr0 ⟨fun _ => ⟨i4, fun v3 e3 => ?_⟩, fun z => absurd rfl z⟩
    rw [e4] at e3
    have e5 : v3 = zI (778 + 4 * k.n) := by
      rw [e3, show (778 : Int32) = zI 778 from rfl, show (4 : Int32) = zI 4 from rfl, zI_mul, zI_add]
    refine ⟨fun hp0 => c107 ⟨h1, h2, h3⟩ (by omega) v3 0 0 e5 rfl (by rw [if_pos hp0]), fun hp0 => c107 ⟨h1, h2, h3⟩ (by omega) v3 1 1 e5 rfl (by rw [if_neg hp0])⟩
  · unfold wpX11_mark_69
    exact sr_thr1 ⟨fun z => absurd z (by decide), fun _ => x2 ⟨h1, h2, h3⟩ (by omega)⟩
theorem case_mark : caseOk Inv wpL_1773 := by
  intro L xs kk u v o i hL hi hI hk
  have i1 : vp_in (nI i + 1) L := nI_p hi hL (j := 1) (by decide)
  have i2 : vp_in (nI i + 2) L := nI_p hi hL (j := 2) (by decide)
  have i3 : vp_in (nI i + 3) L := nI_p hi hL (j := 3) (by decide)
  have i4 : vp_in (nI i + 4) L := nI_p hi hL (j := 4) (by decide)
  obtain ⟨ht, ⟨g, k, Ls, hgr, hla, ⟨hmk, hcm, hwm⟩, hsd, hst⟩, hwb, himg⟩ := id hI
  obtain ⟨a, ea, ha⟩ := zI_of (xs (nI i + 2).toNatClampNeg)
  obtain ⟨b, eb, hb⟩ := zI_of (xs (nI i + 3).toNatClampNeg)
  obtain ⟨c, ec, hc⟩ := zI_of (xs (nI i + 4).toNatClampNeg)
  unfold wpL_1773 wpL_mark
  rw [ea, eb, ec]
  refine ⟨i1, fun e0 => ⟨i2, i3, i4, ?_⟩, fun e0 => ⟨i2, i3, i4, ?_⟩⟩
  · refine sp_mark hmk hcm ha hb hc (fun h => ⟨fun _ => ⟨i1, fun _ => ⟨i2, i3, i4, ?_⟩, fun z => absurd e0 z⟩, fun z => absurd z (by decide), Or.inl rfl⟩) (fun h1 h2 => ⟨fun z => absurd z (by decide), fun _ => ⟨i1, fun _ => ⟨i2, i3, i4, ?_⟩, fun z => absurd e0 z⟩, Or.inr rfl⟩) (fun h1 h2 => ⟨vin (by decide), i1, fun _ => ⟨i2, i3, i4, ?_⟩, fun z => absurd e0 z⟩)
    · exact sr_mark hmk hwm ha hb hc (fun _ => tl_thr rfl (by decide) (tl_6 (hk _ _ _ hI))) (fun z => absurd z h) (fun z => absurd z h)
    · exact sr_mark hmk hwm ha hb hc (fun z => absurd h1 z) (fun _ _ => tl_thr rfl (by decide) (tl_6 (hk _ _ _ hI))) (fun _ z => absurd z h2)
    · refine sr_mark hmk hwm ha hb hc (fun z => absurd h1 z) (fun _ z => absurd h2 z) (fun _ _ v' hv' hf => ?_)
      exact tl_val rfl (lgs o _) (tl_6 (hk _ _ _ ⟨ht, ⟨g, k.add (if (0 : Int32) = 0 then 0 else 1) a b c, Ls, hgr.fr (fun j hj => hf j (by omega) (by omega)), hla.fr (fun j hj => hf j (by omega) (by omega)), ⟨Mk.add_ok hmk h2 (by decide) h1, CM.add hmk hcm _ a b c, hv'⟩, hsd.trans (hf 5 (by omega) (by omega)).symm, hst.fr (fun j hj => hf j (by omega) (by omega))⟩, hwb, himg⟩))
  · refine sp_mark hmk hcm ha hb hc (fun h => ⟨fun _ => ⟨i1, fun z => absurd z e0, fun _ => ⟨i2, i3, i4, ?_⟩⟩, fun z => absurd z (by decide), Or.inl rfl⟩) (fun h1 h2 => ⟨fun z => absurd z (by decide), fun _ => ⟨i1, fun z => absurd z e0, fun _ => ⟨i2, i3, i4, ?_⟩⟩, Or.inr rfl⟩) (fun h1 h2 => ⟨vin (by decide), i1, fun z => absurd z e0, fun _ => ⟨i2, i3, i4, ?_⟩⟩)
    · exact sr_mark hmk hwm ha hb hc (fun _ => tl_thr rfl (by decide) (tl_6 (hk _ _ _ hI))) (fun z => absurd z h) (fun z => absurd z h)
    · exact sr_mark hmk hwm ha hb hc (fun z => absurd h1 z) (fun _ _ => tl_thr rfl (by decide) (tl_6 (hk _ _ _ hI))) (fun _ z => absurd z h2)
    · refine sr_mark hmk hwm ha hb hc (fun z => absurd h1 z) (fun _ z => absurd h2 z) (fun _ _ v' hv' hf => ?_)
      exact tl_val rfl (lgs o _) (tl_6 (hk _ _ _ ⟨ht, ⟨g, k.add (if (1 : Int32) = 0 then 0 else 1) a b c, Ls, hgr.fr (fun j hj => hf j (by omega) (by omega)), hla.fr (fun j hj => hf j (by omega) (by omega)), ⟨Mk.add_ok hmk h2 (by decide) h1, CM.add hmk hcm _ a b c, hv'⟩, hsd.trans (hf 5 (by omega) (by omega)).symm, hst.fr (fun j hj => hf j (by omega) (by omega))⟩, hwb, himg⟩))
theorem case_unmark : caseOk Inv wpL_1881 := by
  intro L xs kk u v o i hL hi hI hk
  obtain ⟨ht, ⟨g, k, Ls, hgr, hla, ⟨hmk, hcm, hwm⟩, hsd, hst⟩, hwb, himg⟩ := id hI
  have h20 := hmk.1
  unfold wpL_1881
  refine sp_unmark hmk hcm (fun h0 => ?_) (fun h0 => ?_)
  · exact sr_unmark hmk hwm (fun _ => tl_eq rfl (tl_6 (hk _ _ _ hI))) (fun z => absurd h0 z)
  · refine sr_unmark hmk hwm (fun z => absurd z h0) (fun _ => ?_)
    have hf : ∀ j : Nat, j ≠ 4 → upd v.2.1 4 (zI (k.n - 1)) j = v.2.1 j := fun j hj => by rw [upd_eq, if_neg hj]
    refine tl_eq rfl (tl_6 (hk _ _ _ ⟨ht, ⟨g, k.pop, Ls, hgr.fr (fun j hj => hf j (by omega)), hla.fr (fun j hj => hf j (by omega)), ⟨?_, ?_, ?_⟩, hsd.trans (hf 5 (by omega)).symm, hst.fr (fun j hj => hf j (by omega))⟩, hwb, himg⟩))
    · exact ⟨by show 0 ≤ k.n - 1 ∧ k.n - 1 ≤ 20; omega, fun j h1 h2 => hmk.2 j h1 (by have h2 : j < k.n - 1 := h2; omega)⟩
    · exact ⟨rfl, fun j h1 h2 => hcm.2 j h1 (by have h2 : j < k.n - 1 := h2; omega)⟩
    · refine ⟨rfl, fun j h1 h2 => ?_⟩
      have h2 : j < k.n - 1 := h2
      obtain ⟨q1, q2, q3, q4⟩ := hwm.2 j h1 (by omega)
      exact ⟨(hf _ (by omega)).trans q1, (hf _ (by omega)).trans q2, (hf _ (by omega)).trans q3, (hf _ (by omega)).trans q4⟩
theorem case_fits : caseOk Inv wpL_1907 := by
  intro L xs kk u v o i hL hi hI hk
  have i1 : vp_in (nI i + 1) L := nI_p hi hL (j := 1) (by decide)
  have i2 : vp_in (nI i + 2) L := nI_p hi hL (j := 2) (by decide)
  have i3 : vp_in (nI i + 3) L := nI_p hi hL (j := 3) (by decide)
  obtain ⟨ht, ⟨g, k, Ls, hgr, hla, ⟨hmk, hcm, hwm⟩, hsd, hst⟩, hwb, himg⟩ := id hI
  obtain ⟨a, ea, ha⟩ := zI_of (xs (nI i + 1).toNatClampNeg)
  obtain ⟨b, eb, hb⟩ := zI_of (xs (nI i + 2).toNatClampNeg)
  unfold wpL_1907 wpL_fits
  rw [ea, eb]
  refine ⟨i1, i2, i3, fun e0 => ?_, fun e0 => ?_⟩
  · refine sp_fits hmk hcm ha hb (fun h => ⟨fun _ => ⟨i1, i2, i3, fun _ => ?_, fun z => absurd e0 z⟩, rfl⟩) (fun h1 h2 A hA hB => ⟨vin (by decide), i1, i2, i3, fun _ => ?_, fun z => absurd e0 z⟩)
    · exact sr_fits hmk hwm ha hb (fun _ r => tl_thr rfl (by decide) (tl_6 (hk _ _ _ hI))) (fun z1 z2 => absurd ⟨z1, z2⟩ h)
    · refine sr_fits hmk hwm ha hb (fun z => absurd ⟨h1, h2⟩ z) (fun _ _ A' hA' hB' => ?_)
      have e : A' = A := Ct.same (hA' rfl) (hA rfl)
      subst e
      exact tl_val rfl (lgs o _) (tl_6 (hk _ _ _ hI))
  · refine sp_fits hmk hcm ha hb (fun h => ⟨fun _ => ⟨i1, i2, i3, fun z => absurd z e0, fun _ => ?_⟩, rfl⟩) (fun h1 h2 A hA hB => ⟨vin (by decide), i1, i2, i3, fun z => absurd z e0, fun _ => ?_⟩)
    · exact sr_fits hmk hwm ha hb (fun _ r => tl_thr rfl (by decide) (tl_6 (hk _ _ _ hI))) (fun z1 z2 => absurd ⟨z1, z2⟩ h)
    · refine sr_fits hmk hwm ha hb (fun z => absurd ⟨h1, h2⟩ z) (fun _ _ A' hA' hB' => ?_)
      have e : A' = A := Ft.same (hB' (by decide)) (hB (by decide))
      subst e
      exact tl_val rfl (lgs o _) (tl_6 (hk _ _ _ hI))
