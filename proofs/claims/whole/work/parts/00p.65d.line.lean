abbrev GPost : Type := Int32 → (Int32 × Int32 × (Nat → Int32) × (Nat → Int32) × (Nat → Int32) × (Nat → Int32) × Int32 × Int32 × Int32 × Int32) → Prop
abbrev HPost : Type := Int32 → (Int32 × Int32 × (Nat → Int32)) → Prop
def PLine (B : Nat → Int32) (N p : Nat) (g : Gd) (r : GRes) : Prop :=
  (∀ (post : GPost) (cs xs ys ws : Nat → Int32), CG g xs ys cs ws (zI g.nw) (zI g.nl) →
    (r.1 = 1 → ∀ cs' xs' ys' ws', CG r.2.2 xs' ys' cs' ws' (zI r.2.2.nw) (zI r.2.2.nl) → post 1 (zI r.2.2.nw, zI r.2.2.nl, cs', xs', ys', ws', tk B N r.2.1)) →
    (r.1 ≠ 1 → ∀ a c cs' xs' ys' ws' b d v, post 0 (a, c, cs', xs', ys', ws', zI (r.2.1 : Int), b, d, v)) →
    wpX1_readLine post (zI (N : Int)) B (zI g.nw) (zI g.nl) cs xs ys ws (tk B N p).1 (tk B N p).2.1 (tk B N p).2.2.1 (tk B N p).2.2.2) ∧
  (∀ (post : HPost) (v : Nat → Int32), WG g v →
    (r.1 ≠ 0 → ∀ (q' : Nat) bg' v', q' ≤ N → sk B N q' = r.2.1 → WG r.2.2 v' → Fp v v' → post 1 (zI (q' : Int), bg', v')) →
    (r.1 = 0 → ∀ q' v', Fp v v' → post 0 (q', zI (r.2.1 : Int), v')) →
    wpX11_readParkLine post (zI (N : Int)) B (zI (ru (bLe B) N p : Int)) (zI (p : Int)) v) ∧
  (r.1 ≠ 0 → r.2.2.Ok ∧ r.2.2.nt = g.nt ∧ p < r.2.1 ∧ r.2.1 ≤ N ∧ sk B N r.2.1 = r.2.1) ∧
  (r.1 ≠ 0 → r.1 ≠ 1 → r.2.1 ≠ N ∧ isSg B N r.2.1 59 = false)
section
variable {B : Nat → Int32} {N : Nat}
theorem isW_ne {q p : Nat} {w w' : List Int32} (h : isW B q p w = true) (hl : w.length ≠ w'.length) : isW B q p w' = false := by
  cases e : isW B q p w' with
  | false => rfl
  | true => have := isW_len h; have := isW_len e; omega
theorem isW_ch {q p : Nat} {c c' : Int32} {w w' : List Int32} (h : isW B q p (c :: w) = true) (hl : txC c ≠ txC c') : isW B q p (c' :: w') = false := by
  cases e : isW B q p (c' :: w') with
  | false => rfl
  | true =>
    unfold isW wdB at h e
    rw [Bool.and_eq_true, Bool.and_eq_true] at h e
    exact absurd ((of_decide_eq_true h.2.1).symm.trans (of_decide_eq_true e.2.1)) hl
theorem Fp.of {v v' : Nat → Int32} {n : Int} (hn : 0 ≤ n) (h : ∀ m : Nat, m ≠ 1 ∧ ((m : Int) < 746 + 4 * n ∨ 778 ≤ m) → v' m = v m) : Fp v v' := by
  intro k hk
  exact h k (by omega)
theorem parkLine (hN : N ≤ 400) {p : Nat} {g : Gd} (hp : p ≤ N) (hsp : sk B N p = p) (hg : g.Ok) : ∃ r : GRes, PLine B N p g r := by
  have hg0 := hg.to0
  have h12 := hg.nw
  have h8 := hg.nl
  have hn := nx_le (B := B) hp
  have hr := ru_bd (bLe B) hp
  have e12 : (12 : Int32) = zI 12 := rfl
  have e8 : (8 : Int32) = zI 8 := rfl
  cases eW : isW B (nx B N p) p [119, 97, 121] with
  | true =>
    obtain ⟨hlt, enx, eru, eW', eB⟩ := isW_at hp (by decide) eW
    have enx : nx B N p = p + 3 := enx
    have eru : ru (bLe B) N p = p + 3 := eru
    by_cases hfull : g.nw = 12
    · refine ⟨(0, p, g), ?_, ?_, fun h => absurd rfl h, fun h _ => absurd rfl h⟩
      · intro post cs xs ys ws hC h1 h0
        have h0 := h0 (show (0 : Nat) ≠ 1 by decide)
        unfold wpX1_readLine
        refine wp_word (fun post hh => sp_isWord (by decide) hn.1 (by omega) hh) (fun e => absurd (e.symm.trans eW) (by decide)) (fun _ => ⟨fun _ => ?_, fun z => absurd (by rw [hfull]; decide) z⟩)
        unfold wpX1_readLine_54
        refine wp_word (fun post hh => sp_isWord (by decide) hn.1 (by omega) hh) (fun _ => ?_) (fun e => absurd ((isW_ne eW (by decide)).symm.trans e) (by decide))
        exact wp_word (fun post hh => sp_isWord (by decide) hn.1 (by omega) hh) (fun _ => h0 _ _ _ _ _ _ _ _ _) (fun e => absurd ((isW_ne eW (by decide)).symm.trans e) (by decide))
      · intro post v hv h1 h0
        unfold wpX11_readParkLine
        refine wp_word (fun post hh => sr_isWord (by decide) hr.1 (by omega) hh) (fun e => absurd (e.symm.trans eW') (by decide)) (fun _ => ?_)
        unfold wpX11_readWay
        refine sr_ways hv ⟨fun z => absurd (by rw [hfull]; rfl) z, fun _ => ⟨Or.inl rfl, h0 rfl _ _ Fp.rf⟩⟩
    · have hs2 := sk_le (B := B) (N := N) (p := p + 3) (by omega)
      have hss2 : sk B N (sk B N (p + 3)) = sk B N (p + 3) := sk_sk (by omega)
      generalize hq2 : sk B N (p + 3) = p2 at hs2 hss2
      have hw : g.newW.hw g.nw := ⟨h12.1, by show g.nw < g.nw + 1; omega⟩
      obtain ⟨r, hC', hR', hS', hT'⟩ := cornersAt (B := B) hN N p2 g.newW g.nw (by omega) hs2.2 hss2 (hg0.newW (by omega)) hw
      have ecn : g.newW.cn g.nw = 0 := by rw [Gd.newW_cn, if_pos rfl]
      have e1 : zI g.nw + 1 = zI (g.nw + 1) := zI_add _ 1
      have e2 : zI (g.nw + 1) - 1 = zI g.nw := by rw [show (1 : Int32) = zI 1 from rfl, zI_sub]; congr 1; omega
      rw [ecn] at hC'
      refine ⟨r, ?_, ?_, fun h => ?_, hT'⟩
      · intro post cs xs ys ws hC h1 h0
        unfold wpX1_readLine
        refine wp_word (fun post hh => sp_isWord (by decide) hn.1 (by omega) hh) (fun e => absurd (e.symm.trans eW) (by decide)) (fun _ => ⟨fun z => absurd z (by rw [e12, zI_le (by omega)]; omega), fun _ => ?_⟩)
        show wpX8_toNext _ (zI (N : Int)) B _ (zI (nx B N p : Int)) _ _
        rw [enx]
        refine sp_toNext hN (by omega) ?_
        rw [hq2]
        refine ⟨zI_in (by omega), fun v4 e4 => ?_⟩
        rw [e4, e1, e2]
        unfold wpX1_readCorners
        rw [zI_nat (a := g.nw) (by omega)]
        refine ⟨zI_in (by omega), fun v1 ev1 => ⟨N + 1 + 1, ?_⟩⟩
        rw [ev1, upd_eq, if_pos rfl]
        have hCn := hC.newW hg0
        refine hC' _ (N + 1) _ _ _ ws _ _ (Nat.le_refl _) hCn (fun hr cs' xs' ys' hC2 => ⟨Or.inr rfl, ?_⟩) (fun hr cs' xs' ys' b d v => ⟨Or.inl rfl, h0 hr _ _ _ _ _ _ _ _ _⟩)
        have gs := (hS' (by rw [hr]; decide)).1
        have := h1 hr cs' xs' ys' ws (by rw [gs.2.1, gs.2.2.1]; exact hC2)
        rw [gs.2.1, gs.2.2.1] at this
        exact this
      · intro post v hv h1 h0
        unfold wpX11_readParkLine
        refine wp_word (fun post hh => sr_isWord (by decide) hr.1 (by omega) hh) (fun e => absurd (e.symm.trans eW') (by decide)) (fun _ => ?_)
        unfold wpX11_readWay
        have a1 : (14 : Int32) + 61 * zI g.nw = zI (14 + 61 * g.nw) := by
          rw [show (14 : Int32) = zI 14 from rfl, show (61 : Int32) = zI 61 from rfl, zI_mul, zI_add]
        refine sr_ways hv ?_
        rw [a1, zI_nat (a := 14 + 61 * g.nw) (by omega)]
        have a2 : upd v (14 + 61 * g.nw).toNat 0 (0 : Int32).toNatClampNeg + 1 = zI (g.nw + 1) := by
          show upd v (14 + 61 * g.nw).toNat 0 0 + 1 = _
          rw [upd_eq, if_neg (by omega), hv.nw]; exact e1
        rw [a2, eru]
        refine ⟨fun _ => ⟨zI_in (by omega), vin (by decide), vin (by decide), ⟨N + 1, ?_⟩⟩, fun z => absurd z (by rw [e12, zI_eq (by omega)]; exact hfull)⟩
        have fr : Fp v (upd (upd v (14 + 61 * g.nw).toNat 0) 0 (zI (g.nw + 1))) := by
          intro k hk
          rw [upd_eq, upd_eq, if_neg (by omega), if_neg (by omega)]
        refine hR' _ N (p + 3) _ _ (Nat.le_refl _) (by omega) hq2 (hv.newW hg0 (by omega)) (fun hr v' hv' hf' => ⟨Or.inr rfl, Or.inr rfl, ?_⟩) (fun hr q' v' hf' => ⟨Or.inl rfl, Or.inl rfl, h0 hr _ _ (fr.trans hf')⟩)
        have gs := hS' hr
        exact h1 hr r.2.1 _ v' gs.2.2.1 gs.2.2.2 hv' (fr.trans hf')
      · obtain ⟨⟨s1, s2, s3, s4, s5, s6⟩, t1, t2, t3⟩ := hS' h
        refine ⟨s1.toOk (fun a b c => ?_), s4, by omega, t2, t3⟩
        rw [s2] at c
        have c : a < g.nw + 1 := c
        by_cases ea : a = g.nw
        · rw [ea]; exact s5
        · rw [s6 a ea, Gd.newW_cn, if_neg ea]; exact (hg.cn a b (by omega)).1
  | false =>
    have eW' := isW_no (N := N) hp (by decide) eW
    cases eM : isW B (nx B N p) p [109, 111, 114, 101] with
    | true =>
      obtain ⟨hlt, enx, eru, eM', eB⟩ := isW_at hp (by decide) eM
      have enx : nx B N p = p + 4 := enx
      have eru : ru (bLe B) N p = p + 4 := eru
      have eL' : isW B (ru (bLe B) N p) p [119, 97, 108, 108] = false := isW_ch eM' (by decide)
      have hs2 := sk_le (B := B) (N := N) (p := p + 4) (by omega)
      have hss2 : sk B N (sk B N (p + 4)) = sk B N (p + 4) := sk_sk (by omega)
      generalize hq2 : sk B N (p + 4) = p2 at hs2 hss2
      have ewm : zI g.nw - 1 = zI (g.nw - 1) := by rw [show (1 : Int32) = zI 1 from rfl, zI_sub]
      by_cases hz : isNm B N p2 3 = true ∧ vl B N p2 ≤ zI (g.nw - 1)
      · obtain ⟨hnm, hle⟩ := hz
        obtain ⟨z, ez, hz0, hz1⟩ := vl3 hs2.2 hnm
        have hzw : z < g.nw := by rw [ez, zI_le (by omega)] at hle; omega
        have hlt2 := (nm_nx hs2.2 hnm).1
        have hn2 := nx_bd (B := B) hlt2
        have hs3 := sk_le (B := B) (N := N) (p := nx B N p2) hn2.2
        have hss3 : sk B N (sk B N (nx B N p2)) = sk B N (nx B N p2) := sk_sk hn2.2
        generalize hq3 : sk B N (nx B N p2) = p3 at hs3 hss3
        obtain ⟨r, hC', hR', hS', hT'⟩ := cornersAt (B := B) hN N p3 g z (by omega) hs3.2 hss3 hg0 ⟨hz0, hzw⟩
        have evp : (tk B N p2).2.2.2 = zI z := ez
        refine ⟨r, ?_, ?_, fun h => ?_, hT'⟩
        · intro post cs xs ys ws hC h1 h0
          unfold wpX1_readLine
          refine wp_word (fun post hh => sp_isWord (by decide) hn.1 (by omega) hh) (fun _ => ?_) (fun e => absurd (eW.symm.trans e) (by decide))
          unfold wpX1_readLine_54
          refine wp_word (fun post hh => sp_isWord (by decide) hn.1 (by omega) hh) (fun e => absurd (e.symm.trans eM) (by decide)) (fun _ => ?_)
          show wpX8_toNext _ (zI (N : Int)) B _ (zI (nx B N p : Int)) _ _
          rw [enx]
          refine sp_toNext hN (by omega) ?_
          rw [hq2]
          refine wp_word (fun post hh => sp_isNumber (m := 3) hN hs2.2 (by decide) hh) (fun e => absurd (e.symm.trans hnm) (by decide)) (fun _ => ?_)
          rw [evp]
          refine sp_hasWay hg hC (by omega) (fun _ => ⟨fun _ => ?_, fun z => absurd z (by decide)⟩) (fun w => absurd ⟨hz0, hzw⟩ w)
          show wpX8_toNext _ (zI (N : Int)) B _ (zI (nx B N p2 : Int)) _ _
          refine sp_toNext hN hn2.2 ?_
          rw [hq3]
          unfold wpX1_readCorners
          rw [zI_nat (a := z) (by omega)]
          refine ⟨zI_in (by omega), fun v1 ev1 => ⟨N + 1 + 1, ?_⟩⟩
          rw [ev1, hC.cs z hz0 hzw]
          refine hC' _ (N + 1) _ _ _ ws _ _ (Nat.le_refl _) hC (fun hr cs' xs' ys' hC2 => ⟨Or.inr rfl, ?_⟩) (fun hr cs' xs' ys' b d v => ⟨Or.inl rfl, h0 hr _ _ _ _ _ _ _ _ _⟩)
          have gs := (hS' (by rw [hr]; decide)).1
          have := h1 hr cs' xs' ys' ws (by rw [gs.2.1, gs.2.2.1]; exact hC2)
          rw [gs.2.1, gs.2.2.1] at this
          exact this
        · intro post v hv h1 h0
          unfold wpX11_readParkLine
          refine wp_word (fun post hh => sr_isWord (by decide) hr.1 (by omega) hh) (fun _ => ?_) (fun e => absurd (eW'.symm.trans e) (by decide))
          refine wp_word (fun post hh => sr_isWord (by decide) hr.1 (by omega) hh) (fun _ => ?_) (fun e => absurd (eL'.symm.trans e) (by decide))
          refine wp_word' (fun post hh => sr_isWord (by decide) hr.1 (by omega) hh) (fun e => absurd (e.symm.trans eM') (by decide)) (fun _ => ?_)
          refine sr_ways hv ?_
          rw [ewm, eru]
          unfold wpX11_number
          refine sr_figures (m := 3) hN (by omega) (by decide) ?_
          rw [hq2]
          have efg : fg B N p2 3 (zI (g.nw - 1)) = zI z := by unfold fg; rw [if_pos ⟨hnm, hle⟩]; exact ez
          rw [efg, ← (nm_nx hs2.2 hnm).2]
          refine ⟨fun w => absurd w (by rw [show (0 : Int32) = zI 0 from rfl, zI_lt (by omega)]; omega), fun _ => ⟨N + 1, ?_⟩⟩
          refine hR' _ N (nx B N p2) _ _ (Nat.le_refl _) hn2.2 hq3 hv (fun hr v' hv' hf' => ⟨fun w => absurd w (by decide), fun _ => ?_⟩) (fun hr q' v' hf' => ⟨fun _ => h0 hr _ _ hf', fun w => absurd rfl w⟩)
          have gs := hS' hr
          exact h1 hr r.2.1 _ v' gs.2.2.1 gs.2.2.2 hv' hf'
        · obtain ⟨⟨s1, s2, s3, s4, s5, s6⟩, t1, t2, t3⟩ := hS' h
          refine ⟨s1.toOk (fun a b c => ?_), s4, by omega, t2, t3⟩
          rw [s2] at c
          by_cases ea : a = z
          · rw [ea]; exact s5
          · rw [s6 a ea]; exact (hg.cn a b c).1
      · refine ⟨(0, p2, g), ?_, ?_, fun h => absurd rfl h, fun h _ => absurd rfl h⟩
        · intro post cs xs ys ws hC h1 h0
          have h0 := h0 (show (0 : Nat) ≠ 1 by decide)
          unfold wpX1_readLine
          refine wp_word (fun post hh => sp_isWord (by decide) hn.1 (by omega) hh) (fun _ => ?_) (fun e => absurd (eW.symm.trans e) (by decide))
          unfold wpX1_readLine_54
          refine wp_word (fun post hh => sp_isWord (by decide) hn.1 (by omega) hh) (fun e => absurd (e.symm.trans eM) (by decide)) (fun _ => ?_)
          show wpX8_toNext _ (zI (N : Int)) B _ (zI (nx B N p : Int)) _ _
          rw [enx]
          refine sp_toNext hN (by omega) ?_
          rw [hq2]
          refine wp_word (fun post hh => sp_isNumber (m := 3) hN hs2.2 (by decide) hh) (fun _ => h0 _ _ _ _ _ _ _ _ _) (fun hnm => ?_)
          obtain ⟨z, ez, hz0, hz1⟩ := vl3 hs2.2 hnm
          have evp : (tk B N p2).2.2.2 = zI z := ez
          rw [evp]
          refine sp_hasWay hg hC (by omega) (fun w => absurd ⟨hnm, ?_⟩ hz) (fun _ => ⟨fun w => absurd rfl w, fun _ => h0 _ _ _ _ _ _ _ _ _⟩)
          rw [ez, zI_le (by omega)]
          have := w.2
          omega
        · intro post v hv h1 h0
          unfold wpX11_readParkLine
          refine wp_word (fun post hh => sr_isWord (by decide) hr.1 (by omega) hh) (fun _ => ?_) (fun e => absurd (eW'.symm.trans e) (by decide))
          refine wp_word (fun post hh => sr_isWord (by decide) hr.1 (by omega) hh) (fun _ => ?_) (fun e => absurd (eL'.symm.trans e) (by decide))
          refine wp_word' (fun post hh => sr_isWord (by decide) hr.1 (by omega) hh) (fun e => absurd (e.symm.trans eM') (by decide)) (fun _ => ?_)
          refine sr_ways hv ?_
          rw [ewm, eru]
          unfold wpX11_number
          refine sr_figures (m := 3) hN (by omega) (by decide) ?_
          rw [hq2]
          have efg : fg B N p2 3 (zI (g.nw - 1)) = -1 := by unfold fg; rw [if_neg hz]
          rw [efg]
          exact ⟨fun _ => h0 rfl _ _ Fp.rf, fun w => absurd (by decide) w⟩
    | false =>
      have eM' := isW_no (N := N) hp (by decide) eM
      cases eL : isW B (nx B N p) p [119, 97, 108, 108] with
      | true =>
        obtain ⟨hlt, enx, eru, eL', eB⟩ := isW_at hp (by decide) eL
        have enx : nx B N p = p + 4 := enx
        have eru : ru (bLe B) N p = p + 4 := eru
        by_cases hfull : g.nl = 8
        · refine ⟨(0, p, g), ?_, ?_, fun h => absurd rfl h, fun h _ => absurd rfl h⟩
          · intro post cs xs ys ws hC h1 h0
            have h0 := h0 (show (0 : Nat) ≠ 1 by decide)
            unfold wpX1_readLine
            refine wp_word (fun post hh => sp_isWord (by decide) hn.1 (by omega) hh) (fun _ => ?_) (fun e => absurd (eW.symm.trans e) (by decide))
            unfold wpX1_readLine_54
            refine wp_word (fun post hh => sp_isWord (by decide) hn.1 (by omega) hh) (fun _ => ?_) (fun e => absurd (eM.symm.trans e) (by decide))
            exact wp_word (fun post hh => sp_isWord (by decide) hn.1 (by omega) hh) (fun e => absurd (e.symm.trans eL) (by decide)) (fun _ => ⟨fun _ => h0 _ _ _ _ _ _ _ _ _, fun w => absurd (by rw [hfull]; decide) w⟩)
          · intro post v hv h1 h0
            unfold wpX11_readParkLine
            refine wp_word (fun post hh => sr_isWord (by decide) hr.1 (by omega) hh) (fun _ => ?_) (fun e => absurd (eW'.symm.trans e) (by decide))
            refine wp_word (fun post hh => sr_isWord (by decide) hr.1 (by omega) hh) (fun e => absurd (e.symm.trans eL') (by decide)) (fun _ => ?_)
            unfold wpX11_readWall
            refine ⟨vin (by decide), fun v1 ev1 => ?_⟩
            have ev2 : v1 = 8 := by rw [ev1]; show v 1 = 8; rw [hv.nl, hfull]; rfl
            exact ⟨fun w => absurd ev2 w, fun _ => ⟨Or.inl rfl, h0 rfl _ _ Fp.rf⟩⟩
        · have hs2 := sk_le (B := B) (N := N) (p := p + 4) (by omega)
          have hss2 : sk B N (sk B N (p + 4)) = sk B N (p + 4) := sk_sk (by omega)
          generalize hq2 : sk B N (p + 4) = p2 at hs2 hss2
          obtain ⟨r, hC', hR', hS'⟩ := wallAt (B := B) hN hg0 (by omega) 4 0 p2 (fun _ => 0) (by omega) hs2.2 hss2 (fun j a b => by omega)
          refine ⟨((if r.1 = true then 1 else 0), r.2.1, g.addL r.2.2), ?_, ?_, fun h => ?_, fun h h' => ?_⟩
          · intro post cs xs ys ws hC h1 h0
            unfold wpX1_readLine
            refine wp_word (fun post hh => sp_isWord (by decide) hn.1 (by omega) hh) (fun _ => ?_) (fun e => absurd (eW.symm.trans e) (by decide))
            unfold wpX1_readLine_54
            refine wp_word (fun post hh => sp_isWord (by decide) hn.1 (by omega) hh) (fun _ => ?_) (fun e => absurd (eM.symm.trans e) (by decide))
            refine wp_word (fun post hh => sp_isWord (by decide) hn.1 (by omega) hh) (fun e => absurd (e.symm.trans eL) (by decide)) (fun _ => ⟨fun w => absurd w (by rw [e8, zI_le (by omega)]; omega), fun _ => ?_⟩)
            show wpX8_toNext _ (zI (N : Int)) B _ (zI (nx B N p : Int)) _ _
            rw [enx]
            refine sp_toNext hN (by omega) ?_
            rw [hq2]
            refine ⟨4 + 1, ?_⟩
            refine hC' _ ws ws (fun j a b => by omega) (fun m _ => rfl) (fun hr ws' q1 q2 => ⟨Or.inr rfl, ?_⟩) (fun hr ws' b d v => ⟨Or.inl rfl, ?_⟩)
            · exact h1 (by show (if r.1 = true then 1 else 0) = 1; rw [if_pos hr]) cs xs ys ws' (hC.addL q1 q2 h8.1)
            · exact h0 (by show (if r.1 = true then 1 else 0) ≠ 1; rw [if_neg (by rw [hr]; decide)]; decide) _ _ _ _ _ _ _ _ _
          · intro post v hv h1 h0
            unfold wpX11_readParkLine
            refine wp_word (fun post hh => sr_isWord (by decide) hr.1 (by omega) hh) (fun _ => ?_) (fun e => absurd (eW'.symm.trans e) (by decide))
            refine wp_word (fun post hh => sr_isWord (by decide) hr.1 (by omega) hh) (fun e => absurd (e.symm.trans eL') (by decide)) (fun _ => ?_)
            unfold wpX11_readWall
            refine ⟨vin (by decide), fun v1 ev1 => ?_⟩
            have ev2 : v1 = zI g.nl := by rw [ev1]; exact hv.nl
            rw [ev2, eru]
            refine ⟨fun _ => ⟨4 + 1, ?_⟩, fun w => absurd w (by rw [e8, zI_eq (by omega)]; exact hfull)⟩
            refine hR' _ (p + 4) _ v v (by omega) hq2 hv.nl (fun j a b => by omega) (fun m _ => rfl) (fun hr q' bg' v' hq' hsk' q1 q2 q3 => ⟨Or.inr rfl, ?_⟩) (fun hr q' v' q2 => ⟨Or.inl rfl, ?_⟩)
            · exact h1 (by show (if r.1 = true then 1 else 0) ≠ 0; rw [if_pos hr]; decide) q' bg' v' hq' hsk' (hv.addL hg0 q1 q2 q3) (Fp.of h8.1 q2)
            · exact h0 (by show (if r.1 = true then 1 else 0) = 0; rw [if_neg (by rw [hr]; decide)]) _ _ (Fp.of h8.1 q2)
          · have h : (if r.1 = true then 1 else 0) ≠ 0 := h
            have hr : r.1 = true := Classical.byContradiction fun w => h (if_neg w)
            obtain ⟨s1, s2, s3, s4⟩ := hS' hr
            exact ⟨(hg0.addL (by omega) s1).toOk (fun a b c => (hg.cn a b c).1), rfl, by show p < r.2.1; omega, s3, s4⟩
          · by_cases hr : r.1 = true
            · exact absurd (show (if r.1 = true then 1 else 0) = 1 from if_pos hr) h'
            · exact absurd (show (if r.1 = true then 1 else 0) = 0 from if_neg hr) h
      | false =>
        have eL' := isW_no (N := N) hp (by decide) eL
        refine ⟨(0, p, g), ?_, ?_, fun h => absurd rfl h, fun h _ => absurd rfl h⟩
        · intro post cs xs ys ws hC h1 h0
          have h0 := h0 (show (0 : Nat) ≠ 1 by decide)
          unfold wpX1_readLine
          refine wp_word (fun post hh => sp_isWord (by decide) hn.1 (by omega) hh) (fun _ => ?_) (fun e => absurd (eW.symm.trans e) (by decide))
          unfold wpX1_readLine_54
          refine wp_word (fun post hh => sp_isWord (by decide) hn.1 (by omega) hh) (fun _ => ?_) (fun e => absurd (eM.symm.trans e) (by decide))
          exact wp_word (fun post hh => sp_isWord (by decide) hn.1 (by omega) hh) (fun _ => h0 _ _ _ _ _ _ _ _ _) (fun e => absurd (eL.symm.trans e) (by decide))
        · intro post v hv h1 h0
          unfold wpX11_readParkLine
          refine wp_word (fun post hh => sr_isWord (by decide) hr.1 (by omega) hh) (fun _ => ?_) (fun e => absurd (eW'.symm.trans e) (by decide))
          refine wp_word (fun post hh => sr_isWord (by decide) hr.1 (by omega) hh) (fun _ => ?_) (fun e => absurd (eL'.symm.trans e) (by decide))
          exact wp_word' (fun post hh => sr_isWord (by decide) hr.1 (by omega) hh) (fun _ => h0 rfl _ _ Fp.rf) (fun e => absurd (eM'.symm.trans e) (by decide))
end
