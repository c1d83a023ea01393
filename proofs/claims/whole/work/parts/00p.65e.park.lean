def PText (B : Nat → Int32) (N k p c : Nat) (g : Gd) (r : Bool × Nat × Gd) : Prop :=
  (∀ (post : GPost) (n : Nat) (cs xs ys ws : Nat → Int32), k ≤ n → CG g xs ys cs ws (zI g.nw) (zI g.nl) →
    (r.1 = true → ∀ cs' xs' ys' ws', CG r.2.2 xs' ys' cs' ws' (zI r.2.2.nw) (zI r.2.2.nl) → post 1 (zI r.2.2.nw, zI r.2.2.nl, cs', xs', ys', ws', tk B N r.2.1)) →
    (r.1 = false → ∀ a c cs' xs' ys' ws' b d v, post 0 (a, c, cs', xs', ys', ws', zI (r.2.1 : Int), b, d, v)) →
    wpX1_readText_15 post (zI (N : Int)) B (n + 1) (zI g.nw) (zI g.nl) cs xs ys ws (tk B N p).1 (tk B N p).2.1 (tk B N p).2.2.1 (tk B N p).2.2.2 (zI (c : Int))) ∧
  (∀ (post : RPost) (n q : Nat) (th tp bg dp st : Int32) (v : Nat → Int32), k ≤ n → q ≤ N → sk B N q = p → WG g v →
    (r.1 = true → ∀ (x : Int32) q' bg' dp' st' v', 0 ≤ x → WG r.2.2 v' → Fp v v' → post x (th, tp, q', zI (N : Int), bg', dp', st', v')) →
    (r.1 = false → ∀ q' dp' st' v', Fp v v' → post (-1) (th, tp, q', zI (N : Int), zI (r.2.1 : Int), dp', st', v')) →
    wpX11_readAll_28 post B (n + 1) th tp (zI (q : Int)) (zI (N : Int)) bg dp st v 1 (zI (c : Int))) ∧
  (r.1 = true → r.2.2.Ok ∧ r.2.2.nt = g.nt)
section
variable {B : Nat → Int32} {N : Nat}
theorem parkLoop (hN : N ≤ 400) : ∀ (k p c : Nat) (g : Gd), N ≤ p + k → p ≤ N → sk B N p = p → c ≤ 14 → g.Ok → ∃ r, PText B N k p c g r := by
  have e14 : (14 : Int32) = zI ((14 : Nat) : Int) := rfl
  intro k
  induction k with
  | zero =>
    intro p c g hk hp hsp hc hg
    obtain ⟨r, hC, hR, hS, hT⟩ := parkLine hN hp hsp hg
    have hr0 : r.1 = 0 := Classical.byContradiction fun z => by have := (hS z).2.2; omega
    by_cases h14 : c = 14
    · refine ⟨(false, p, g), ?_, ?_, fun h => ff_ h⟩
      · intro post n cs xs ys ws hn hCG h1 h0
        unfold wpX1_readText_15
        rw [e14, zN_le (by omega)]
        exact ⟨fun _ => h0 rfl _ _ _ _ _ _ _ _ _, fun z => absurd (by omega) z⟩
      · intro post n q th tp bg dp st v hn hq hsk hv h1 h0
        unfold wpX11_readAll_28 wpX11_readLine
        refine sr_letters hN hq ?_
        rw [hsk]
        refine ⟨fun z => absurd z (by decide), fun _ => ?_⟩
        unfold wpX11_readLine_16
        rw [e14, zN_le (by omega)]
        exact ⟨fun _ => ⟨fun z => absurd rfl z, fun _ => h0 rfl _ _ _ _ Fp.rf⟩, fun z => absurd (by omega) z⟩
    · refine ⟨(false, r.2.1, g), ?_, ?_, fun h => ff_ h⟩
      · intro post n cs xs ys ws hn hCG h1 h0
        unfold wpX1_readText_15
        rw [e14, zN_le (by omega)]
        refine ⟨fun z => absurd z (by omega), fun _ => ?_⟩
        refine hC _ cs xs ys ws hCG (fun z => absurd (hr0.symm.trans z) (by decide)) (fun _ a c cs' xs' ys' ws' b d v => ?_)
        exact ⟨fun z => absurd rfl z, fun _ => h0 rfl _ _ _ _ _ _ _ _ _⟩
      · intro post n q th tp bg dp st v hn hq hsk hv h1 h0
        unfold wpX11_readAll_28 wpX11_readLine
        refine sr_letters hN hq ?_
        rw [hsk]
        refine ⟨fun z => absurd z (by decide), fun _ => ?_⟩
        unfold wpX11_readLine_16
        rw [e14, zN_le (by omega)]
        refine ⟨fun z => absurd z (by omega), fun _ => ⟨fun z => absurd z (by decide), fun _ => ?_⟩⟩
        refine hR _ v hv (fun z => absurd hr0 z) (fun _ q' v' hf' => ⟨fun _ => ?_, fun z => absurd rfl z⟩)
        exact ⟨fun z => absurd rfl z, fun _ => h0 rfl _ _ _ _ hf'⟩
  | succ k ih =>
    intro p c g hk hp hsp hc hg
    by_cases h14 : c = 14
    · refine ⟨(false, p, g), ?_, ?_, fun h => ff_ h⟩
      · intro post n cs xs ys ws hn hCG h1 h0
        unfold wpX1_readText_15
        rw [e14, zN_le (by omega)]
        exact ⟨fun _ => h0 rfl _ _ _ _ _ _ _ _ _, fun z => absurd (by omega) z⟩
      · intro post n q th tp bg dp st v hn hq hsk hv h1 h0
        unfold wpX11_readAll_28 wpX11_readLine
        refine sr_letters hN hq ?_
        rw [hsk]
        refine ⟨fun z => absurd z (by decide), fun _ => ?_⟩
        unfold wpX11_readLine_16
        rw [e14, zN_le (by omega)]
        exact ⟨fun _ => ⟨fun z => absurd rfl z, fun _ => h0 rfl _ _ _ _ Fp.rf⟩, fun z => absurd (by omega) z⟩
    obtain ⟨r, hC, hR, hS, hT⟩ := parkLine hN hp hsp hg
    have cl : ∀ (post : GPost) (n : Nat) (cs xs ys ws : Nat → Int32), CG g xs ys cs ws (zI g.nw) (zI g.nl) →
        (r.1 = 1 → ∀ cs' xs' ys' ws', CG r.2.2 xs' ys' cs' ws' (zI r.2.2.nw) (zI r.2.2.nl) → (r.2.1 = N → post 1 (zI r.2.2.nw, zI r.2.2.nl, cs', xs', ys', ws', tk B N r.2.1)) ∧ (r.2.1 ≠ N → isSg B N r.2.1 59 = false → post 0 (zI r.2.2.nw, zI r.2.2.nl, cs', xs', ys', ws', tk B N r.2.1)) ∧ (isSg B N r.2.1 59 = true → wpX1_readText_15 post (zI (N : Int)) B n (zI r.2.2.nw) (zI r.2.2.nl) cs' xs' ys' ws' (tk B N (sk B N (r.2.1 + 1))).1 (tk B N (sk B N (r.2.1 + 1))).2.1 (tk B N (sk B N (r.2.1 + 1))).2.2.1 (tk B N (sk B N (r.2.1 + 1))).2.2.2 (zI ((c + 1 : Nat) : Int)))) →
        (r.1 ≠ 1 → ∀ a c cs' xs' ys' ws' b d v, post 0 (a, c, cs', xs', ys', ws', zI (r.2.1 : Int), b, d, v)) →
        wpX1_readText_15 post (zI (N : Int)) B (n + 1) (zI g.nw) (zI g.nl) cs xs ys ws (tk B N p).1 (tk B N p).2.1 (tk B N p).2.2.1 (tk B N p).2.2.2 (zI (c : Int)) := by
      intro post n cs xs ys ws hCG h1 h0
      unfold wpX1_readText_15
      rw [e14, zN_le (by omega)]
      refine ⟨fun z => absurd z (by omega), fun _ => ?_⟩
      refine hC _ cs xs ys ws hCG (fun hr cs' xs' ys' ws' hC' => ?_) (fun hr a c cs' xs' ys' ws' b d v => ?_)
      · have hK := h1 hr cs' xs' ys' ws' hC'
        obtain ⟨s1, s2, s3, s4, s5⟩ := hS (by rw [hr]; decide)
        refine ⟨fun _ => ?_, fun z => absurd z (by decide)⟩
        refine sp_isOver hN s4 (fun hlt => ⟨fun _ => ?_, fun z => absurd rfl z⟩) (fun he => ⟨fun z => absurd z (by decide), fun _ => hK.1 he⟩)
        refine wp_word' (fun post hh => sp_isSign hN s4 hh) (fun e => hK.2.1 (by omega) e) (fun e => ?_)
        show wpX8_toNext _ (zI (N : Int)) B _ (zI (nx B N r.2.1 : Int)) _ _
        rw [(nx_sg (by decide) (by decide) e).2]
        refine sp_toNext hN (by omega) ?_
        intro v8 e8
        rw [e8, zS]
        exact hK.2.2 e
      · exact ⟨fun z => absurd rfl z, fun _ => h0 hr _ _ _ _ _ _ _ _ _⟩
    have rf : ∀ (post : RPost) (n q : Nat) (th tp bg dp st : Int32) (v : Nat → Int32), q ≤ N → sk B N q = p → WG g v →
        (r.1 ≠ 0 → ∀ bg' dp' st' v', WG r.2.2 v' → Fp v v' → (r.2.1 = N → post (zI ((c + 1 : Nat) : Int)) (th, tp, zI (r.2.1 : Int), zI (N : Int), bg', dp', st', v')) ∧ (r.2.1 ≠ N → isSg B N r.2.1 59 = false → post (-1) (th, tp, zI (r.2.1 : Int), zI (N : Int), zI (r.2.1 : Int), dp', st', v')) ∧ (isSg B N r.2.1 59 = true → wpX11_readAll_28 post B n th tp (zI ((r.2.1 + 1 : Nat) : Int)) (zI (N : Int)) (zI (r.2.1 : Int)) dp' st' v' 1 (zI ((c + 1 : Nat) : Int)))) →
        (r.1 = 0 → ∀ q' dp' st' v', Fp v v' → post (-1) (th, tp, q', zI (N : Int), zI (r.2.1 : Int), dp', st', v')) →
        wpX11_readAll_28 post B (n + 1) th tp (zI (q : Int)) (zI (N : Int)) bg dp st v 1 (zI (c : Int)) := by
      intro post n q th tp bg dp st v hq hsk hv h1 h0
      unfold wpX11_readAll_28 wpX11_readLine
      refine sr_letters hN hq ?_
      rw [hsk]
      refine ⟨fun z => absurd z (by decide), fun _ => ?_⟩
      unfold wpX11_readLine_16
      rw [e14, zN_le (by omega)]
      refine ⟨fun z => absurd z (by omega), fun _ => ⟨fun z => absurd z (by decide), fun _ => ?_⟩⟩
      refine hR _ v hv (fun hr q' bg' v' hq' hsk' hv' hf' => ⟨fun z => absurd z (by decide), fun _ => ?_⟩) (fun hr q' v' hf' => ⟨fun _ => ?_, fun z => absurd rfl z⟩)
      · obtain ⟨s1, s2, s3, s4, s5⟩ := hS hr
        refine ⟨fun _ => ?_, fun z => absurd z (by decide)⟩
        refine sr_blanks hN hq' ?_
        rw [hsk', zN_eq (by omega)]
        refine ⟨fun hne => ?_, fun he => ?_⟩
        · refine sr_isAt1 hN s4 ?_
          cases e : isSg B N r.2.1 59 with
          | true =>
            refine ⟨fun _ v6 e6 v7 e7 => ?_, fun z => absurd z (by decide)⟩
            rw [e6, e7, zS c, show (zI (r.2.1 : Int), zI (r.2.1 : Int)).1 + 1 = zI ((r.2.1 + 1 : Nat) : Int) from zS _]
            exact (h1 hr (zI (r.2.1 : Int)) _ _ _ hv' hf').2.2 e
          | false =>
            exact ⟨fun z => absurd rfl z, fun _ => (h1 hr (zI (r.2.1 : Int)) _ _ _ hv' hf').2.1 hne e⟩
        · rw [zS c]; exact (h1 hr _ _ _ _ hv' hf').1 he
      · exact ⟨fun z => absurd rfl z, fun _ => h0 hr _ _ _ _ hf'⟩
    by_cases hr1 : r.1 = 1
    · obtain ⟨s1, s2, s3, s4, s5⟩ := hS (by rw [hr1]; decide)
      have hr0 : r.1 ≠ 0 := by rw [hr1]; decide
      by_cases hE : r.2.1 = N
      · have hsf : isSg B N r.2.1 59 = false := by unfold isSg; exact decide_eq_false (fun z => by omega)
        refine ⟨(true, r.2.1, r.2.2), ?_, ?_, fun _ => ⟨s1, s2⟩⟩
        · intro post n cs xs ys ws hn hCG h1 h0
          exact cl post n cs xs ys ws hCG (fun _ cs' xs' ys' ws' hC' => ⟨fun _ => h1 rfl _ _ _ _ hC', fun z => absurd hE z, fun z => absurd (hsf.symm.trans z) (by decide)⟩) (fun z => absurd hr1 z)
        · intro post n q th tp bg dp st v hn hq hsk hv h1 h0
          exact rf post n q th tp bg dp st v hq hsk hv (fun _ bg' dp' st' v' hv' hf' => ⟨fun _ => h1 rfl _ _ _ _ _ _ (by rw [show (0 : Int32) = zI ((0 : Nat) : Int) from rfl, zN_le (by omega)]; omega) hv' hf', fun z => absurd hE z, fun z => absurd (hsf.symm.trans z) (by decide)⟩) (fun z => absurd z hr0)
      · cases hsg : isSg B N r.2.1 59 with
        | false =>
          refine ⟨(false, r.2.1, g), ?_, ?_, fun h => ff_ h⟩
          · intro post n cs xs ys ws hn hCG h1 h0
            exact cl post n cs xs ys ws hCG (fun _ cs' xs' ys' ws' hC' => ⟨fun z => absurd z hE, fun _ _ => h0 rfl _ _ _ _ _ _ _ _ _, fun z => absurd (hsg.symm.trans z) (by decide)⟩) (fun z => absurd hr1 z)
          · intro post n q th tp bg dp st v hn hq hsk hv h1 h0
            exact rf post n q th tp bg dp st v hq hsk hv (fun _ bg' dp' st' v' hv' hf' => ⟨fun z => absurd z hE, fun _ _ => h0 rfl _ _ _ _ hf', fun z => absurd (hsg.symm.trans z) (by decide)⟩) (fun z => absurd z hr0)
        | true =>
          have hlt := (nx_sg (N := N) (by decide) (by decide) hsg).1
          have hs2 := sk_le (B := B) (N := N) (p := r.2.1 + 1) (by omega)
          have hss2 : sk B N (sk B N (r.2.1 + 1)) = sk B N (r.2.1 + 1) := sk_sk (by omega)
          obtain ⟨t, hC2, hR2, hS2⟩ := ih (sk B N (r.2.1 + 1)) (c + 1) r.2.2 (by omega) hs2.2 hss2 (by omega) s1
          refine ⟨t, ?_, ?_, fun h => ⟨(hS2 h).1, (hS2 h).2.trans s2⟩⟩
          · intro post n cs xs ys ws hn hCG h1 h0
            refine cl post n cs xs ys ws hCG (fun _ cs' xs' ys' ws' hC' => ⟨fun z => absurd z hE, fun _ z => absurd (z.symm.trans hsg) (by decide), fun _ => ?_⟩) (fun z => absurd hr1 z)
            obtain ⟨n', en⟩ : ∃ n', n = n' + 1 := ⟨n - 1, by omega⟩
            rw [en]
            exact hC2 post n' cs' xs' ys' ws' (by omega) hC' h1 h0
          · intro post n q th tp bg dp st v hn hq hsk hv h1 h0
            refine rf post n q th tp bg dp st v hq hsk hv (fun _ bg' dp' st' v' hv' hf' => ⟨fun z => absurd z hE, fun _ z => absurd (z.symm.trans hsg) (by decide), fun _ => ?_⟩) (fun z => absurd z hr0)
            obtain ⟨n', en⟩ : ∃ n', n = n' + 1 := ⟨n - 1, by omega⟩
            rw [en]
            exact hR2 post n' (r.2.1 + 1) th tp _ dp' st' v' (by omega) (by omega) rfl hv' (fun hr x q2 bg2 dp2 st2 v2 hx hv2 hf2 => h1 hr x q2 bg2 dp2 st2 v2 hx hv2 (hf'.trans hf2)) (fun hr q2 dp2 st2 v2 hf2 => h0 hr q2 dp2 st2 v2 (hf'.trans hf2))
    · refine ⟨(false, r.2.1, g), ?_, ?_, fun h => ff_ h⟩
      · intro post n cs xs ys ws hn hCG h1 h0
        exact cl post n cs xs ys ws hCG (fun z => absurd z hr1) (fun _ => h0 rfl)
      · intro post n q th tp bg dp st v hn hq hsk hv h1 h0
        refine rf post n q th tp bg dp st v hq hsk hv (fun hr0 bg' dp' st' v' hv' hf' => ?_) (fun hr q' dp' st' v' hf' => h0 rfl _ _ _ _ hf')
        obtain ⟨t1, t2⟩ := hT hr0 hr1
        exact ⟨fun z => absurd z t1, fun _ _ => h0 rfl _ _ _ _ hf', fun z => absurd (t2.symm.trans z) (by decide)⟩
end
