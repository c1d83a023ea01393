abbrev GRes : Type := Nat × Nat × Gd
section
variable {B : Nat → Int32} {N : Nat}
theorem sr_number {post : Int32 → (Int32 × Int32) → Prop} {p : Nat} {bg : Int32} (hN : N ≤ 400) (hp : p ≤ N) {s : Nat} (hs : sk B N p = s) (h1 : isNm B N s 3 = true → post (vl B N s) (zI (nx B N s : Int), zI (s : Int))) (h0 : isNm B N s 3 = false → ∀ pt, post (-1) (pt, zI (s : Int))) : wpX11_number post (zI (N : Int)) B (zI (p : Int)) bg 0 999 := by
  have hsl := (sk_le (B := B) hp).2
  rw [hs] at hsl
  unfold wpX11_number
  refine sr_figures (m := 3) (hi := zI ((999 : Nat) : Int)) hN hp (by decide) ?_
  rw [hs, fg_all hsl (by decide) (by decide) (by decide)]
  cases e : isNm B N s 3 with
  | true =>
    rw [if_pos rfl]
    have := h1 e
    rw [(nm_nx hsl e).2] at this
    exact this
  | false =>
    rw [if_neg (by decide)]
    exact h0 e _
theorem vl3 {s : Nat} (hs : s ≤ N) (h : isNm B N s 3 = true) : ∃ z : Int, vl B N s = zI z ∧ 0 ≤ z ∧ z ≤ 999 := by
  obtain ⟨z, e, h0, h1⟩ := vl_bd hs (by decide) h
  have h1 : z < 1000 := h1
  exact ⟨z, e, h0, by omega⟩
theorem sr_cornersOf0 {g : Gd} {post : Int32 → Unit → Prop} {v : Nat → Int32} {w : Int} (h12 : 0 ≤ g.nw ∧ g.nw ≤ 12) (hv : WG g v) (hw : g.hw w) (h : post (zI (g.cn w)) ()) : wpX11_cornersOf post v (zI w) := by
  unfold wpX11_cornersOf; unfold Gd.hw at hw
  simp (disch := omega) only [zI_lit, zI_add, zI_sub, zI_mul, zI_neg, zI_le, zI_lt, zI_eq, zI_nat, zI_max, zI_min, zI_abs, forall_eq, Int.reduceNeg, Int.reduceAdd, Int.reduceMul, Int.reduceSub, Int.add_zero, Int.zero_add, Int.zero_mul, Int.toNat_zero]
  rw [hv.cs w hw.1 hw.2]
  exact ⟨zI_in (by omega), h⟩
def GrowC (g g' : Gd) (w : Int) : Prop := g'.Ok0 ∧ g'.nw = g.nw ∧ g'.nl = g.nl ∧ g'.nt = g.nt ∧ 1 ≤ g'.cn w ∧ ∀ a, a ≠ w → g'.cn a = g.cn a
theorem cornersAt (hN : N ≤ 400) : ∀ (k p : Nat) (g : Gd) (w : Int), N ≤ p + k → p ≤ N → sk B N p = p → g.Ok0 → g.hw w → ∃ r : GRes,
    (∀ (post : Int32 → ((Nat → Int32) × (Nat → Int32) × (Nat → Int32) × Int32 × Int32 × Int32 × Int32) → Prop) (n : Nat) (cs xs ys ws : Nat → Int32) (nw nl : Int32), k + 1 ≤ n → CG g xs ys cs ws nw nl →
      (r.1 = 1 → ∀ cs' xs' ys', CG r.2.2 xs' ys' cs' ws nw nl → post 1 (cs', xs', ys', tk B N r.2.1)) →
      (r.1 ≠ 1 → ∀ cs' xs' ys' b d v, post 0 (cs', xs', ys', zI (r.2.1 : Int), b, d, v)) →
      wpX1_readCorners_7 post (zI (N : Int)) B (n + 1) cs xs ys (tk B N p).1 (tk B N p).2.1 (tk B N p).2.2.1 (tk B N p).2.2.2 (zI w) (zI (g.cn w))) ∧
    (∀ (post : Int32 → (Int32 × Int32 × (Nat → Int32)) → Prop) (n q : Nat) (bg : Int32) (v : Nat → Int32), k ≤ n → q ≤ N → sk B N q = p → WG g v →
      (r.1 ≠ 0 → ∀ v', WG r.2.2 v' → Fp v v' → post 1 (zI (r.2.1 : Int), zI (r.2.1 : Int), v')) →
      (r.1 = 0 → ∀ q' v', Fp v v' → post 0 (q', zI (r.2.1 : Int), v')) →
      wpX11_readCorners_0 post (zI (N : Int)) B (n + 1) (zI (q : Int)) bg v (zI w)) ∧
    (r.1 ≠ 0 → GrowC g r.2.2 w ∧ p < r.2.1 ∧ r.2.1 ≤ N ∧ sk B N r.2.1 = r.2.1) ∧
    (r.1 ≠ 0 → r.1 ≠ 1 → r.2.1 ≠ N ∧ isSg B N r.2.1 59 = false) := by
  intro k
  induction k with
  | zero =>
    intro p g w hk hp hsp hg hw
    have h12 := hg.1
    have hcw := hg.2.1 w hw.1 hw.2
    have hnm : isNm B N p 3 = false := by
      cases e : isNm B N p 3 with
      | false => rfl
      | true => have := (nm_nx hp e).1; omega
    refine ⟨(0, p, g), ?_, ?_, fun h => absurd rfl h, fun h _ => absurd rfl h⟩
    · intro post n cs xs ys ws nw nl hn hC h1 h0
      unfold wpX1_readCorners_7
      have h0 := h0 (show (0 : Nat) ≠ 1 by decide)
      refine ⟨fun _ => h0 _ _ _ _ _ _, fun _ => ?_⟩
      exact wp_word' (fun post hh => sp_isNumber (m := 3) hN hp (by decide) hh) (fun _ => h0 _ _ _ _ _ _) (fun e => absurd (hnm.symm.trans e) (by decide))
    · intro post n q bg v hn hq hsk hv h1 h0
      unfold wpX11_readCorners_0
      refine sr_number hN hq hsk (fun e => absurd (hnm.symm.trans e) (by decide)) (fun _ pt => ?_)
      refine sr_cornersOf0 h12 hv hw ⟨fun _ => h0 rfl _ _ Fp.rf, fun z => absurd (by decide) z⟩
  | succ k ih =>
    intro p g w hk hp hsp hg hw
    have h12 := hg.1
    have hcw := hg.2.1 w hw.1 hw.2
    have hw1 := hw.1
    have hw2 := hw.2
    have e30 : (30 : Int32) = zI 30 := rfl
    by_cases hfull : g.cn w = 30
    · refine ⟨(0, p, g), ?_, ?_, fun h => absurd rfl h, fun h _ => absurd rfl h⟩
      · intro post n cs xs ys ws nw nl hn hC h1 h0
        unfold wpX1_readCorners_7
        rw [e30, zI_le (by omega)]
        exact ⟨fun _ => h0 (show (0 : Nat) ≠ 1 by decide) _ _ _ _ _ _, fun z => absurd (by omega) z⟩
      · intro post n q bg v hn hq hsk hv h1 h0
        unfold wpX11_readCorners_0
        refine sr_number hN hq hsk (fun e => ?_) (fun _ pt => ?_)
        · refine sr_cornersOf0 h12 hv hw ⟨fun _ => h0 rfl _ _ Fp.rf, fun _ => ⟨fun z => absurd (by rw [hfull]; rfl) z, fun _ => h0 rfl _ _ Fp.rf⟩⟩
        · refine sr_cornersOf0 h12 hv hw ⟨fun _ => h0 rfl _ _ Fp.rf, fun z => absurd (by decide) z⟩
    cases hnm : isNm B N p 3 with
    | false =>
      refine ⟨(0, p, g), ?_, ?_, fun h => absurd rfl h, fun h _ => absurd rfl h⟩
      · intro post n cs xs ys ws nw nl hn hC h1 h0
        unfold wpX1_readCorners_7
        have h0 := h0 (show (0 : Nat) ≠ 1 by decide)
        refine ⟨fun _ => h0 _ _ _ _ _ _, fun _ => ?_⟩
        exact wp_word' (fun post hh => sp_isNumber (m := 3) hN hp (by decide) hh) (fun _ => h0 _ _ _ _ _ _) (fun e => absurd (hnm.symm.trans e) (by decide))
      · intro post n q bg v hn hq hsk hv h1 h0
        unfold wpX11_readCorners_0
        refine sr_number hN hq hsk (fun e => absurd (hnm.symm.trans e) (by decide)) (fun _ pt => ?_)
        refine sr_cornersOf0 h12 hv hw ⟨fun _ => h0 rfl _ _ Fp.rf, fun z => absurd (by decide) z⟩
    | true =>
      obtain ⟨x, ex, hx0, hx1⟩ := vl3 hp hnm
      have hlt := (nm_nx hp hnm).1
      have hn1 := nx_bd (B := B) hlt
      have hs1 := sk_le (B := B) (N := N) (p := nx B N p) hn1.2
      have hss1 : sk B N (sk B N (nx B N p)) = sk B N (nx B N p) := sk_sk hn1.2
      generalize hq1 : sk B N (nx B N p) = p1 at hs1 hss1
      have hxn : ¬ zI x < 0 := by rw [show (0 : Int32) = zI 0 from rfl, zI_lt (by omega)]; omega
      have hn30 : ¬ zI (g.cn w) = 30 := by rw [e30, zI_eq (by omega)]; exact hfull
      have ix : vp_in (zI (w * 30 + g.cn w)) 360 := zI_in (by omega)
      have ec : (zI w * 30 : Int32) + zI (g.cn w) = zI (w * 30 + g.cn w) := by rw [e30, zI_mul, zI_add]
      cases hnm1 : isNm B N p1 3 with
      | false =>
        refine ⟨(0, p1, g), ?_, ?_, fun h => absurd rfl h, fun h _ => absurd rfl h⟩
        · intro post n cs xs ys ws nw nl hn hC h1 h0
          unfold wpX1_readCorners_7
          have h0 := h0 (show (0 : Nat) ≠ 1 by decide)
          rw [ec, e30, zI_le (by omega)]
          refine ⟨fun z => absurd z (by omega), fun _ => ?_⟩
          refine wp_word' (fun post hh => sp_isNumber (m := 3) hN hp (by decide) hh) (fun e => absurd (e.symm.trans hnm) (by decide)) (fun _ => ⟨ix, ?_⟩)
          refine sp_toNext hN hn1.2 ?_
          rw [hq1]
          exact wp_word' (fun post hh => sp_isNumber (m := 3) hN hs1.2 (by decide) hh) (fun _ => h0 _ _ _ _ _ _) (fun e => absurd (hnm1.symm.trans e) (by decide))
        · intro post n q bg v hn hq hsk hv h1 h0
          unfold wpX11_readCorners_0
          refine sr_number hN hq hsk (fun _ => ?_) (fun e => absurd (e.symm.trans hnm) (by decide))
          rw [ex]
          refine sr_cornersOf0 h12 hv hw ⟨fun z => absurd z hxn, fun _ => ⟨fun _ => ?_, fun z => absurd z hn30⟩⟩
          refine sr_number hN hn1.2 hq1 (fun e => absurd (hnm1.symm.trans e) (by decide)) (fun _ pt => ?_)
          exact ⟨fun z => absurd z (by decide), fun _ => h0 rfl _ _ Fp.rf⟩
      | true =>
        obtain ⟨y, ey, hy0, hy1⟩ := vl3 hs1.2 hnm1
        have hlt1 := (nm_nx hs1.2 hnm1).1
        have hn2 := nx_bd (B := B) hlt1
        have hs2 := sk_le (B := B) (N := N) (p := nx B N p1) hn2.2
        have hss2 : sk B N (sk B N (nx B N p1)) = sk B N (nx B N p1) := sk_sk hn2.2
        generalize hq2 : sk B N (nx B N p1) = p2 at hs2 hss2
        have hc30 : g.cn w < 30 := by omega
        have hg1 := hg.addC hw hc30 ⟨hx0, hx1⟩ ⟨hy0, hy1⟩
        have hwi : vp_in (zI w) 12 := zI_in (by omega)
        have hyn : (0 : Int32) ≤ zI y := by rw [show (0 : Int32) = zI 0 from rfl, zI_le (by omega)]; exact hy0
        have ecn : (g.addC w x y).cn w = g.cn w + 1 := by rw [Gd.addC_cn, if_pos rfl]
        have grow : GrowC g (g.addC w x y) w := ⟨hg1, rfl, rfl, rfl, by rw [ecn]; omega, fun a ha => by rw [Gd.addC_cn, if_neg ha]⟩
        have cl : ∀ (post : Int32 → ((Nat → Int32) × (Nat → Int32) × (Nat → Int32) × Int32 × Int32 × Int32 × Int32) → Prop) (n : Nat) (cs xs ys ws : Nat → Int32) (nw nl : Int32), CG g xs ys cs ws nw nl →
            (∀ cs' xs' ys', CG (g.addC w x y) xs' ys' cs' ws nw nl → (p2 = N → post 1 (cs', xs', ys', tk B N p2)) ∧ (p2 ≠ N → isSg B N p2 59 = true → post 1 (cs', xs', ys', tk B N p2)) ∧ (p2 ≠ N → isSg B N p2 59 = false → wpX1_readCorners_7 post (zI (N : Int)) B n cs' xs' ys' (tk B N p2).1 (tk B N p2).2.1 (tk B N p2).2.2.1 (tk B N p2).2.2.2 (zI w) (zI (g.cn w + 1)))) →
            wpX1_readCorners_7 post (zI (N : Int)) B (n + 1) cs xs ys (tk B N p).1 (tk B N p).2.1 (tk B N p).2.2.1 (tk B N p).2.2.2 (zI w) (zI (g.cn w)) := by
          intro post n cs xs ys ws nw nl hC hK
          have hK := hK _ _ _ (hC.addC hg hw hc30 x y)
          unfold wpX1_readCorners_7
          rw [ec, e30, zI_le (by omega), zI_nat (a := w * 30 + g.cn w) (by omega), zI_nat (a := w) (by omega), hC.cs w hw1 hw2]
          refine ⟨fun z => absurd z (by omega), fun _ => ?_⟩
          refine wp_word' (fun post hh => sp_isNumber (m := 3) hN hp (by decide) hh) (fun e => absurd (e.symm.trans hnm) (by decide)) (fun _ => ⟨ix, ?_⟩)
          refine sp_toNext hN hn1.2 ?_
          rw [hq1]
          refine wp_word' (fun post hh => sp_isNumber (m := 3) hN hs1.2 (by decide) hh) (fun e => absurd (e.symm.trans hnm1) (by decide)) (fun _ => ⟨ix, ?_⟩)
          refine sp_toNext hN hn2.2 ?_
          rw [hq2]
          refine ⟨hwi, hwi, ?_⟩
          have e1 : zI (g.cn w) + 1 = zI (g.cn w + 1) := zI_add _ 1
          have evp : (tk B N p).2.2.2 = zI x := ex
          have evp1 : (tk B N p1).2.2.2 = zI y := ey
          rw [e1, evp, evp1]
          refine sp_isOver hN hs2.2 (fun hlt2 => ⟨fun z => absurd rfl z, fun _ => ?_⟩) (fun he => ⟨fun _ => hK.1 he, fun z => absurd z (by decide)⟩)
          refine wp_word (fun post hh => sp_isSign hN hs2.2 hh) (fun e v11 e11 => ?_) (fun e => hK.2.1 (by omega) e)
          rw [e11]
          exact hK.2.2 (by omega) e
        have rf : ∀ (post : Int32 → (Int32 × Int32 × (Nat → Int32)) → Prop) (n q : Nat) (bg : Int32) (v : Nat → Int32), q ≤ N → sk B N q = p → WG g v →
            (∀ v', WG (g.addC w x y) v' → Fp v v' → (¬ (p2 < N ∧ bDg B p2 = true) → post 1 (zI (p2 : Int), zI (p2 : Int), v')) ∧ (p2 < N ∧ bDg B p2 = true → wpX11_readCorners_0 post (zI (N : Int)) B n (zI (p2 : Int)) (zI (p2 : Int)) v' (zI w))) →
            wpX11_readCorners_0 post (zI (N : Int)) B (n + 1) (zI (q : Int)) bg v (zI w) := by
          intro post n q bg v hq hsk hv hK
          have hK := hK _ (hv.addC hg hw hc30 x y) (Fp.wc hg hw hc30)
          unfold wpX11_readCorners_0
          refine sr_number hN hq hsk (fun _ => ?_) (fun e => absurd (e.symm.trans hnm) (by decide))
          rw [ex]
          refine sr_cornersOf0 h12 hv hw ⟨fun z => absurd z hxn, fun _ => ⟨fun _ => ?_, fun z => absurd z hn30⟩⟩
          refine sr_number hN hn1.2 hq1 (fun _ => ?_) (fun e => absurd (e.symm.trans hnm1) (by decide))
          rw [ey]
          have a1 : (14 : Int32) + 61 * zI w = zI (14 + 61 * w) := by
            rw [show (14 : Int32) = zI 14 from rfl, show (61 : Int32) = zI 61 from rfl, zI_mul, zI_add]
          have a2 : zI (14 + 61 * w) + 1 + 2 * zI (g.cn w) = zI (14 + 61 * w + 1 + 2 * g.cn w) := by
            rw [show (1 : Int32) = zI 1 from rfl, show (2 : Int32) = zI 2 from rfl, zI_mul, zI_add, zI_add]
          have a3 : zI (14 + 61 * w) + 2 + 2 * zI (g.cn w) = zI (14 + 61 * w + 2 + 2 * g.cn w) := by
            rw [show (2 : Int32) = zI 2 from rfl, zI_mul, zI_add, zI_add]
          rw [a1, a2, a3, zI_nat (a := 14 + 61 * w + 1 + 2 * g.cn w) (by omega), zI_nat (a := 14 + 61 * w + 2 + 2 * g.cn w) (by omega), zI_nat (a := 14 + 61 * w) (by omega)]
          have a4 : upd (upd v (14 + 61 * w + 1 + 2 * g.cn w).toNat (zI x)) (14 + 61 * w + 2 + 2 * g.cn w).toNat (zI y) (14 + 61 * w).toNat + 1 = zI (g.cn w + 1) := by
            rw [upd_eq, upd_eq, if_neg (by omega), if_neg (by omega), hv.cs w hw1 hw2]; exact zI_add _ 1
          rw [a4]
          refine ⟨fun _ => ⟨zI_in (by omega), zI_in (by omega), zI_in (by omega), zI_in (by omega), ?_⟩, fun z => absurd hyn z⟩
          refine sr_blanks hN hn2.2 ?_
          rw [hq2]
          refine sr_isAt hN hs2.2 ?_
          by_cases hb : p2 < N ∧ bDg B p2 = true
          · have hb' := hb.2
            unfold bDg at hb'
            rw [decide_eq_true_eq] at hb'
            rw [decide_eq_true ⟨hb.1, hb'⟩]
            exact ⟨fun _ => hK.2 hb, fun z => absurd z (by decide)⟩
          · rw [decide_eq_false (fun z => hb ⟨z.1, by unfold bDg; rw [decide_eq_true_eq]; exact z.2⟩)]
            exact ⟨fun z => absurd rfl z, fun _ => hK.1 hb⟩
        by_cases hE : p2 = N
        · refine ⟨(1, p2, g.addC w x y), ?_, ?_, fun _ => ⟨grow, by show p < p2; omega, hs2.2, hss2⟩, fun _ h => absurd rfl h⟩
          · intro post n cs xs ys ws nw nl hn hC h1 h0
            exact cl post n cs xs ys ws nw nl hC (fun cs' xs' ys' hC' => ⟨fun _ => h1 rfl _ _ _ hC', fun z => absurd hE z, fun z => absurd hE z⟩)
          · intro post n q bg v hn hq hsk hv h1 h0
            exact rf post n q bg v hq hsk hv (fun v' hv' hf' => ⟨fun _ => h1 (show (1 : Nat) ≠ 0 by decide) _ hv' hf', fun z => absurd z.1 (by omega)⟩)
        cases hsg : isSg B N p2 59 with
        | true =>
          have hb59 : B p2 = 59 := by unfold isSg at hsg; rw [decide_eq_true_eq] at hsg; exact hsg.2
          have hnd : ¬ bDg B p2 = true := by unfold bDg; rw [hb59]; decide
          refine ⟨(1, p2, g.addC w x y), ?_, ?_, fun _ => ⟨grow, by show p < p2; omega, hs2.2, hss2⟩, fun _ h => absurd rfl h⟩
          · intro post n cs xs ys ws nw nl hn hC h1 h0
            exact cl post n cs xs ys ws nw nl hC (fun cs' xs' ys' hC' => ⟨fun z => absurd z hE, fun _ _ => h1 rfl _ _ _ hC', fun _ z => absurd (z.symm.trans hsg) (by decide)⟩)
          · intro post n q bg v hn hq hsk hv h1 h0
            exact rf post n q bg v hq hsk hv (fun v' hv' hf' => ⟨fun _ => h1 (show (1 : Nat) ≠ 0 by decide) _ hv' hf', fun z => absurd z.2 hnd⟩)
        | false =>
          by_cases hb : bDg B p2 = true
          · obtain ⟨r, hC', hR', hS', hT'⟩ := ih p2 (g.addC w x y) w (by omega) hs2.2 hss2 hg1 hw
            rw [ecn] at hC'
            refine ⟨r, ?_, ?_, fun h => ?_, hT'⟩
            · intro post n cs xs ys ws nw nl hn hC h1 h0
              refine cl post n cs xs ys ws nw nl hC (fun cs' xs' ys' hC2 => ⟨fun z => absurd z hE, fun _ z => absurd (hsg.symm.trans z) (by decide), fun _ _ => ?_⟩)
              obtain ⟨n', en⟩ : ∃ n', n = n' + 1 := ⟨n - 1, by omega⟩
              rw [en]
              exact hC' post n' cs' xs' ys' ws nw nl (by omega) hC2 h1 h0
            · intro post n q bg v hn hq hsk hv h1 h0
              refine rf post n q bg v hq hsk hv (fun v' hv' hf' => ⟨fun z => absurd ⟨by omega, hb⟩ z, fun _ => ?_⟩)
              obtain ⟨n', en⟩ : ∃ n', n = n' + 1 := ⟨n - 1, by omega⟩
              rw [en]
              exact hR' post n' p2 _ v' (by omega) hs2.2 hss2 hv' (fun hr v'' hv'' hf'' => h1 hr v'' hv'' (hf'.trans hf'')) (fun hr q' v'' hf'' => h0 hr q' v'' (hf'.trans hf''))
            · obtain ⟨⟨s1, s2, s3, s4, s5, s6⟩, t1, t2, t3⟩ := hS' h
              exact ⟨⟨s1, s2, s3, s4, s5, fun a ha => by rw [s6 a ha, Gd.addC_cn, if_neg ha]⟩, by omega, t2, t3⟩
          · have hnn : isNm B N p2 3 = false := by
              unfold isNm dn
              rw [ru_no hb]
              exact decide_eq_false (by omega)
            refine ⟨(2, p2, g.addC w x y), ?_, ?_, fun _ => ⟨grow, by show p < p2; omega, hs2.2, hss2⟩, fun _ _ => ⟨hE, hsg⟩⟩
            · intro post n cs xs ys ws nw nl hn hC h1 h0
              have h0 := h0 (show (2 : Nat) ≠ 1 by decide)
              refine cl post n cs xs ys ws nw nl hC (fun cs' xs' ys' hC2 => ⟨fun z => absurd z hE, fun _ z => absurd (hsg.symm.trans z) (by decide), fun _ _ => ?_⟩)
              obtain ⟨n', en⟩ : ∃ n', n = n' + 1 := ⟨n - 1, by omega⟩
              rw [en]
              unfold wpX1_readCorners_7
              refine ⟨fun _ => h0 _ _ _ _ _ _, fun _ => ?_⟩
              exact wp_word' (fun post hh => sp_isNumber (m := 3) hN hs2.2 (by decide) hh) (fun _ => h0 _ _ _ _ _ _) (fun e => absurd (hnn.symm.trans e) (by decide))
            · intro post n q bg v hn hq hsk hv h1 h0
              exact rf post n q bg v hq hsk hv (fun v' hv' hf' => ⟨fun _ => h1 (show (2 : Nat) ≠ 0 by decide) _ hv' hf', fun z => absurd z.2 hb⟩)
end
