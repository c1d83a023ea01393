def RD (W : (Int32 → (Int32 × Int32 × Int32 × Int32 × (Nat → Int32)) → Prop) → Int32 → Int32 → Int32 → Int32 → (Nat → Int32) → Prop) (B : Nat → Int32) (N dp p : Nat) (r : Res) : Prop :=
  ∀ (post : Int32 → (Int32 × Int32 × Int32 × Int32 × (Nat → Int32)) → Prop) (q : Nat) (bg : Int32) (acc : List (Int32 × Int32)) (v : Nat → Int32), q ≤ N → sk B N q = p → Ld v 1708 acc → acc.length + 2 ≤ p →
    (r.1 = true → ∀ (q' : Nat) (bg' : Int32) v', q' ≤ N → sk B N q' = r.pos → Ld v' 1708 (acc ++ r.ss) → Fr v v' → post 1 (zI (q' : Int), bg', zI (dp : Int), zI ((acc ++ r.ss).length : Int), v')) →
    (r.1 = false → ∀ q' d' s' v', Fr v v' → post 0 (q', zI (r.pos : Int), d', s', v')) →
    W post (zI (q : Int)) bg (zI (dp : Int)) (zI (acc.length : Int)) v
def okB (B : Nat → Int32) (N p zm : Nat) (r : Res) : Prop := p < r.pos ∧ r.pos ≤ N ∧ sk B N r.pos = r.pos ∧ r.os.length + p ≤ r.pos + 1 ∧ r.ss.length + p ≤ r.pos ∧ ∃ D : (Nat → Int32) → Bool, ∀ F, (∀ (l : Int32) (z : Nat), z < zm → ∃ l', Ce F r.os (0, l, zI (z : Int)) (0, l', zI ((2 * z + bt (D F) : Nat) : Int))) ∧ ∀ a, Re F r.ss a (b32 (D F) :: a)
section
variable {B : Nat → Int32} {N : Nat}
theorem nx_sg {p : Nat} {c : Int32} (hl : ¬ (¬ c < 97 ∧ ¬ 122 < c)) (hd : ¬ (¬ c < 48 ∧ ¬ 57 < c)) (h : isSg B N p c = true) : p < N ∧ nx B N p = p + 1 := by
  unfold isSg at h
  rw [decide_eq_true_eq] at h
  refine ⟨h.1, ?_⟩
  unfold nx
  rw [if_pos h.1, if_neg (by unfold bLe; rw [h.2, decide_eq_true_eq]; exact hl), if_neg (by unfold bDg; rw [h.2, decide_eq_true_eq]; exact hd)]
theorem sumAt (hN : N ≤ 400) {p : Nat} (hp : p ≤ N) : ∃ r : Res,
    CC (fun post s f h b d v => wpX2_readSum post (zI (N : Int)) B s f h b d v) B N p r ∧
    RC (fun post q bg st v => wpX11_readSum post (zI (N : Int)) B q bg st v) B N p r ∧
    (r.1 = true → p < r.pos ∧ okS B N p r ∧ ∃ val : (Nat → Int32) → Int32, ∀ F, (∀ s l t, Ce F r.os (s, l, t) (s + val F, l, t)) ∧ ∀ a, Re F r.ss a (val F :: a)) := by
  by_cases h7 : -7 ≤ (prt B N p).1
  · obtain ⟨hlt2, val2, hval2⟩ := prt_sem hp h7
    have hn2 := nx_bd (B := B) hlt2
    have hs3 := sk_le (B := B) (N := N) (p := nx B N p) hn2.2
    have hp3 : sk B N (sk B N (nx B N p)) = sk B N (nx B N p) := sk_sk hn2.2
    have erpt : rpt B N p = (true, sk B N (nx B N p), [(prt B N p).1], [(prt B N p).2]) := by unfold rpt; rw [if_pos h7]
    generalize hq3 : sk B N (nx B N p) = p3 at hs3 hp3 erpt
    obtain ⟨r, hC, hR, hS⟩ := sumTail hN N p3 (by omega) hs3.2 hp3
    refine ⟨(r.1, r.pos, (prt B N p).1 :: r.os, (prt B N p).2 :: r.ss), ?_, ?_, fun h => ?_⟩
    · intro post acc f hf hl h1 h0
      show wpX2_readSum post (zI (N : Int)) B _ f _ _ _ _
      refine ⟨N + 1, ?_⟩
      unfold wpX2_readSum_2
      rw [show (400 : Int32) = zI ((400 : Nat) : Int) from rfl, show (0 : Int32) = zI ((0 : Nat) : Int) from rfl, zN_le (by omega)]
      refine ⟨fun z => absurd z (by omega), fun _ => sp_part hN hp ?_⟩
      unfold wpX2_readSum_29
      refine ⟨fun _ => ?_, fun z => absurd h7 z⟩
      refine sp_give hf (by omega) (fun f' hf' => ?_)
      show wpX8_toNext _ (zI (N : Int)) B _ (zI (nx B N p : Int)) _ _
      refine sp_toNext hN hn2.2 ?_
      rw [hq3]
      have := hC N 0 (Nat.le_refl N) (by omega) post (acc ++ [(prt B N p).1]) f' hf' (by rw [List.length_append, List.length_singleton]; omega)
      refine this (fun hr f'' hf'' => ?_) (fun hr => h0 hr)
      have := h1 hr f'' (by rw [List.append_assoc] at hf''; exact hf'')
      rw [List.append_assoc]
      exact this
    · intro post q bg acc v hq hsk hv hl h1 h0
      show wpX11_readSum post (zI (N : Int)) B (zI (q : Int)) bg (zI (acc.length : Int)) v
      unfold wpX11_readSum
      refine sr_part (p := p) hN _ q _ acc v hq hsk hv (by omega) (fun _ => ?_) (fun z => ?_)
      · rw [erpt]
        intro q' bg' v' hq' hsk' hv' hf'
        refine ⟨fun _ => ⟨N + 1, ?_⟩, fun z => absurd z (by decide)⟩
        refine hR N (Nat.le_refl N) post q' bg' (acc ++ [(prt B N p).2]) v' hq' hsk' hv' (by rw [List.length_append, List.length_singleton]; omega) (fun hr q3 bg3 v3 hq3' hsk3 hv3 hf3 => ?_) (fun hr q3 s3 v3 hf3 => ?_)
        · have := h1 hr q3 bg3 v3 hq3' hsk3 (by rw [List.append_assoc] at hv3; exact hv3) (hf'.trans hf3)
          rw [List.append_assoc]
          exact this
        · exact h0 hr _ _ _ (hf'.trans hf3)
      · rw [erpt] at z; exact tf_ z
    · obtain ⟨⟨o1, o2, o3, o4, o5⟩, val, hval⟩ := hS h
      refine ⟨by show p < r.pos; omega, ⟨by show p ≤ r.pos; omega, o2, o3, by show (List.length (_ :: r.os)) + p ≤ r.pos; rw [List.length_cons]; omega, by show (List.length (_ :: r.ss)) + p ≤ r.pos; rw [List.length_cons]; omega⟩, fun F => val2 F + val F, fun F => ⟨fun s l t => ?_, fun a => ?_⟩⟩
      · have := ((hval2 F).1 s l t).app ((hval F).1 (s + val2 F) l t)
        rw [Int32.add_assoc] at this
        exact this
      · exact ((hval2 F).2 a).app ((hval F).2 (val2 F) a)
  · have erpt : rpt B N p = (false, p, [], []) := by unfold rpt; rw [if_neg h7]
    refine ⟨(false, p, [], []), ?_, ?_, fun h => ff_ h⟩
    · intro post acc f hf hl h1 h0
      show wpX2_readSum post (zI (N : Int)) B _ f _ _ _ _
      refine ⟨N + 1, ?_⟩
      unfold wpX2_readSum_2
      rw [show (400 : Int32) = zI ((400 : Nat) : Int) from rfl, show (0 : Int32) = zI ((0 : Nat) : Int) from rfl, zN_le (by omega)]
      refine ⟨fun z => absurd z (by omega), fun _ => sp_part hN hp ?_⟩
      unfold wpX2_readSum_29
      exact ⟨fun z => absurd z h7, fun _ => h0 rfl _ _ _ _ _⟩
    · intro post q bg acc v hq hsk hv hl h1 h0
      show wpX11_readSum post (zI (N : Int)) B (zI (q : Int)) bg (zI (acc.length : Int)) v
      unfold wpX11_readSum
      refine sr_part (p := p) hN _ q _ acc v hq hsk hv (by omega) (fun z => ?_) (fun _ => ?_)
      · rw [erpt] at z; exact ff_ z
      · rw [erpt]
        intro q' s' v' hf'
        exact ⟨fun z => absurd rfl z, fun _ => h0 rfl _ _ _ hf'⟩
def wCmp (kR0 kR1 kR2 : (Int32 → (Int32 × Int32 × Int32 × Int32 × (Nat → Int32)) → Prop) → Int32 → (Nat → Int32) → Int32 → Int32 → Int32 → Int32 → (Nat → Int32) → Prop) (g0_end : Int32) (f1 : Nat → Int32) (post : Int32 → (Int32 × Int32 × Int32 × Int32 × (Nat → Int32)) → Prop) (pt bg dp st : Int32) (f2 : Nat → Int32) : Prop :=
  wpX11_readSum (fun (r6 : Int32) (u5 : Int32 × Int32 × Int32 × (Nat → Int32)) =>
       (¬ r6 = 0 →
        wpX11_sign (fun (r8 : Int32) (u7 : Int32 × Int32) =>
         (¬ r8 = 0 →
          wpX11_readAtom_143 kR0 kR1 kR2 post g0_end f1 u7.1 u7.2 dp u5.2.2.1 u5.2.2.2 r8) ∧
         (r8 = 0 →
          wpX11_sign (fun (r10 : Int32) (u9 : Int32 × Int32) =>
           (r10 = 0 →
            post 0 (u9.1, u9.2, dp, u5.2.2.1, u5.2.2.2)) ∧
           (¬ r10 = 0 →
            wpX11_readAtom_143 kR0 kR1 kR2 post g0_end f1 u9.1 u9.2 dp u5.2.2.1 u5.2.2.2 r8)) g0_end f1 u7.1 u7.2 62)) g0_end f1 u5.1 u5.2.1 60) ∧
       (r6 = 0 →
        post 0 (u5.1, u5.2.1, dp, u5.2.2.1, u5.2.2.2))) g0_end f1 pt bg st f2
theorem cmpAt (hN : N ≤ 400) {p : Nat} (hp : p ≤ N) : ∃ r : Res,
    CC (fun post s f h b d v => wpX2_readComparison post (zI (N : Int)) B s f h b d v) B N p r ∧
    (∀ (kR0 kR1 kR2 : (Int32 → (Int32 × Int32 × Int32 × Int32 × (Nat → Int32)) → Prop) → Int32 → (Nat → Int32) → Int32 → Int32 → Int32 → Int32 → (Nat → Int32) → Prop) (dp : Nat), RD (wCmp kR0 kR1 kR2 (zI (N : Int)) B) B N dp p r) ∧
    (r.1 = true → okB B N p 16384 r) := by
  obtain ⟨r1, hC1, hR1, hS1⟩ := sumAt (B := B) hN hp
  cases hr1 : r1.1 with
  | false =>
    refine ⟨(false, r1.pos, [], []), ?_, fun kR0 kR1 kR2 dp => ?_, fun h => ff_ h⟩
    · intro post acc f hf hl h1 h0
      show wpX2_readComparison post (zI (N : Int)) B _ f _ _ _ _
      unfold wpX2_readComparison
      refine hC1 _ acc f hf hl (fun z => absurd (hr1.symm.trans z) (by decide)) (fun _ s' f' b d v => ?_)
      exact ⟨fun z => absurd rfl z, fun _ => h0 rfl _ _ _ _ _⟩
    · intro post q bg acc v hq hsk hv hl h1 h0
      unfold wCmp
      refine hR1 _ q bg acc v hq hsk hv hl (fun z => absurd (hr1.symm.trans z) (by decide)) (fun _ q' s' v' hf' => ?_)
      exact ⟨fun z => absurd rfl z, fun _ => h0 rfl _ _ _ _ hf'⟩
  | true =>
    obtain ⟨o0, ⟨o1, o2, o3, o4, o5⟩, val1, hval1⟩ := hS1 hr1
    cases hlt : isSg B N r1.pos 60 with
    | false =>
      cases hgt : isSg B N r1.pos 62 with
      | false =>
        refine ⟨(false, r1.pos, [], []), ?_, fun kR0 kR1 kR2 dp => ?_, fun h => ff_ h⟩
        · intro post acc f hf hl h1 h0
          show wpX2_readComparison post (zI (N : Int)) B _ f _ _ _ _
          unfold wpX2_readComparison
          refine hC1 _ acc f hf hl (fun _ f' hf' => ⟨fun _ => ?_, fun z => absurd z (by decide)⟩) (fun z => absurd (hr1.symm.trans z) (by decide))
          refine sp_isSign hN o2 ?_
          rw [hlt]
          refine ⟨fun e => absurd rfl e, fun _ => ?_⟩
          refine wp_word' (fun post hh => sp_isSign hN o2 hh) (fun _ => ?_) (fun e => absurd (hgt.symm.trans e) (by decide))
          exact h0 rfl _ _ _ _ _
        · intro post q bg acc v hq hsk hv hl h1 h0
          unfold wCmp
          refine hR1 _ q bg acc v hq hsk hv hl (fun _ q' bg' v' hq' hsk' hv' hf' => ⟨fun _ => ?_, fun z => absurd z (by decide)⟩) (fun z => absurd (hr1.symm.trans z) (by decide))
          refine sr_sign hN hq' (fun e => ?_) (fun _ => ⟨fun z => absurd rfl z, fun _ => ?_⟩)
          · rw [hsk', hlt] at e; exact absurd e (by decide)
          · rw [hsk']
            refine sr_sign hN o2 (fun e => ?_) (fun _ => ⟨fun _ => ?_, fun z => absurd rfl z⟩)
            · rw [o3, hgt] at e; exact absurd e (by decide)
            · rw [o3]; exact h0 rfl _ _ _ _ hf'
      | true =>
        obtain ⟨hlt1, enx⟩ := nx_sg (by decide) (by decide) hgt
        have hs2 := sk_le (B := B) (N := N) (p := r1.pos + 1) (by omega)
        generalize hq2 : sk B N (r1.pos + 1) = p2 at hs2
        obtain ⟨r2, hC2, hR2, hS2⟩ := sumAt (B := B) hN hs2.2
        refine ⟨(r2.1, r2.pos, r1.os ++ [-8] ++ r2.os ++ [-10], r1.ss ++ r2.ss ++ [(10, 0)]), ?_, fun kR0 kR1 kR2 dp => ?_, fun h => ?_⟩
        · intro post acc f hf hl h1 h0
          show wpX2_readComparison post (zI (N : Int)) B _ f _ _ _ _
          unfold wpX2_readComparison
          refine hC1 _ acc f hf hl (fun _ f' hf' => ⟨fun _ => ?_, fun z => absurd z (by decide)⟩) (fun z => absurd (hr1.symm.trans z) (by decide))
          refine sp_isSign hN o2 ?_
          rw [hlt]
          refine ⟨fun e => absurd rfl e, fun _ => ?_⟩
          refine wp_word' (b := isSg B N r1.pos 62) (fun post hh => sp_isSign hN o2 hh) (fun e => absurd (e.symm.trans hgt) (by decide)) (fun _ => ?_)
          unfold wpX2_readComparison_32
          refine sp_give hf' (by rw [List.length_append]; omega) (fun f2 hf2 => ?_)
          show wpX8_toNext _ (zI (N : Int)) B _ (zI (nx B N r1.pos : Int)) _ _
          rw [enx]
          refine sp_toNext hN (by omega) ?_
          rw [hq2]
          refine hC2 _ _ f2 hf2 (by rw [List.length_append, List.length_append, List.length_singleton]; omega) (fun hr2 f3 hf3 => ?_) (fun hr2 s' f' b d v => ?_)
          · refine ⟨fun _ => ⟨fun _ => ?_, fun z => absurd rfl z⟩, fun z => absurd z (by decide)⟩
            obtain ⟨t0, ⟨t1, t2, t3, t4, t5⟩, val2, hval2⟩ := hS2 hr2
            unfold wpX2_readComparison_64
            refine sp_give hf3 (by rw [List.length_append, List.length_append, List.length_append, List.length_singleton]; omega) (fun f4 hf4 => ?_)
            have := h1 hr2 f4 (by simpa only [List.append_assoc] using hf4)
            simpa only [List.append_assoc] using this
          · exact ⟨fun z => absurd rfl z, fun _ => h0 hr2 _ _ _ _ _⟩
        · intro post q bg acc v hq hsk hv hl h1 h0
          unfold wCmp
          refine hR1 _ q bg acc v hq hsk hv hl (fun _ q' bg' v' hq' hsk' hv' hf' => ⟨fun _ => ?_, fun z => absurd z (by decide)⟩) (fun z => absurd (hr1.symm.trans z) (by decide))
          refine sr_sign hN hq' (fun e => ?_) (fun _ => ⟨fun z => absurd rfl z, fun _ => ?_⟩)
          · rw [hsk', hlt] at e; exact absurd e (by decide)
          · rw [hsk']
            refine sr_sign hN o2 (fun _ => ⟨fun z => absurd z (by decide), fun _ => ?_⟩) (fun e => ?_)
            · rw [o3]
              unfold wpX11_readAtom_143
              refine hR2 _ (r1.pos + 1) _ _ v' (by omega) hq2 hv' (by rw [List.length_append]; omega) (fun hr2 q3 bg3 v3 hq3 hsk3 hv3 hf3 => ?_) (fun hr2 q3 s3 v3 hf3 => ?_)
              · refine ⟨fun _ => ⟨fun _ => ?_, fun z => absurd rfl z⟩, fun z => absurd z (by decide)⟩
                obtain ⟨t0, ⟨t1, t2, t3, t4, t5⟩, val2, hval2⟩ := hS2 hr2
                unfold wpX11_readAtom_164
                refine sr_emits hv3 (by rw [List.length_append, List.length_append]; omega) (fun v4 hv4 hf4 => ?_)
                have := h1 hr2 q3 bg3 v4 hq3 hsk3 (by simpa only [List.append_assoc] using hv4) ((hf'.trans hf3).trans hf4)
                simpa only [List.append_assoc] using this
              · exact ⟨fun z => absurd rfl z, fun _ => h0 hr2 _ _ _ _ (hf'.trans hf3)⟩
            · rw [o3, hgt] at e; exact absurd e (by decide)
        · obtain ⟨t0, ⟨t1, t2, t3, t4, t5⟩, val2, hval2⟩ := hS2 h
          refine ⟨by show p < r2.pos; omega, t2, t3, by show List.length (r1.os ++ [-8] ++ r2.os ++ [-10]) + p ≤ r2.pos + 1; simp only [List.length_append, List.length_singleton]; omega, by show List.length (r1.ss ++ r2.ss ++ [(10, 0)]) + p ≤ r2.pos; simp only [List.length_append, List.length_singleton]; omega, fun F => decide (¬ val1 F ≤ val2 F), fun F => ⟨fun l z hz => ⟨val1 F, ?_⟩, fun a => ?_⟩⟩
          · have c1 := (hval1 F).1 0 l (zI (z : Int))
            rw [Int32.zero_add] at c1
            have c2 : Ce F [-8] (val1 F, l, zI (z : Int)) (0, val1 F, zI (z : Int)) := Ce.turn
            have c3 := (hval2 F).1 0 (val1 F) (zI (z : Int))
            rw [Int32.zero_add] at c3
            have c4 : Ce F [-10] (val2 F, val1 F, zI (z : Int)) (0, val1 F, _) := Ce.more
            rw [bt_push _ (by omega)] at c4
            exact ((c1.app c2).app c3).app c4
          · have c1 := (hval1 F).2 a
            have c2 := (hval2 F).2 (val1 F :: a)
            have c3 : Re F [((10 : Int32), (0 : Int32))] (val2 F :: val1 F :: a) (b32 (decide (¬ val1 F ≤ val2 F)) :: a) := Re.bin (c := 10) (by decide) (by decide)
            exact (c1.app c2).app c3
    | true =>
      obtain ⟨hlt1, enx⟩ := nx_sg (by decide) (by decide) hlt
      have hs2 := sk_le (B := B) (N := N) (p := r1.pos + 1) (by omega)
      generalize hq2 : sk B N (r1.pos + 1) = p2 at hs2
      obtain ⟨r2, hC2, hR2, hS2⟩ := sumAt (B := B) hN hs2.2
      refine ⟨(r2.1, r2.pos, r1.os ++ [-8] ++ r2.os ++ [-9], r1.ss ++ r2.ss ++ [(9, 0)]), ?_, fun kR0 kR1 kR2 dp => ?_, fun h => ?_⟩
      · intro post acc f hf hl h1 h0
        show wpX2_readComparison post (zI (N : Int)) B _ f _ _ _ _
        unfold wpX2_readComparison
        refine hC1 _ acc f hf hl (fun _ f' hf' => ⟨fun _ => ?_, fun z => absurd z (by decide)⟩) (fun z => absurd (hr1.symm.trans z) (by decide))
        refine sp_isSign hN o2 ?_
        rw [hlt]
        refine ⟨fun _ => ?_, fun e => absurd e (by decide)⟩
        unfold wpX2_readComparison_32
        refine sp_give hf' (by rw [List.length_append]; omega) (fun f2 hf2 => ?_)
        show wpX8_toNext _ (zI (N : Int)) B _ (zI (nx B N r1.pos : Int)) _ _
        rw [enx]
        refine sp_toNext hN (by omega) ?_
        rw [hq2]
        refine hC2 _ _ f2 hf2 (by rw [List.length_append, List.length_append, List.length_singleton]; omega) (fun hr2 f3 hf3 => ?_) (fun hr2 s' f' b d v => ?_)
        · refine ⟨fun _ => ⟨fun z => absurd z (by decide), fun _ => ?_⟩, fun z => absurd z (by decide)⟩
          obtain ⟨t0, ⟨t1, t2, t3, t4, t5⟩, val2, hval2⟩ := hS2 hr2
          unfold wpX2_readComparison_64
          refine sp_give hf3 (by rw [List.length_append, List.length_append, List.length_append, List.length_singleton]; omega) (fun f4 hf4 => ?_)
          have := h1 hr2 f4 (by simpa only [List.append_assoc] using hf4)
          simpa only [List.append_assoc] using this
        · exact ⟨fun z => absurd rfl z, fun _ => h0 hr2 _ _ _ _ _⟩
      · intro post q bg acc v hq hsk hv hl h1 h0
        unfold wCmp
        refine hR1 _ q bg acc v hq hsk hv hl (fun _ q' bg' v' hq' hsk' hv' hf' => ⟨fun _ => ?_, fun z => absurd z (by decide)⟩) (fun z => absurd (hr1.symm.trans z) (by decide))
        refine sr_sign hN hq' (fun _ => ⟨fun _ => ?_, fun z => absurd z (by decide)⟩) (fun e => ?_)
        · rw [hsk']
          unfold wpX11_readAtom_143
          refine hR2 _ (r1.pos + 1) _ _ v' (by omega) hq2 hv' (by rw [List.length_append]; omega) (fun hr2 q3 bg3 v3 hq3 hsk3 hv3 hf3 => ?_) (fun hr2 q3 s3 v3 hf3 => ?_)
          · refine ⟨fun _ => ⟨fun z => absurd z (by decide), fun _ => ?_⟩, fun z => absurd z (by decide)⟩
            obtain ⟨t0, ⟨t1, t2, t3, t4, t5⟩, val2, hval2⟩ := hS2 hr2
            unfold wpX11_readAtom_164
            refine sr_emits hv3 (by rw [List.length_append, List.length_append]; omega) (fun v4 hv4 hf4 => ?_)
            have := h1 hr2 q3 bg3 v4 hq3 hsk3 (by simpa only [List.append_assoc] using hv4) ((hf'.trans hf3).trans hf4)
            simpa only [List.append_assoc] using this
          · exact ⟨fun z => absurd rfl z, fun _ => h0 hr2 _ _ _ _ (hf'.trans hf3)⟩
        · rw [hsk', hlt] at e; exact absurd e (by decide)
      · obtain ⟨t0, ⟨t1, t2, t3, t4, t5⟩, val2, hval2⟩ := hS2 h
        refine ⟨by show p < r2.pos; omega, t2, t3, by show List.length (r1.os ++ [-8] ++ r2.os ++ [-9]) + p ≤ r2.pos + 1; simp only [List.length_append, List.length_singleton]; omega, by show List.length (r1.ss ++ r2.ss ++ [(9, 0)]) + p ≤ r2.pos; simp only [List.length_append, List.length_singleton]; omega, fun F => decide (¬ val2 F ≤ val1 F), fun F => ⟨fun l z hz => ⟨val1 F, ?_⟩, fun a => ?_⟩⟩
        · have c1 := (hval1 F).1 0 l (zI (z : Int))
          rw [Int32.zero_add] at c1
          have c2 : Ce F [-8] (val1 F, l, zI (z : Int)) (0, val1 F, zI (z : Int)) := Ce.turn
          have c3 := (hval2 F).1 0 (val1 F) (zI (z : Int))
          rw [Int32.zero_add] at c3
          have c4 : Ce F [-9] (val2 F, val1 F, zI (z : Int)) (0, val1 F, _) := Ce.less
          rw [bt_push _ (by omega)] at c4
          exact ((c1.app c2).app c3).app c4
        · have c1 := (hval1 F).2 a
          have c2 := (hval2 F).2 (val1 F :: a)
          have c3 : Re F [((9 : Int32), (0 : Int32))] (val2 F :: val1 F :: a) (b32 (decide (¬ val2 F ≤ val1 F)) :: a) := Re.bin (c := 9) (by decide) (by decide)
          exact (c1.app c2).app c3
end
