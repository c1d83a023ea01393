section
variable {B : Nat → Int32} {N : Nat}
theorem not_sg {p : Nat} (h : B p = txC 110) : isSg B N p 40 = false := by
  unfold isSg
  refine decide_eq_false (fun z => ?_)
  rw [h] at z
  exact absurd z.2 (by decide)
theorem okB.mono {p z1 z2 : Nat} {r : Res} (h : okB B N p z1 r) (hz : z2 ≤ z1) : okB B N p z2 r := by
  obtain ⟨o1, o2, o3, o4, o5, D, hD⟩ := h
  exact ⟨o1, o2, o3, o4, o5, D, fun F => ⟨fun l z hz' => (hD F).1 l z (by omega), (hD F).2⟩⟩
theorem dp6 {d : Nat} (hd : d ≤ 6) : (zI (d : Int) = 6) = (d = 6) := by
  rw [show (6 : Int32) = zI ((6 : Nat) : Int) from rfl, zN_eq (by omega)]
theorem dp6lt {d : Nat} (hd : d ≤ 6) : (zI (d : Int) < 6) = (d < 6) := by
  rw [show (6 : Int32) = zI ((6 : Nat) : Int) from rfl, zN_lt (by omega)]
theorem atom_of (hN : N ≤ 400) {d : Nat} (hd : d ≤ 6) (HA : d < 6 → AtomOk B N (d + 1)) (HC : d < 6 → CondOk B N (d + 1)) : AtomOk B N d := by
  have hd4 := c4 hd
  intro p hp hsp
  have hn := nx_le (B := B) hp
  cases eN : isW B (nx B N p) p [110, 111, 116] with
  | true =>
    obtain ⟨hlt, enx, eru, eW, eB⟩ := isW_at hp (by decide) eN
    have enx : nx B N p = p + 3 := enx
    have eru : ru (bLe B) N p = p + 3 := eru
    have eS : isSg B N p 40 = false := not_sg eB
    by_cases h6 : d < 6
    · have hs2 := sk_le (B := B) (N := N) (p := p + 3) (by omega)
      have hp2 : sk B N (sk B N (p + 3)) = sk B N (p + 3) := sk_sk (by omega)
      generalize hq2 : sk B N (p + 3) = p2 at hs2 hp2
      obtain ⟨ra, hCa, hRa, hSa⟩ := HA h6 p2 hs2.2 hp2
      refine ⟨(ra.1, ra.pos, ra.os ++ [-11], ra.ss ++ [(11, 0)]), ?_, ?_, fun h => ?_⟩
      · intro n hn' post acc f hf hl h1 h0
        obtain ⟨m, em⟩ : ∃ m, n = m + 1 := ⟨n - 1, by omega⟩
        rw [em]
        show wpX2_readAtom (wpX2R m 0) (wpX2R m 1) post (zI (N : Int)) B _ f _ _ _ _ (zI (d : Int))
        unfold wpX2_readAtom
        refine sp_isWord (by decide) hn.1 (by omega) ?_
        rw [eN]
        refine ⟨fun _ => ?_, fun z => absurd z (by decide)⟩
        unfold wpX2_readAtom_26
        rw [dp6lt hd, zS]
        refine ⟨fun _ => ?_, fun z => absurd h6 z⟩
        show wpX8_toNext _ (zI (N : Int)) B _ (zI (nx B N p : Int)) _ _
        rw [enx]
        refine sp_toNext hN (by omega) ?_
        rw [hq2]
        refine ⟨fun z => absurd z (by decide), fun _ => ?_⟩
        refine hCa m (by omega) _ acc f hf (by omega) (fun hr f' hf' => ?_) (fun hr s' f' b d v => ?_)
        · refine ⟨fun _ => ?_, fun z => absurd z (by decide)⟩
          obtain ⟨o1, o2, o3, o4, o5, D, hD⟩ := hSa hr
          refine sp_give hf' (by rw [List.length_append]; omega) (fun f2 hf2 => ?_)
          have := h1 hr f2 (by simpa only [List.append_assoc] using hf2)
          simpa only [List.append_assoc] using this
        · exact ⟨fun z => absurd rfl z, fun _ => h0 hr _ _ _ _ _⟩
      · intro n hn' post q bg acc v hq hsk hv hl h1 h0
        obtain ⟨m, em⟩ : ∃ m, n = m + 1 := ⟨n - 1, by omega⟩
        rw [em]
        show wpX11_readAtom (wpX11R m 0) (wpX11R m 1) (wpX11R m 2) post (zI (N : Int)) B (zI (q : Int)) bg (zI (d : Int)) (zI (acc.length : Int)) v
        unfold wpX11_readAtom
        rw [dp6 hd, zS]
        refine sr_sign hN hq (fun z => ?_) (fun _ => ⟨fun _ => ?_, fun z => absurd rfl z⟩)
        · rw [hsk, eS] at z; exact absurd z (by decide)
        · rw [hsk]
          refine sr_passes (by decide) hN hp (fun _ => ⟨fun z => absurd z (by decide), fun _ => ⟨fun _ v11 e11 => ?_, fun z => absurd z (by omega)⟩⟩) (fun z => ?_)
          · rw [hsp, eru, e11]
            refine hRa m (by omega) _ (p + 3) _ acc v (by omega) hq2 hv (by omega) (fun hr q' bg' v' hq' hsk' hv' hf' => ?_) (fun hr q' d' s' v' hf' => ?_)
            · refine ⟨fun _ v14 e14 => ?_, fun z => absurd z (by decide)⟩
              obtain ⟨o1, o2, o3, o4, o5, D, hD⟩ := hSa hr
              refine sr_emits hv' (by rw [List.length_append]; omega) (fun v2 hv2 hf2 => ?_)
              have := h1 hr q' bg' v2 hq' hsk' (by simpa only [List.append_assoc] using hv2) (hf'.trans hf2)
              have e15 : v14 = zI (d : Int) := by
                rw [e14, show (1 : Int32) = zI ((1 : Nat) : Int) from rfl, zN_sub (by omega)]; congr 1
              rw [e15]
              simpa only [List.append_assoc] using this
            · exact ⟨fun z => absurd rfl z, fun _ => h0 hr _ _ _ _ hf'⟩
          · rw [hsp, eW] at z; exact absurd z (by decide)
      · obtain ⟨o1, o2, o3, o4, o5, D, hD⟩ := hSa h
        refine ⟨by show p < ra.pos; omega, o2, o3, by show List.length (ra.os ++ [-11]) + p ≤ ra.pos + 1; simp only [List.length_append, List.length_singleton]; omega, by show List.length (ra.ss ++ [(11, 0)]) + p ≤ ra.pos; simp only [List.length_append, List.length_singleton]; omega, fun F => !(D F), fun F => ⟨fun l z hz => ?_, fun a => ?_⟩⟩
        · have h5 := c4 (d := d + 1) (by omega)
          obtain ⟨l1, c1⟩ := (hD F).1 l z (by omega)
          have c2 : Ce F [-11] (0, l1, zI ((2 * z + bt (D F) : Nat) : Int)) (0, l1, _) := Ce.not
          rw [bt_not _ (by omega)] at c2
          exact ⟨l1, c1.app c2⟩
        · have c1 := (hD F).2 a
          have c2 : Re F [((11 : Int32), (0 : Int32))] (b32 (D F) :: a) ((1 - b32 (D F)) :: a) := Re.not
          have e2 : (1 : Int32) - b32 (D F) = b32 (!(D F)) := by cases D F <;> decide
          rw [e2] at c2
          exact c1.app c2
    · refine ⟨(false, p, [], []), ?_, ?_, fun h => ff_ h⟩
      · intro n hn' post acc f hf hl h1 h0
        obtain ⟨m, em⟩ : ∃ m, n = m + 1 := ⟨n - 1, by omega⟩
        rw [em]
        show wpX2_readAtom (wpX2R m 0) (wpX2R m 1) post (zI (N : Int)) B _ f _ _ _ _ (zI (d : Int))
        unfold wpX2_readAtom
        refine sp_isWord (by decide) hn.1 (by omega) ?_
        rw [eN]
        refine ⟨fun _ => ?_, fun z => absurd z (by decide)⟩
        unfold wpX2_readAtom_26
        rw [dp6lt hd]
        exact ⟨fun z => absurd z h6, fun _ => h0 rfl _ _ _ _ _⟩
      · intro n hn' post q bg acc v hq hsk hv hl h1 h0
        obtain ⟨m, em⟩ : ∃ m, n = m + 1 := ⟨n - 1, by omega⟩
        rw [em]
        show wpX11_readAtom (wpX11R m 0) (wpX11R m 1) (wpX11R m 2) post (zI (N : Int)) B (zI (q : Int)) bg (zI (d : Int)) (zI (acc.length : Int)) v
        unfold wpX11_readAtom
        rw [dp6 hd]
        refine sr_sign hN hq (fun z => ?_) (fun _ => ⟨fun _ => ?_, fun z => absurd rfl z⟩)
        · rw [hsk, eS] at z; exact absurd z (by decide)
        · rw [hsk]
          refine sr_passes (by decide) hN hp (fun _ => ⟨fun z => absurd z (by decide), fun _ => ⟨fun z => absurd (show d = 6 by omega) z, fun _ => ?_⟩⟩) (fun z => ?_)
          · rw [hsp]; exact h0 rfl _ _ _ _ Fr.rfl'
          · rw [hsp, eW] at z; exact absurd z (by decide)
  | false =>
    have eN' := isW_no (N := N) hp (by decide) eN
    cases eS : isSg B N p 40 with
    | true =>
      obtain ⟨hlt, enx⟩ := nx_sg (by decide) (by decide) eS
      by_cases h6 : d < 6
      · have hs2 := sk_le (B := B) (N := N) (p := p + 1) (by omega)
        have hp2 : sk B N (sk B N (p + 1)) = sk B N (p + 1) := sk_sk (by omega)
        generalize hq2 : sk B N (p + 1) = p2 at hs2 hp2
        obtain ⟨ra, hCa, hRa, hSa⟩ := HC h6 p2 hs2.2 hp2
        cases hra : ra.1 with
        | false =>
          refine ⟨(false, ra.pos, [], []), ?_, ?_, fun h => ff_ h⟩
          · intro n hn' post acc f hf hl h1 h0
            obtain ⟨m, em⟩ : ∃ m, n = m + 1 := ⟨n - 1, by omega⟩
            rw [em]
            show wpX2_readAtom (wpX2R m 0) (wpX2R m 1) post (zI (N : Int)) B _ f _ _ _ _ (zI (d : Int))
            unfold wpX2_readAtom
            refine sp_isWord (by decide) hn.1 (by omega) ?_
            rw [eN]
            refine ⟨fun z => absurd rfl z, fun _ => ?_⟩
            refine sp_isSign hN hp ?_
            rw [eS]
            refine ⟨fun _ => ?_, fun z => absurd z (by decide)⟩
            unfold wpX2_readAtom_26
            rw [dp6lt hd, zS]
            refine ⟨fun _ => ?_, fun z => absurd h6 z⟩
            show wpX8_toNext _ (zI (N : Int)) B _ (zI (nx B N p : Int)) _ _
            rw [enx]
            refine sp_toNext hN (by omega) ?_
            rw [hq2]
            refine ⟨fun _ => ?_, fun z => absurd rfl z⟩
            refine hCa m (by omega) _ acc f hf (by omega) (fun z => absurd (hra.symm.trans z) (by decide)) (fun _ s' f' b d v => ?_)
            exact ⟨fun _ => h0 rfl _ _ _ _ _, fun z => absurd rfl z⟩
          · intro n hn' post q bg acc v hq hsk hv hl h1 h0
            obtain ⟨m, em⟩ : ∃ m, n = m + 1 := ⟨n - 1, by omega⟩
            rw [em]
            show wpX11_readAtom (wpX11R m 0) (wpX11R m 1) (wpX11R m 2) post (zI (N : Int)) B (zI (q : Int)) bg (zI (d : Int)) (zI (acc.length : Int)) v
            unfold wpX11_readAtom
            rw [dp6 hd, zS]
            refine sr_sign hN hq (fun _ => ⟨fun z => absurd z (by decide), fun _ => ⟨fun _ v16 e16 => ?_, fun z => absurd z (by omega)⟩⟩) (fun z => ?_)
            · rw [hsk, e16]
              refine hRa m (by omega) _ (p + 1) _ acc v (by omega) hq2 hv (by omega) (fun z => absurd (hra.symm.trans z) (by decide)) (fun hr q' d' s' v' hf' => ?_)
              exact ⟨fun z => absurd rfl z, fun _ => h0 rfl _ _ _ _ hf'⟩
            · rw [hsk, eS] at z; exact absurd z (by decide)
        | true =>
          obtain ⟨o1, o2, o3, o4, o5, D, hD⟩ := hSa hra
          cases eT : isSg B N ra.pos 41 with
          | false =>
            refine ⟨(false, ra.pos, [], []), ?_, ?_, fun h => ff_ h⟩
            · intro n hn' post acc f hf hl h1 h0
              obtain ⟨m, em⟩ : ∃ m, n = m + 1 := ⟨n - 1, by omega⟩
              rw [em]
              show wpX2_readAtom (wpX2R m 0) (wpX2R m 1) post (zI (N : Int)) B _ f _ _ _ _ (zI (d : Int))
              unfold wpX2_readAtom
              refine sp_isWord (by decide) hn.1 (by omega) ?_
              rw [eN]
              refine ⟨fun z => absurd rfl z, fun _ => ?_⟩
              refine sp_isSign hN hp ?_
              rw [eS]
              refine ⟨fun _ => ?_, fun z => absurd z (by decide)⟩
              unfold wpX2_readAtom_26
              rw [dp6lt hd, zS]
              refine ⟨fun _ => ?_, fun z => absurd h6 z⟩
              show wpX8_toNext _ (zI (N : Int)) B _ (zI (nx B N p : Int)) _ _
              rw [enx]
              refine sp_toNext hN (by omega) ?_
              rw [hq2]
              refine ⟨fun _ => ?_, fun z => absurd rfl z⟩
              refine hCa m (by omega) _ acc f hf (by omega) (fun _ f' hf' => ?_) (fun z => absurd (hra.symm.trans z) (by decide))
              refine ⟨fun z => absurd z (by decide), fun _ => ?_⟩
              refine sp_isSign hN o2 ?_
              rw [eT]
              exact ⟨fun z => absurd rfl z, fun _ => h0 rfl _ _ _ _ _⟩
            · intro n hn' post q bg acc v hq hsk hv hl h1 h0
              obtain ⟨m, em⟩ : ∃ m, n = m + 1 := ⟨n - 1, by omega⟩
              rw [em]
              show wpX11_readAtom (wpX11R m 0) (wpX11R m 1) (wpX11R m 2) post (zI (N : Int)) B (zI (q : Int)) bg (zI (d : Int)) (zI (acc.length : Int)) v
              unfold wpX11_readAtom
              rw [dp6 hd, zS]
              refine sr_sign hN hq (fun _ => ⟨fun z => absurd z (by decide), fun _ => ⟨fun _ v16 e16 => ?_, fun z => absurd z (by omega)⟩⟩) (fun z => ?_)
              · rw [hsk, e16]
                refine hRa m (by omega) _ (p + 1) _ acc v (by omega) hq2 hv (by omega) (fun _ q' bg' v' hq' hsk' hv' hf' => ?_) (fun z => absurd (hra.symm.trans z) (by decide))
                refine ⟨fun _ v19 e19 => ?_, fun z => absurd z (by decide)⟩
                refine sr_sign hN hq' (fun z => ?_) (fun _ => ⟨Or.inl rfl, ?_⟩)
                · rw [hsk', eT] at z; exact absurd z (by decide)
                · rw [hsk']; exact h0 rfl _ _ _ _ hf'
              · rw [hsk, eS] at z; exact absurd z (by decide)
          | true =>
            obtain ⟨hlt3, enx3⟩ := nx_sg (by decide) (by decide) eT
            have hs3 := sk_le (B := B) (N := N) (p := ra.pos + 1) (by omega)
            have hp3 : sk B N (sk B N (ra.pos + 1)) = sk B N (ra.pos + 1) := sk_sk (by omega)
            generalize hq3 : sk B N (ra.pos + 1) = p3 at hs3 hp3
            refine ⟨(true, p3, ra.os, ra.ss), ?_, ?_, fun _ => ?_⟩
            · intro n hn' post acc f hf hl h1 h0
              obtain ⟨m, em⟩ : ∃ m, n = m + 1 := ⟨n - 1, by omega⟩
              rw [em]
              show wpX2_readAtom (wpX2R m 0) (wpX2R m 1) post (zI (N : Int)) B _ f _ _ _ _ (zI (d : Int))
              unfold wpX2_readAtom
              refine sp_isWord (by decide) hn.1 (by omega) ?_
              rw [eN]
              refine ⟨fun z => absurd rfl z, fun _ => ?_⟩
              refine sp_isSign hN hp ?_
              rw [eS]
              refine ⟨fun _ => ?_, fun z => absurd z (by decide)⟩
              unfold wpX2_readAtom_26
              rw [dp6lt hd, zS]
              refine ⟨fun _ => ?_, fun z => absurd h6 z⟩
              show wpX8_toNext _ (zI (N : Int)) B _ (zI (nx B N p : Int)) _ _
              rw [enx]
              refine sp_toNext hN (by omega) ?_
              rw [hq2]
              refine ⟨fun _ => ?_, fun z => absurd rfl z⟩
              refine hCa m (by omega) _ acc f hf (by omega) (fun _ f' hf' => ?_) (fun z => absurd (hra.symm.trans z) (by decide))
              refine ⟨fun z => absurd z (by decide), fun _ => ?_⟩
              refine sp_isSign hN o2 ?_
              rw [eT]
              refine ⟨fun _ => ?_, fun z => absurd z (by decide)⟩
              show wpX8_toNext _ (zI (N : Int)) B _ (zI (nx B N ra.pos : Int)) _ _
              rw [enx3]
              refine sp_toNext hN (by omega) ?_
              rw [hq3]
              exact h1 rfl f' hf'
            · intro n hn' post q bg acc v hq hsk hv hl h1 h0
              obtain ⟨m, em⟩ : ∃ m, n = m + 1 := ⟨n - 1, by omega⟩
              rw [em]
              show wpX11_readAtom (wpX11R m 0) (wpX11R m 1) (wpX11R m 2) post (zI (N : Int)) B (zI (q : Int)) bg (zI (d : Int)) (zI (acc.length : Int)) v
              unfold wpX11_readAtom
              rw [dp6 hd, zS]
              refine sr_sign hN hq (fun _ => ⟨fun z => absurd z (by decide), fun _ => ⟨fun _ v16 e16 => ?_, fun z => absurd z (by omega)⟩⟩) (fun z => ?_)
              · rw [hsk, e16]
                refine hRa m (by omega) _ (p + 1) _ acc v (by omega) hq2 hv (by omega) (fun _ q' bg' v' hq' hsk' hv' hf' => ?_) (fun z => absurd (hra.symm.trans z) (by decide))
                refine ⟨fun _ v19 e19 => ?_, fun z => absurd z (by decide)⟩
                refine sr_sign hN hq' (fun _ => ⟨Or.inr rfl, ?_⟩) (fun z => ?_)
                · rw [hsk']
                  have e15 : v19 = zI (d : Int) := by
                    rw [e19, show (1 : Int32) = zI ((1 : Nat) : Int) from rfl, zN_sub (by omega)]; congr 1
                  rw [e15]
                  exact h1 rfl (ra.pos + 1) _ v' (by omega) hq3 hv' hf'
                · rw [hsk', eT] at z; exact absurd z (by decide)
              · rw [hsk, eS] at z; exact absurd z (by decide)
            · refine ⟨by show p < p3; omega, hs3.2, hp3, by show List.length ra.os + p ≤ p3 + 1; omega, by show List.length ra.ss + p ≤ p3; omega, D, fun F => ⟨fun l z hz => (hD F).1 l z hz, (hD F).2⟩⟩
      · refine ⟨(false, p, [], []), ?_, ?_, fun h => ff_ h⟩
        · intro n hn' post acc f hf hl h1 h0
          obtain ⟨m, em⟩ : ∃ m, n = m + 1 := ⟨n - 1, by omega⟩
          rw [em]
          show wpX2_readAtom (wpX2R m 0) (wpX2R m 1) post (zI (N : Int)) B _ f _ _ _ _ (zI (d : Int))
          unfold wpX2_readAtom
          refine sp_isWord (by decide) hn.1 (by omega) ?_
          rw [eN]
          refine ⟨fun z => absurd rfl z, fun _ => ?_⟩
          refine sp_isSign hN hp ?_
          rw [eS]
          refine ⟨fun _ => ?_, fun z => absurd z (by decide)⟩
          unfold wpX2_readAtom_26
          rw [dp6lt hd]
          exact ⟨fun z => absurd z h6, fun _ => h0 rfl _ _ _ _ _⟩
        · intro n hn' post q bg acc v hq hsk hv hl h1 h0
          obtain ⟨m, em⟩ : ∃ m, n = m + 1 := ⟨n - 1, by omega⟩
          rw [em]
          show wpX11_readAtom (wpX11R m 0) (wpX11R m 1) (wpX11R m 2) post (zI (N : Int)) B (zI (q : Int)) bg (zI (d : Int)) (zI (acc.length : Int)) v
          unfold wpX11_readAtom
          rw [dp6 hd]
          refine sr_sign hN hq (fun _ => ⟨fun z => absurd z (by decide), fun _ => ⟨fun z => absurd (show d = 6 by omega) z, fun _ => ?_⟩⟩) (fun z => ?_)
          · rw [hsk]; exact h0 rfl _ _ _ _ Fr.rfl'
          · rw [hsk, eS] at z; exact absurd z (by decide)
    | false =>
      obtain ⟨ra, hCa, hRa, hSa⟩ := cmpAt (B := B) hN hp
      refine ⟨ra, ?_, ?_, fun h => (hSa h).mono (by omega)⟩
      · intro n hn' post acc f hf hl h1 h0
        obtain ⟨m, em⟩ : ∃ m, n = m + 1 := ⟨n - 1, by omega⟩
        rw [em]
        show wpX2_readAtom (wpX2R m 0) (wpX2R m 1) post (zI (N : Int)) B _ f _ _ _ _ (zI (d : Int))
        unfold wpX2_readAtom
        refine sp_isWord (by decide) hn.1 (by omega) ?_
        rw [eN]
        refine ⟨fun z => absurd rfl z, fun _ => ?_⟩
        refine sp_isSign hN hp ?_
        rw [eS]
        refine ⟨fun z => absurd rfl z, fun _ => ?_⟩
        refine hCa _ acc f hf hl (fun hr f' hf' => ⟨Or.inr rfl, h1 hr f' hf'⟩) (fun hr s' f' b d v => ⟨Or.inl rfl, h0 hr _ _ _ _ _⟩)
      · intro n hn' post q bg acc v hq hsk hv hl h1 h0
        obtain ⟨m, em⟩ : ∃ m, n = m + 1 := ⟨n - 1, by omega⟩
        rw [em]
        show wpX11_readAtom (wpX11R m 0) (wpX11R m 1) (wpX11R m 2) post (zI (N : Int)) B (zI (q : Int)) bg (zI (d : Int)) (zI (acc.length : Int)) v
        unfold wpX11_readAtom
        refine sr_sign hN hq (fun z => ?_) (fun _ => ⟨fun _ => ?_, fun z => absurd rfl z⟩)
        · rw [hsk, eS] at z; exact absurd z (by decide)
        · rw [hsk]
          refine sr_passes (by decide) hN hp (fun z => ?_) (fun _ => ⟨fun _ => ?_, fun z => absurd rfl z⟩)
          · rw [hsp, eN'] at z; exact absurd z (by decide)
          · rw [hsp]
            exact hRa (wpX11R m 0) (wpX11R m 1) (wpX11R m 2) d post p _ acc v hp hsp hv hl h1 h0
theorem condOk0 (hN : N ≤ 400) : CondOk B N 0 := by
  have key : ∀ k d, d + k = 6 → AtomOk B N d ∧ CondOk B N d := by
    intro k
    induction k with
    | zero =>
      intro d e
      have ha : AtomOk B N d := atom_of hN (by omega) (fun z => by omega) (fun z => by omega)
      exact ⟨ha, cond_of hN (by omega) ha⟩
    | succ k ih =>
      intro d e
      have h := ih (d + 1) (by omega)
      have ha : AtomOk B N d := atom_of hN (by omega) (fun _ => h.1) (fun _ => h.2)
      exact ⟨ha, cond_of hN (by omega) ha⟩
  exact (key 6 0 rfl).2
end
