section
variable {B : Nat → Int32} {N : Nat}
theorem lawLoop (hN : N ≤ 400) : ∀ (k p c : Nat), N ≤ p + k → p ≤ N → sk B N p = p → c ≤ 12 → ∃ t, LawAt B N k p c t := by
  intro k
  induction k with
  | zero =>
    intro p c hk hp hsp hc
    refine stopAt hN hp hc (Or.inr ?_)
    cases e : isW B (nx B N p) p [98, 97, 114] with
    | false => rfl
    | true => have := (isW_at hp (by decide) e).1; omega
  | succ k ih =>
    intro p c hk hp hsp hc
    have hn := nx_le (B := B) hp
    by_cases hc2 : c = 12
    · exact stopAt hN hp hc (Or.inl hc2)
    cases e : isW B (nx B N p) p [98, 97, 114] with
    | false => exact stopAt hN hp hc (Or.inr e)
    | true =>
      obtain ⟨hlt, enx, eru, eW, eB⟩ := isW_at hp (by decide) e
      have enx : nx B N p = p + 3 := enx
      have eru : ru (bLe B) N p = p + 3 := eru
      have hs2 := sk_le (B := B) (N := N) (p := p + 3) (by omega)
      have hp2 : sk B N (sk B N (p + 3)) = sk B N (p + 3) := sk_sk (by omega)
      generalize hq2 : sk B N (p + 3) = p2 at hs2 hp2
      have hn2 := nx_le (B := B) hs2.2
      have e1684 : (1684 : Int32) + (2 : Int32) * zI (c : Int) = zI ((1684 + 2 * c : Nat) : Int) := by
        rw [show (1684 : Int32) = zI 1684 from rfl, show (2 : Int32) = zI 2 from rfl, zI_mul, zI_add]; congr 1
      cases eI : isW B (nx B N p2) p2 [105, 102] with
      | false =>
        obtain ⟨t, hC, hR, hS⟩ := restAt (k := k + 1) hN (by omega) hs2.2 hp2 (show c < 12 by omega) (fun p' h1 h2 h3 => ih p' (c + 1) (by omega) h2 h3 (by omega))
        refine ⟨(t.1, t.2.1, [-14] ++ ([-15] ++ t.2.2.1), ([], fun _ => true) :: t.2.2.2), ?_, ?_, fun h => ?_⟩
        · intro post n acc f hkn hf hl h1 h0
          unfold wpX2_readText_25
          rw [show (12 : Int32) = zI ((12 : Nat) : Int) from rfl, zN_le (by omega)]
          refine ⟨fun z => absurd z (by omega), fun _ => ?_⟩
          refine sp_isWord (by decide) hn.1 (by omega) ?_
          rw [e]
          refine ⟨fun z => absurd z (by decide), fun _ => ?_⟩
          show wpX8_toNext _ (zI (N : Int)) B _ (zI (nx B N p : Int)) _ _
          rw [enx]
          refine sp_toNext hN (by omega) ?_
          rw [hq2]
          refine sp_isWord (by decide) hn2.1 (by omega) ?_
          rw [eI]
          refine ⟨fun z => absurd rfl z, fun _ => ?_⟩
          refine sp_give hf (by omega) (fun f' hf' => ?_)
          refine hC post n (acc ++ [-14]) f' (by omega) hf' (by rw [List.length_append, List.length_singleton]; omega) (fun hr f2 hf2 => ?_) (fun hr => h0 hr)
          have := h1 hr f2 (by simpa only [List.append_assoc] using hf2)
          show post 1 (_, zI ((c + 1 + t.2.2.2.length : Nat) : Int), _, _)
          rw [show c + 1 + t.2.2.2.length = c + (t.2.2.2.length + 1) by omega]
          simpa only [List.append_assoc, List.length_cons] using this
        · intro post n q th tp bg dp acc v hkn hq hsk hv hl h1 h0
          unfold wpX11_readAll_28 wpX11_readLine
          refine sr_letters hN hq ?_
          rw [hsk]
          have hr := ru_bd (bLe B) hp
          refine ⟨fun _ => ?_, fun z => absurd rfl z⟩
          unfold wpX11_readLine_16
          rw [show (12 : Int32) = zI ((12 : Nat) : Int) from rfl, zN_le (by omega)]
          refine ⟨fun z => absurd z (by omega), fun z => ⟨fun _ => ?_, fun z => absurd rfl z⟩⟩
          unfold wpX11_readLawLine
          rw [e1684]
          intro v1 e1
          rw [e1, zN (by omega)]
          refine sr_isWord (by decide) hr.1 (by omega) ?_
          rw [eW]
          refine ⟨fun _ => ⟨zN_in (by omega), ?_⟩, fun z => absurd z (by decide)⟩
          refine sr_passes (p := ru (bLe B) N p) (by decide) hN (by omega) (fun z => ?_) (fun _ => ⟨fun _ => ?_, fun z => absurd rfl z⟩)
          · rw [eru, hq2, isW_no hs2.2 (by decide) eI] at z; exact absurd z (by decide)
          · rw [eru, hq2]
            unfold wpX11_readLawLine_52
            rw [zS, zN (by omega)]
            refine ⟨zN_in (by omega), ⟨fun z => absurd z (by decide), fun _ => ⟨fun _ => ?_, fun z => absurd z (by decide)⟩⟩⟩
            have hv' : Ld (upd (upd v (1684 + 2 * c) (zI (acc.length : Int))) (1684 + 2 * c + 1) (zI (acc.length : Int))) 1708 acc := by
              intro j hj
              rw [upd_eq, upd_eq, upd_eq, upd_eq, if_neg (by omega), if_neg (by omega), if_neg (by omega), if_neg (by omega)]
              exact hv j hj
            refine hR post n p2 th tp _ _ acc (upd (upd v (1684 + 2 * c) (zI (acc.length : Int))) (1684 + 2 * c + 1) (zI (acc.length : Int))) (by omega) hs2.2 hp2 hv' (by omega) (fun hr q' bg' dp' st' v' hv2 hfr hbd => ?_) (fun hr q' dp' s' v' hfr => ?_)
            · have := h1 hr q' bg' dp' st' v' (by simpa only [segs, List.nil_append] using hv2) (fun j hj => by rw [hfr j (by omega), upd_eq, upd_eq, if_neg (by omega), if_neg (by omega)]) ⟨by rw [hfr _ (by omega), upd_eq, upd_eq, if_neg (by omega), if_pos (by omega)], by rw [hfr _ (by omega), upd_eq, if_pos (by omega)]; rfl, hbd⟩
              rw [show c + 1 + t.2.2.2.length = c + (t.2.2.2.length + 1) by omega]
              exact this
            · exact h0 hr _ _ _ _ (fun j hj => by rw [hfr j hj, upd_eq, upd_eq, if_neg (by omega), if_neg (by omega)])
        · obtain ⟨s1, s2, s3, s4, s5⟩ := hS h
          refine ⟨by show c + (t.2.2.2.length + 1) ≤ 12; omega, by show List.length ([-14] ++ ([-15] ++ t.2.2.1)) + p ≤ N; simp only [List.length_append, List.length_singleton]; omega, by show List.length ([] ++ segs t.2.2.2) + p ≤ N; rw [List.nil_append]; omega, ?_, fun x hx => ?_⟩
          · refine CL.cons (fun F l => ⟨l, 0, ?_, by decide⟩) s4
            exact Ce.always
          · rcases List.mem_cons.mp hx with ex | hx
            · rw [ex]; exact Or.inl ⟨rfl, fun _ => rfl⟩
            · exact s5 x hx
      | true =>
        obtain ⟨hlt2, enx2, eru2, eW2, eB2⟩ := isW_at hs2.2 (by decide) eI
        have enx2 : nx B N p2 = p2 + 2 := enx2
        have eru2 : ru (bLe B) N p2 = p2 + 2 := eru2
        have hs3 := sk_le (B := B) (N := N) (p := p2 + 2) (by omega)
        have hp3 : sk B N (sk B N (p2 + 2)) = sk B N (p2 + 2) := sk_sk (by omega)
        generalize hq3 : sk B N (p2 + 2) = p3 at hs3 hp3
        obtain ⟨rc, hCc, hRc, hSc⟩ := condOk0 hN p3 hs3.2 hp3
        have upl : ∀ {v : Nat → Int32} {acc : List (Int32 × Int32)} (x : Int32), Ld v 1708 acc → Ld (upd v (1684 + 2 * c) x) 1708 acc := by
          intro v acc x hv j hj
          rw [upd_eq, upd_eq, if_neg (by omega), if_neg (by omega)]
          exact hv j hj
        cases hrc : rc.1 with
        | false =>
          refine ⟨(false, rc.pos, [], []), ?_, ?_, fun h => ff_ h⟩
          · intro post n acc f hkn hf hl h1 h0
            unfold wpX2_readText_25
            rw [show (12 : Int32) = zI ((12 : Nat) : Int) from rfl, zN_le (by omega)]
            refine ⟨fun z => absurd z (by omega), fun _ => ?_⟩
            refine sp_isWord (by decide) hn.1 (by omega) ?_
            rw [e]
            refine ⟨fun z => absurd z (by decide), fun _ => ?_⟩
            show wpX8_toNext _ (zI (N : Int)) B _ (zI (nx B N p : Int)) _ _
            rw [enx]
            refine sp_toNext hN (by omega) ?_
            rw [hq2]
            refine sp_isWord (by decide) hn2.1 (by omega) ?_
            rw [eI]
            refine ⟨fun _ => ?_, fun z => absurd z (by decide)⟩
            show wpX8_toNext _ (zI (N : Int)) B _ (zI (nx B N p2 : Int)) _ _
            rw [enx2]
            refine sp_toNext hN (by omega) ?_
            rw [hq3]
            refine ⟨40, Nat.le_refl 40, ?_⟩
            refine hCc 40 (by omega) _ acc f hf (by omega) (fun z => absurd (hrc.symm.trans z) (by decide)) (fun _ s' f' b d v => ?_)
            exact ⟨fun z => absurd rfl z, fun _ => h0 rfl _ _ _ _ _ _⟩
          · intro post n q th tp bg dp acc v hkn hq hsk hv hl h1 h0
            unfold wpX11_readAll_28 wpX11_readLine
            refine sr_letters hN hq ?_
            rw [hsk]
            have hr := ru_bd (bLe B) hp
            refine ⟨fun _ => ?_, fun z => absurd rfl z⟩
            unfold wpX11_readLine_16
            rw [show (12 : Int32) = zI ((12 : Nat) : Int) from rfl, zN_le (by omega)]
            refine ⟨fun z => absurd z (by omega), fun z => ⟨fun _ => ?_, fun z => absurd rfl z⟩⟩
            unfold wpX11_readLawLine
            rw [e1684]
            intro v1 e1
            rw [e1, zN (by omega)]
            refine sr_isWord (by decide) hr.1 (by omega) ?_
            rw [eW]
            refine ⟨fun _ => ⟨zN_in (by omega), ?_⟩, fun z => absurd z (by decide)⟩
            refine sr_passes (p := ru (bLe B) N p) (by decide) hN (by omega) (fun _ => ⟨fun z => absurd z (by decide), fun _ => ?_⟩) (fun z => ?_)
            · rw [eru, hq2, eru2]
              refine ⟨40, Nat.le_refl 40, ?_⟩
              refine hRc 40 (by omega) _ (p2 + 2) _ acc (upd v (1684 + 2 * c) (zI (acc.length : Int))) (by omega) hq3 (upl _ hv) (by omega) (fun z => absurd (hrc.symm.trans z) (by decide)) (fun _ q' d' s' v' hfr => ?_)
              refine ⟨fun z => absurd rfl z, fun _ => ⟨fun _ => ?_, fun z => absurd rfl z⟩⟩
              refine ⟨fun z => absurd rfl z, fun _ => h0 rfl _ _ _ _ (fun j hj => ?_)⟩
              show v' j = v j
              rw [hfr j (by omega), upd_eq, if_neg (by omega)]
            · rw [eru, hq2, eW2] at z; exact absurd z (by decide)
        | true =>
          obtain ⟨o1, o2, o3, o4, o5, D, hD⟩ := hSc hrc
          obtain ⟨t, hC, hR, hS⟩ := restAt (k := k + 1) hN (by omega) o2 o3 (show c < 12 by omega) (fun p' h1 h2 h3 => ih p' (c + 1) (by omega) h2 h3 (by omega))
          refine ⟨(t.1, t.2.1, rc.os ++ ([-15] ++ t.2.2.1), (rc.ss, D) :: t.2.2.2), ?_, ?_, fun h => ?_⟩
          · intro post n acc f hkn hf hl h1 h0
            unfold wpX2_readText_25
            rw [show (12 : Int32) = zI ((12 : Nat) : Int) from rfl, zN_le (by omega)]
            refine ⟨fun z => absurd z (by omega), fun _ => ?_⟩
            refine sp_isWord (by decide) hn.1 (by omega) ?_
            rw [e]
            refine ⟨fun z => absurd z (by decide), fun _ => ?_⟩
            show wpX8_toNext _ (zI (N : Int)) B _ (zI (nx B N p : Int)) _ _
            rw [enx]
            refine sp_toNext hN (by omega) ?_
            rw [hq2]
            refine sp_isWord (by decide) hn2.1 (by omega) ?_
            rw [eI]
            refine ⟨fun _ => ?_, fun z => absurd z (by decide)⟩
            show wpX8_toNext _ (zI (N : Int)) B _ (zI (nx B N p2 : Int)) _ _
            rw [enx2]
            refine sp_toNext hN (by omega) ?_
            rw [hq3]
            refine ⟨40, Nat.le_refl 40, ?_⟩
            refine hCc 40 (by omega) _ acc f hf (by omega) (fun _ f' hf' => ?_) (fun z => absurd (hrc.symm.trans z) (by decide))
            refine ⟨fun _ => ?_, fun z => absurd z (by decide)⟩
            refine hC post n (acc ++ rc.os) f' (by omega) hf' (by rw [List.length_append]; omega) (fun hr f2 hf2 => ?_) (fun hr => h0 hr)
            have := h1 hr f2 (by simpa only [List.append_assoc] using hf2)
            show post 1 (_, zI ((c + 1 + t.2.2.2.length : Nat) : Int), _, _)
            rw [show c + 1 + t.2.2.2.length = c + (t.2.2.2.length + 1) by omega]
            simpa only [List.append_assoc, List.length_cons] using this
          · intro post n q th tp bg dp acc v hkn hq hsk hv hl h1 h0
            unfold wpX11_readAll_28 wpX11_readLine
            refine sr_letters hN hq ?_
            rw [hsk]
            have hr := ru_bd (bLe B) hp
            refine ⟨fun _ => ?_, fun z => absurd rfl z⟩
            unfold wpX11_readLine_16
            rw [show (12 : Int32) = zI ((12 : Nat) : Int) from rfl, zN_le (by omega)]
            refine ⟨fun z => absurd z (by omega), fun z => ⟨fun _ => ?_, fun z => absurd rfl z⟩⟩
            unfold wpX11_readLawLine
            rw [e1684]
            intro v1 e1
            rw [e1, zN (by omega)]
            refine sr_isWord (by decide) hr.1 (by omega) ?_
            rw [eW]
            refine ⟨fun _ => ⟨zN_in (by omega), ?_⟩, fun z => absurd z (by decide)⟩
            refine sr_passes (p := ru (bLe B) N p) (by decide) hN (by omega) (fun _ => ⟨fun z => absurd z (by decide), fun _ => ?_⟩) (fun z => ?_)
            · rw [eru, hq2, eru2]
              refine ⟨40, Nat.le_refl 40, ?_⟩
              refine hRc 40 (by omega) _ (p2 + 2) _ acc (upd v (1684 + 2 * c) (zI (acc.length : Int))) (by omega) hq3 (upl _ hv) (by omega) (fun _ q' bg' v' hq' hsk' hv' hfr => ?_) (fun z => absurd (hrc.symm.trans z) (by decide))
              refine ⟨fun _ => ?_, fun z => absurd z (by decide)⟩
              unfold wpX11_readLawLine_52
              rw [zS, zN (by omega)]
              refine ⟨zN_in (by omega), ⟨fun z => absurd z (by decide), fun _ => ⟨fun _ => ?_, fun z => absurd z (by decide)⟩⟩⟩
              have hv2 : Ld (upd v' (1684 + 2 * c + 1) (zI ((acc ++ rc.ss).length : Int))) 1708 (acc ++ rc.ss) := by
                intro j hj
                rw [upd_eq, upd_eq, if_neg (by omega), if_neg (by omega)]
                exact hv' j hj
              refine hR post n q' th tp _ _ (acc ++ rc.ss) (upd v' (1684 + 2 * c + 1) (zI ((acc ++ rc.ss).length : Int))) (by omega) hq' hsk' hv2 (by rw [List.length_append]; omega) (fun hr q3 bg3 dp3 st3 v3 hv3 hfr3 hbd3 => ?_) (fun hr q3 dp3 s3 v3 hfr3 => ?_)
              · have := h1 hr q3 bg3 dp3 st3 v3 (by simpa only [segs, List.append_assoc] using hv3) (fun j hj => by rw [hfr3 j (by omega), upd_eq, if_neg (by omega), hfr j (by omega), upd_eq, if_neg (by omega)]) ⟨by rw [hfr3 _ (by omega), upd_eq, if_neg (by omega), hfr _ (by omega), upd_eq, if_pos (by omega)], by rw [hfr3 _ (by omega), upd_eq, if_pos (by omega), List.length_append], by rw [List.length_append] at hbd3; exact hbd3⟩
                rw [show c + 1 + t.2.2.2.length = c + (t.2.2.2.length + 1) by omega]
                exact this
              · exact h0 hr _ _ _ _ (fun j hj => by rw [hfr3 j hj, upd_eq, if_neg (by omega), hfr j (by omega), upd_eq, if_neg (by omega)])
            · rw [eru, hq2, eW2] at z; exact absurd z (by decide)
          · obtain ⟨s1, s2, s3, s4, s5⟩ := hS h
            refine ⟨by show c + (t.2.2.2.length + 1) ≤ 12; omega, by show List.length (rc.os ++ ([-15] ++ t.2.2.1)) + p ≤ N; simp only [List.length_append, List.length_singleton]; omega, by show List.length (rc.ss ++ segs t.2.2.2) + p ≤ N; rw [List.length_append]; omega, ?_, fun x hx => ?_⟩
            · refine CL.cons (fun F l => ?_) s4
              obtain ⟨l', c1⟩ := (hD F).1 l 0 (by decide)
              exact ⟨l', 0, c1, by decide⟩
            · rcases List.mem_cons.mp hx with ex | hx
              · rw [ex]
                by_cases hz : 0 < rc.ss.length
                · exact Or.inr ⟨hz, fun F => (hD F).2 []⟩
                · have := ((hD (fun _ => 0)).2 []).1
                  simp only [List.length_cons, List.length_nil] at this
                  omega
              · exact s5 x hx
end
