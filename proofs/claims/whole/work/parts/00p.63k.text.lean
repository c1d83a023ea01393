abbrev CPost : Type := Int32 → (Int32 × Int32 × (Nat → Int32) × Int32 × Int32 × Int32 × Int32) → Prop
abbrev RPost : Type := Int32 → (Int32 × Int32 × Int32 × Int32 × Int32 × Int32 × Int32 × (Nat → Int32)) → Prop
def LSem (N p c : Nat) (t : TRes) : Prop := c + t.2.2.2.length ≤ 12 ∧ t.2.2.1.length + p ≤ N ∧ (segs t.2.2.2).length + p ≤ N ∧ CL t.2.2.1 t.2.2.2 ∧ ∀ x ∈ t.2.2.2, LineOk x
def LawAt (B : Nat → Int32) (N k p c : Nat) (t : TRes) : Prop :=
  (∀ (post : CPost) (n : Nat) (acc : List Int32) (f : Nat → Int32), k ≤ n → Lh f acc → acc.length ≤ p →
    (t.1 = true → ∀ f', Lh f' (acc ++ t.2.2.1) → post 1 (zI ((acc ++ t.2.2.1).length : Int), zI ((c + t.2.2.2.length : Nat) : Int), f', tk B N t.2.1)) →
    (t.1 = false → ∀ s' l' f' b d v, post 0 (s', l', f', zI (t.2.1 : Int), b, d, v)) →
    wpX2_readText_25 post (zI (N : Int)) B (n + 1) (zI (acc.length : Int)) (zI (c : Int)) f (tk B N p).1 (tk B N p).2.1 (tk B N p).2.2.1 (tk B N p).2.2.2 (zI (c : Int))) ∧
  (∀ (post : RPost) (n q : Nat) (th tp bg dp : Int32) (acc : List (Int32 × Int32)) (v : Nat → Int32), k ≤ n → q ≤ N → sk B N q = p → Ld v 1708 acc → acc.length ≤ p →
    (t.1 = true → ∀ q' bg' dp' st' v', Ld v' 1708 (acc ++ segs t.2.2.2) → (∀ j, j < 1684 + 2 * c → v' j = v j) → Bd v' 1683 c acc.length t.2.2.2 → post (zI ((c + t.2.2.2.length : Nat) : Int)) (th, tp, q', zI (N : Int), bg', dp', st', v')) →
    (t.1 = false → ∀ q' dp' s' v', (∀ j, j < 1684 → v' j = v j) → post (-1) (th, tp, q', zI (N : Int), zI (t.2.1 : Int), dp', s', v')) →
    wpX11_readAll_28 post B (n + 1) th tp (zI (q : Int)) (zI (N : Int)) bg dp (zI (acc.length : Int)) v 0 (zI (c : Int))) ∧
  (t.1 = true → LSem N p c t)
def wRest (B : Nat → Int32) (N n c : Nat) (post : RPost) (th tp dp st : Int32) (v : Nat → Int32) (q bg : Int32) : Prop :=
  wpX11_blanks (fun (u3 : Int32 × Int32) =>
       (¬ u3.1 = zI (N : Int) →
        wpX11_isAt (fun (r5 : Int32) (_ : Unit) =>
         (¬ r5 = 0 →
          ∀ v6 : Int32, v6 = u3.1 + 1 →
          ∀ v7 : Int32, v7 = zI (c : Int) + 1 →
          wpX11_readAll_28 post B n th tp v6 (zI (N : Int)) u3.2 dp st v 0 v7) ∧
         (r5 = 0 →
          post (-1) (th, tp, u3.1, zI (N : Int), u3.2, dp, st, v))) u3.1 (zI (N : Int)) B 59 59) ∧
       (u3.1 = zI (N : Int) →
        post (zI (c : Int) + 1) (th, tp, u3.1, zI (N : Int), u3.2, dp, st, v))) (zI (N : Int)) B q bg
def RestAt (B : Nat → Int32) (N k p c : Nat) (t : TRes) : Prop :=
  (∀ (post : CPost) (n : Nat) (acc : List Int32) (f : Nat → Int32), k ≤ n → Lh f acc → acc.length + 1 ≤ p →
    (t.1 = true → ∀ f', Lh f' (acc ++ ([-15] ++ t.2.2.1)) → post 1 (zI ((acc ++ ([-15] ++ t.2.2.1)).length : Int), zI ((c + 1 + t.2.2.2.length : Nat) : Int), f', tk B N t.2.1)) →
    (t.1 = false → ∀ s' l' f' b d v, post 0 (s', l', f', zI (t.2.1 : Int), b, d, v)) →
    wpX2_readText_77 (fun y0 y1 y2 y3 y4 y5 y6 y7 => wpX2_readText_25 post (zI (N : Int)) B n y0 y1 y2 y3 y4 y5 y6 y7) post (zI (N : Int)) B (zI (acc.length : Int)) (zI (c : Int)) f (tk B N p).1 (tk B N p).2.1 (tk B N p).2.2.1 (tk B N p).2.2.2 (zI (c : Int))) ∧
  (∀ (post : RPost) (n q : Nat) (th tp bg dp : Int32) (acc : List (Int32 × Int32)) (v : Nat → Int32), k ≤ n → q ≤ N → sk B N q = p → Ld v 1708 acc → acc.length ≤ p →
    (t.1 = true → ∀ q' bg' dp' st' v', Ld v' 1708 (acc ++ segs t.2.2.2) → (∀ j, j < 1684 + 2 * (c + 1) → v' j = v j) → Bd v' 1683 (c + 1) acc.length t.2.2.2 → post (zI ((c + 1 + t.2.2.2.length : Nat) : Int)) (th, tp, q', zI (N : Int), bg', dp', st', v')) →
    (t.1 = false → ∀ q' dp' s' v', (∀ j, j < 1684 → v' j = v j) → post (-1) (th, tp, q', zI (N : Int), zI (t.2.1 : Int), dp', s', v')) →
    wRest B N n c post th tp dp (zI (acc.length : Int)) v (zI (q : Int)) bg) ∧
  (t.1 = true → LSem N p (c + 1) t)
section
variable {B : Nat → Int32} {N : Nat}
theorem restAt (hN : N ≤ 400) {k p c : Nat} (hk : N ≤ p + k) (hp : p ≤ N) (hsp : sk B N p = p) (hc : c < 12) (ih : ∀ p', p < p' → p' ≤ N → sk B N p' = p' → ∃ t, LawAt B N (k - 1) p' (c + 1) t) : ∃ t, RestAt B N k p c t := by
  by_cases hE : p = N
  · refine ⟨(true, p, [], []), ?_, ?_, fun _ => ⟨by show c + 1 + 0 ≤ 12; omega, by show 0 + p ≤ N; omega, by show 0 + p ≤ N; omega, CL.nil, fun x hx => absurd hx (List.not_mem_nil)⟩⟩
    · intro post n acc f hkn hf hl h1 h0
      unfold wpX2_readText_77
      refine sp_give hf (by omega) (fun f' hf' => fun v2 e2 => ?_)
      refine sp_isOver hN hp (fun z => absurd z (by omega)) (fun _ => ⟨fun z => absurd z (by decide), fun _ => ?_⟩)
      rw [e2, zS]
      exact h1 rfl f' hf'
    · intro post n q th tp bg dp acc v hkn hq hsk hv hl h1 h0
      unfold wRest
      refine sr_blanks hN hq ?_
      rw [hsk, zS c, zN_eq (by omega)]
      refine ⟨fun z => absurd hE z, fun _ => ?_⟩
      exact h1 rfl _ _ _ _ v (by show Ld v 1708 (acc ++ []); rw [List.append_nil]; exact hv) (fun _ _ => rfl) trivial
  · cases hS : isSg B N p 59 with
    | false =>
      refine ⟨(false, p, [], []), ?_, ?_, fun h => ff_ h⟩
      · intro post n acc f hkn hf hl h1 h0
        unfold wpX2_readText_77
        refine sp_give hf (by omega) (fun f' hf' => fun v2 e2 => ?_)
        refine sp_isOver hN hp (fun _ => ⟨fun _ => ?_, fun z => absurd rfl z⟩) (fun z => absurd z hE)
        refine sp_isSign hN hp ?_
        rw [hS]
        exact ⟨fun z => absurd rfl z, fun _ => h0 rfl _ _ _ _ _ _⟩
      · intro post n q th tp bg dp acc v hkn hq hsk hv hl h1 h0
        unfold wRest
        refine sr_blanks hN hq ?_
        rw [hsk, zN_eq (by omega)]
        refine ⟨fun _ => ?_, fun z => absurd z hE⟩
        refine sr_isAt1 hN hp ?_
        rw [hS]
        exact ⟨fun z => absurd rfl z, fun _ => h0 rfl _ _ _ _ (fun _ _ => rfl)⟩
    | true =>
      obtain ⟨hlt, enx⟩ := nx_sg (by decide) (by decide) hS
      have hs2 := sk_le (B := B) (N := N) (p := p + 1) (by omega)
      have hp2 : sk B N (sk B N (p + 1)) = sk B N (p + 1) := sk_sk (by omega)
      generalize hq2 : sk B N (p + 1) = p2 at hs2 hp2
      obtain ⟨t, hC, hR, hS'⟩ := ih p2 (by omega) hs2.2 hp2
      refine ⟨t, ?_, ?_, fun h => ?_⟩
      · intro post n acc f hkn hf hl h1 h0
        unfold wpX2_readText_77
        refine sp_give hf (by omega) (fun f' hf' => fun v2 e2 => ?_)
        refine sp_isOver hN hp (fun _ => ⟨fun _ => ?_, fun z => absurd rfl z⟩) (fun z => absurd z hE)
        refine sp_isSign hN hp ?_
        rw [hS]
        refine ⟨fun _ => ?_, fun z => absurd z (by decide)⟩
        show wpX8_toNext _ (zI (N : Int)) B _ (zI (nx B N p : Int)) _ _
        rw [enx]
        refine sp_toNext hN (by omega) ?_
        rw [hq2]
        intro v8 e8
        rw [e8, e2, zS]
        obtain ⟨n', en⟩ : ∃ n', n = n' + 1 := ⟨n - 1, by omega⟩
        rw [en]
        refine hC post n' (acc ++ [-15]) f' (by omega) hf' (by rw [List.length_append, List.length_singleton]; omega) (fun hr f2 hf2 => ?_) (fun hr => h0 hr)
        have := h1 hr f2 (by simpa only [List.append_assoc] using hf2)
        simpa only [List.append_assoc] using this
      · intro post n q th tp bg dp acc v hkn hq hsk hv hl h1 h0
        unfold wRest
        refine sr_blanks hN hq ?_
        rw [hsk, zN_eq (by omega)]
        refine ⟨fun _ => ?_, fun z => absurd z hE⟩
        refine sr_isAt1 hN hp ?_
        rw [hS]
        refine ⟨fun _ v6 e6 v7 e7 => ?_, fun z => absurd z (by decide)⟩
        rw [e6, e7]
        show wpX11_readAll_28 post B n th tp (zI (p : Int) + 1) (zI (N : Int)) (zI (p : Int)) dp (zI (acc.length : Int)) v 0 (zI (c : Int) + 1)
        rw [zS, zS]
        obtain ⟨n', en⟩ : ∃ n', n = n' + 1 := ⟨n - 1, by omega⟩
        rw [en]
        exact hR post n' (p + 1) th tp _ dp acc v (by omega) (by omega) hq2 hv (by omega) h1 h0
      · obtain ⟨s1, s2, s3, s4, s5⟩ := hS' h
        exact ⟨s1, by omega, by omega, s4, s5⟩
theorem stopAt (hN : N ≤ 400) {k p c : Nat} (hp : p ≤ N) (hc : c ≤ 12) (hx : c = 12 ∨ isW B (nx B N p) p [98, 97, 114] = false) : ∃ t, LawAt B N k p c t := by
  have hn := nx_le (B := B) hp
  refine ⟨(false, p, [], []), ?_, ?_, fun h => ff_ h⟩
  · intro post n acc f hkn hf hl h1 h0
    unfold wpX2_readText_25
    rw [show (12 : Int32) = zI ((12 : Nat) : Int) from rfl, zN_le (by omega)]
    refine ⟨fun _ => h0 rfl _ _ _ _ _ _, fun z => ?_⟩
    refine sp_isWord (by decide) hn.1 (by omega) ?_
    rw [hx.resolve_left (by omega)]
    exact ⟨fun _ => h0 rfl _ _ _ _ _ _, fun q => absurd rfl q⟩
  · intro post n q th tp bg dp acc v hkn hq hsk hv hl h1 h0
    unfold wpX11_readAll_28 wpX11_readLine
    refine sr_letters hN hq ?_
    rw [hsk]
    have hr := ru_bd (bLe B) hp
    refine ⟨fun _ => ?_, fun z => absurd rfl z⟩
    unfold wpX11_readLine_16
    rw [show (12 : Int32) = zI ((12 : Nat) : Int) from rfl, zN_le (by omega)]
    refine ⟨fun _ => ⟨fun z => absurd rfl z, fun _ => h0 rfl _ _ _ _ (fun _ _ => rfl)⟩, fun z => ⟨fun _ => ?_, fun z => absurd rfl z⟩⟩
    unfold wpX11_readLawLine
    intro v1 e1
    refine sr_isWord (by decide) hr.1 (by omega) ?_
    rw [isW_no hp (by decide) (hx.resolve_left (by omega))]
    refine ⟨fun z => absurd rfl z, fun _ => ⟨fun _ => ?_, fun z => absurd rfl z⟩⟩
    exact ⟨fun z => absurd rfl z, fun _ => h0 rfl _ _ _ _ (fun _ _ => rfl)⟩
end
