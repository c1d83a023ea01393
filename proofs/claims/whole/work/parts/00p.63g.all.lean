def AtomOk (B : Nat → Int32) (N d : Nat) : Prop := ∀ p, p ≤ N → sk B N p = p → ∃ r : Res,
  (∀ n, 13 ≤ n + 2 * d → CC (fun post s f h b dg v => wpX2R n 1 post (zI (N : Int)) B s f h b dg v (zI (d : Int))) B N p r) ∧
  (∀ n, 19 ≤ n + 3 * d → RD (fun post q bg dp st v => wpX11R n 2 post (zI (N : Int)) B q bg dp st v) B N d p r) ∧
  (r.1 = true → okB B N p (4 ^ (d + 1)) r)
def CondOk (B : Nat → Int32) (N d : Nat) : Prop := ∀ p, p ≤ N → sk B N p = p → ∃ r : Res,
  (∀ n, 14 ≤ n + 2 * d → CC (fun post s f h b dg v => wpX2R n 0 post (zI (N : Int)) B s f h b dg v (zI (d : Int))) B N p r) ∧
  (∀ n, 21 ≤ n + 3 * d → RD (fun post q bg dp st v => wpX11R n 0 post (zI (N : Int)) B q bg dp st v) B N d p r) ∧
  (r.1 = true → okB B N p (4 ^ d) r)
def wEnd (m n d c : Nat) (ow : Bool) (N : Nat) (B : Nat → Int32) (post : Int32 → (Int32 × (Nat → Int32) × Int32 × Int32 × Int32 × Int32) → Prop) (s : Int32) (f : Nat → Int32) (t : Int32 × Int32 × Int32 × Int32) : Prop :=
  (b32 ow = 0 → wpX2_readCondition_59 (wpX2R m 0) (wpX2R m 1) (fun y0 y1 y2 y3 y4 y5 y6 y7 y8 y9 => wpX2_readCondition_8 (wpX2R m 0) (wpX2R m 1) post (zI (N : Int)) B n y0 y1 y2 y3 y4 y5 y6 y7 y8 y9) post (zI (N : Int)) B s f t.1 t.2.1 t.2.2.1 t.2.2.2 (zI (d : Int)) 0 (zI (c : Int))) ∧
  (¬ b32 ow = 0 → wpX2_give (fun (u3 : Int32 × (Nat → Int32)) => wpX2_readCondition_59 (wpX2R m 0) (wpX2R m 1) (fun y0 y1 y2 y3 y4 y5 y6 y7 y8 y9 => wpX2_readCondition_8 (wpX2R m 0) (wpX2R m 1) post (zI (N : Int)) B n y0 y1 y2 y3 y4 y5 y6 y7 y8 y9) post (zI (N : Int)) B u3.1 u3.2 t.1 t.2.1 t.2.2.1 t.2.2.2 (zI (d : Int)) 0 (zI (c : Int))) s f (-13))
theorem bop_and (x y : Bool) : bop 12 (b32 x) (b32 y) = b32 (x && y) := by cases x <;> cases y <;> decide
theorem bop_or (x y : Bool) : bop 13 (b32 x) (b32 y) = b32 (x || y) := by cases x <;> cases y <;> decide
section
variable {B : Nat → Int32} {N : Nat}
theorem isW_at {p : Nat} {c : Int32} {w : List Int32} (hp : p ≤ N) (hc : ¬ txC c < 97 ∧ ¬ 122 < txC c) (h : isW B (nx B N p) p (c :: w) = true) : p < N ∧ nx B N p = p + (c :: w).length ∧ ru (bLe B) N p = p + (c :: w).length ∧ isW B (ru (bLe B) N p) p (c :: w) = true ∧ B p = txC c := by
  have h' := h
  rw [← isW_nx hp hc] at h'
  have e1 := isW_len h
  have e2 := isW_len h'
  have b1 := nx_le (B := B) hp
  have b2 := ru_bd (bLe B) hp
  have : 0 < (c :: w).length := by rw [List.length_cons]; omega
  have hb : B p = txC c := by
    unfold isW wdB at h
    rw [Bool.and_eq_true, Bool.and_eq_true, decide_eq_true_eq] at h
    exact of_decide_eq_true h.2.1
  exact ⟨by omega, by omega, by omega, h', hb⟩
theorem isW_no {p : Nat} {c : Int32} {w : List Int32} (hp : p ≤ N) (hc : ¬ txC c < 97 ∧ ¬ 122 < txC c) (h : isW B (nx B N p) p (c :: w) = false) : isW B (ru (bLe B) N p) p (c :: w) = false := by
  rw [isW_nx hp hc]; exact h
theorem c4 {d : Nat} (hd : d ≤ 6) : 4 ^ d ≤ 4096 ∧ 4 ^ (d + 1) = 4 * 4 ^ d := by
  refine ⟨Nat.pow_le_pow_right (n := 4) (by decide) hd, by rw [Nat.pow_succ]; omega⟩
theorem allTail (hN : N ≤ 400) {d : Nat} (hd : d ≤ 6) (HA : AtomOk B N d) : ∀ (k p : Nat), N ≤ p + k → p ≤ N → sk B N p = p → ∃ r : Res,
    (∀ (m n c : Nat) (ow : Bool) (post : Int32 → (Int32 × (Nat → Int32) × Int32 × Int32 × Int32 × Int32) → Prop) (acc : List Int32) (f : Nat → Int32), 13 ≤ m + 2 * d → k ≤ n → c + 1 ≤ p → Lh f acc → acc.length + 1 ≤ p →
      (r.1 = true → ∀ (n' c' : Nat) f', N ≤ r.pos + n' → c' + 1 ≤ r.pos → Lh f' (acc ++ r.os) → wEnd m n' d c' ow N B post (zI ((acc ++ r.os).length : Int)) f' (tk B N r.pos)) →
      (r.1 = false → ∀ s' f' b d v, post 0 (s', f', zI (r.pos : Int), b, d, v)) →
      wpX2_readCondition_37 (wpX2R m 0) (wpX2R m 1) (fun y0 y1 y2 y3 y4 y5 y6 y7 y8 y9 => wpX2_readCondition_8 (wpX2R m 0) (wpX2R m 1) post (zI (N : Int)) B n y0 y1 y2 y3 y4 y5 y6 y7 y8 y9) post (zI (N : Int)) B (zI (acc.length : Int)) f (tk B N p).1 (tk B N p).2.1 (tk B N p).2.2.1 (tk B N p).2.2.2 (zI (d : Int)) (b32 ow) (zI (c : Int))) ∧
    (∀ (m n : Nat), 19 ≤ m + 3 * d → k ≤ n → RD (fun post q bg dp st v => wpX11_readAllOf_9 (wpX11R m 0) (wpX11R m 1) (wpX11R m 2) post (zI (N : Int)) B (n + 1) q bg dp st v) B N d p r) ∧
    (r.1 = true → okS B N p r ∧ ∃ D : (Nat → Int32) → Bool, ∀ F, (∀ (l : Int32) (z : Nat) (x : Bool), z < 2 * 4 ^ d → ∃ l', Ce F r.os (0, l, zI ((2 * z + bt x : Nat) : Int)) (0, l', zI ((2 * z + bt (x && D F) : Nat) : Int))) ∧ ∀ (x : Bool) a, Re F r.ss (b32 x :: a) (b32 (x && D F) :: a)) := by
  have hd4 := c4 hd
  have stop : ∀ (k p : Nat), N ≤ p + k → p ≤ N → sk B N p = p → isW B (nx B N p) p [97, 110, 100] = false → ∃ r : Res,
    (∀ (m n c : Nat) (ow : Bool) (post : Int32 → (Int32 × (Nat → Int32) × Int32 × Int32 × Int32 × Int32) → Prop) (acc : List Int32) (f : Nat → Int32), 13 ≤ m + 2 * d → k ≤ n → c + 1 ≤ p → Lh f acc → acc.length + 1 ≤ p →
      (r.1 = true → ∀ (n' c' : Nat) f', N ≤ r.pos + n' → c' + 1 ≤ r.pos → Lh f' (acc ++ r.os) → wEnd m n' d c' ow N B post (zI ((acc ++ r.os).length : Int)) f' (tk B N r.pos)) →
      (r.1 = false → ∀ s' f' b d v, post 0 (s', f', zI (r.pos : Int), b, d, v)) →
      wpX2_readCondition_37 (wpX2R m 0) (wpX2R m 1) (fun y0 y1 y2 y3 y4 y5 y6 y7 y8 y9 => wpX2_readCondition_8 (wpX2R m 0) (wpX2R m 1) post (zI (N : Int)) B n y0 y1 y2 y3 y4 y5 y6 y7 y8 y9) post (zI (N : Int)) B (zI (acc.length : Int)) f (tk B N p).1 (tk B N p).2.1 (tk B N p).2.2.1 (tk B N p).2.2.2 (zI (d : Int)) (b32 ow) (zI (c : Int))) ∧
    (∀ (m n : Nat), 19 ≤ m + 3 * d → k ≤ n → RD (fun post q bg dp st v => wpX11_readAllOf_9 (wpX11R m 0) (wpX11R m 1) (wpX11R m 2) post (zI (N : Int)) B (n + 1) q bg dp st v) B N d p r) ∧
    (r.1 = true → okS B N p r ∧ ∃ D : (Nat → Int32) → Bool, ∀ F, (∀ (l : Int32) (z : Nat) (x : Bool), z < 2 * 4 ^ d → ∃ l', Ce F r.os (0, l, zI ((2 * z + bt x : Nat) : Int)) (0, l', zI ((2 * z + bt (x && D F) : Nat) : Int))) ∧ ∀ (x : Bool) a, Re F r.ss (b32 x :: a) (b32 (x && D F) :: a)) := by
    intro k p hk hp hsp hno
    have hn := nx_le (B := B) hp
    refine ⟨(true, p, [], []), ?_, ?_, fun _ => ⟨⟨Nat.le_refl p, hp, hsp, Nat.le_of_eq (Nat.zero_add p), Nat.le_of_eq (Nat.zero_add p)⟩, fun _ => true, fun F => ⟨fun l z x hz => ⟨l, ?_⟩, fun x a => ?_⟩⟩⟩
    · intro m n c ow post acc f hm hkn hc hf hl h1 h0
      unfold wpX2_readCondition_37
      refine sp_isWord (by decide) hn.1 (by omega) ?_
      rw [hno]
      refine ⟨fun e => absurd rfl e, fun _ => ?_⟩
      have := h1 rfl n c f (by show N ≤ p + n; omega) hc (by rw [List.append_nil]; exact hf)
      rw [List.append_nil] at this
      exact this
    · intro m n hm hkn post q bg acc v hq hsk hv hl h1 h0
      show wpX11_readAllOf_9 (wpX11R m 0) (wpX11R m 1) (wpX11R m 2) post (zI (N : Int)) B (n + 1) (zI (q : Int)) bg (zI (d : Int)) (zI (acc.length : Int)) v
      unfold wpX11_readAllOf_9
      refine sr_passes (by decide) hN hq (fun e => ?_) (fun e => ⟨fun _ => ?_, fun z => absurd rfl z⟩)
      · rw [hsk, isW_no hp (by decide) hno] at e; exact absurd e (by decide)
      · have := h1 rfl p (zI (p : Int)) v hp hsp (by rw [List.append_nil]; exact hv) Fr.rfl'
        rw [List.append_nil] at this
        rw [hsk]; exact this
    · rw [Bool.and_true]; exact Ce.nil _
    · rw [Bool.and_true]; exact Re.nil _
  intro k
  induction k with
  | zero =>
    intro p hk hp hsp
    refine stop 0 p hk hp hsp ?_
    cases e : isW B (nx B N p) p [97, 110, 100] with
    | false => rfl
    | true => have := (isW_at hp (by decide) e).1; omega
  | succ k ih =>
    intro p hk hp hsp
    cases e : isW B (nx B N p) p [97, 110, 100] with
    | false => exact stop (k + 1) p hk hp hsp e
    | true =>
      obtain ⟨hlt, enx, eru, eW, eB⟩ := isW_at hp (by decide) e
      have enx : nx B N p = p + 3 := enx
      have eru : ru (bLe B) N p = p + 3 := eru
      have hn := nx_le (B := B) hp
      have hs2 := sk_le (B := B) (N := N) (p := p + 3) (by omega)
      have hp2 : sk B N (sk B N (p + 3)) = sk B N (p + 3) := sk_sk (by omega)
      generalize hq2 : sk B N (p + 3) = p2 at hs2 hp2
      obtain ⟨ra, hCa, hRa, hSa⟩ := HA p2 hs2.2 hp2
      cases hra : ra.1 with
      | false =>
        refine ⟨(false, ra.pos, [], []), ?_, ?_, fun h => ff_ h⟩
        · intro m n c ow post acc f hm hkn hc hf hl h1 h0
          unfold wpX2_readCondition_37
          refine sp_isWord (by decide) hn.1 (by omega) ?_
          rw [e]
          refine ⟨fun _ => ?_, fun z => absurd z (by decide)⟩
          unfold wpX2_readCondition_74
          show wpX8_toNext _ (zI (N : Int)) B _ (zI (nx B N p : Int)) _ _
          rw [enx]
          refine sp_toNext hN (by omega) ?_
          rw [hq2]
          intro v2 e2
          rw [e2, zS]
          obtain ⟨n', en⟩ : ∃ n', n = n' + 1 := ⟨n - 1, by omega⟩
          rw [en]
          unfold wpX2_readCondition_8
          rw [show (400 : Int32) = zI ((400 : Nat) : Int) from rfl, zN_le (by omega)]
          refine ⟨fun z => absurd z (by omega), fun _ => ?_⟩
          refine hCa m hm _ acc f hf (by omega) (fun z => absurd (hra.symm.trans z) (by decide)) (fun _ s' f' b d v => ?_)
          exact ⟨fun z => absurd rfl z, fun _ => h0 rfl _ _ _ _ _⟩
        · intro m n hm hkn post q bg acc v hq hsk hv hl h1 h0
          show wpX11_readAllOf_9 (wpX11R m 0) (wpX11R m 1) (wpX11R m 2) post (zI (N : Int)) B (n + 1) (zI (q : Int)) bg (zI (d : Int)) (zI (acc.length : Int)) v
          unfold wpX11_readAllOf_9
          refine sr_passes (by decide) hN hq (fun _ => ⟨fun z => absurd z (by decide), fun _ => ?_⟩) (fun z => ?_)
          · rw [hsk, eru]
            refine hRa m hm _ (p + 3) _ acc v (by omega) hq2 hv (by omega) (fun z => absurd (hra.symm.trans z) (by decide)) (fun _ q' d' s' v' hf' => ?_)
            exact ⟨fun z => absurd rfl z, fun _ => h0 rfl _ _ _ _ hf'⟩
          · rw [hsk, eW] at z; exact absurd z (by decide)
      | true =>
        obtain ⟨o1, o2, o3, o4, o5, Da, hDa⟩ := hSa hra
        obtain ⟨r, hC, hR, hS⟩ := ih ra.pos (by omega) o2 o3
        refine ⟨(r.1, r.pos, ra.os ++ [-12] ++ r.os, ra.ss ++ [(12, 0)] ++ r.ss), ?_, ?_, fun h => ?_⟩
        · intro m n c ow post acc f hm hkn hc hf hl h1 h0
          unfold wpX2_readCondition_37
          refine sp_isWord (by decide) hn.1 (by omega) ?_
          rw [e]
          refine ⟨fun _ => ?_, fun z => absurd z (by decide)⟩
          unfold wpX2_readCondition_74
          show wpX8_toNext _ (zI (N : Int)) B _ (zI (nx B N p : Int)) _ _
          rw [enx]
          refine sp_toNext hN (by omega) ?_
          rw [hq2]
          intro v2 e2
          rw [e2, zS]
          obtain ⟨n', en⟩ : ∃ n', n = n' + 1 := ⟨n - 1, by omega⟩
          rw [en]
          unfold wpX2_readCondition_8
          rw [show (400 : Int32) = zI ((400 : Nat) : Int) from rfl, zN_le (by omega)]
          refine ⟨fun z => absurd z (by omega), fun _ => ?_⟩
          refine hCa m hm _ acc f hf (by omega) (fun _ f' hf' => ?_) (fun z => absurd (hra.symm.trans z) (by decide))
          refine ⟨fun _ => ⟨fun z => absurd z (by decide), fun _ => ?_⟩, fun z => absurd z (by decide)⟩
          refine sp_give hf' (by rw [List.length_append]; omega) (fun f2 hf2 => ?_)
          refine hC m n' (c + 1) ow post _ f2 hm (by omega) (by omega) hf2 (by rw [List.length_append, List.length_append, List.length_singleton]; omega) (fun hr n'' c'' f3 b1 b2 hf3 => ?_) (fun hr => h0 hr)
          have := h1 hr n'' c'' f3 b1 b2 (by simpa only [List.append_assoc] using hf3)
          simpa only [List.append_assoc] using this
        · intro m n hm hkn post q bg acc v hq hsk hv hl h1 h0
          show wpX11_readAllOf_9 (wpX11R m 0) (wpX11R m 1) (wpX11R m 2) post (zI (N : Int)) B (n + 1) (zI (q : Int)) bg (zI (d : Int)) (zI (acc.length : Int)) v
          unfold wpX11_readAllOf_9
          refine sr_passes (by decide) hN hq (fun _ => ⟨fun z => absurd z (by decide), fun _ => ?_⟩) (fun z => ?_)
          · rw [hsk, eru]
            refine hRa m hm _ (p + 3) _ acc v (by omega) hq2 hv (by omega) (fun _ q' bg' v' hq' hsk' hv' hf' => ?_) (fun z => absurd (hra.symm.trans z) (by decide))
            refine ⟨fun _ => ?_, fun z => absurd z (by decide)⟩
            refine sr_emits hv' (by rw [List.length_append]; omega) (fun v2 hv2 hf2 => ?_)
            obtain ⟨n', en⟩ : ∃ n', n = n' + 1 := ⟨n - 1, by omega⟩
            rw [en]
            refine hR m n' hm (by omega) post q' bg' _ v2 hq' hsk' hv2 (by rw [List.length_append, List.length_append, List.length_singleton]; omega) (fun hr q3 bg3 v3 hq3 hsk3 hv3 hf3 => ?_) (fun hr q3 d3 s3 v3 hf3 => ?_)
            · have := h1 hr q3 bg3 v3 hq3 hsk3 (by simpa only [List.append_assoc] using hv3) ((hf'.trans hf2).trans hf3)
              simpa only [List.append_assoc] using this
            · exact h0 hr _ _ _ _ ((hf'.trans hf2).trans hf3)
          · rw [hsk, eW] at z; exact absurd z (by decide)
        · obtain ⟨⟨t1, t2, t3, t4, t5⟩, D, hD⟩ := hS h
          refine ⟨⟨by show p ≤ r.pos; omega, t2, t3, by show List.length (ra.os ++ [-12] ++ r.os) + p ≤ r.pos; simp only [List.length_append, List.length_singleton]; omega, by show List.length (ra.ss ++ [(12, 0)] ++ r.ss) + p ≤ r.pos; simp only [List.length_append, List.length_singleton]; omega⟩, fun F => Da F && D F, fun F => ⟨fun l z x hz => ?_, fun x a => ?_⟩⟩
          · have hx := bt_lt x
            obtain ⟨l1, c1⟩ := (hDa F).1 l (2 * z + bt x) (by omega)
            have c2 : Ce F [-12] (0, l1, zI ((2 * (2 * z + bt x) + bt (Da F) : Nat) : Int)) (0, l1, _) := Ce.and
            rw [bt_and _ _ (by omega)] at c2
            obtain ⟨l2, c3⟩ := (hD F).1 l1 z (x && Da F) hz
            rw [Bool.and_assoc] at c3
            exact ⟨l2, (c1.app c2).app c3⟩
          · have c1 := (hDa F).2 (b32 x :: a)
            have c2 : Re F [((12 : Int32), (0 : Int32))] (b32 (Da F) :: b32 x :: a) (bop 12 (b32 x) (b32 (Da F)) :: a) := Re.bin (c := 12) (by decide) (by decide)
            rw [bop_and] at c2
            have c3 := (hD F).2 (x && Da F) a
            rw [Bool.and_assoc] at c3
            exact (c1.app c2).app c3
end
