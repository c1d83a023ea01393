section
variable {B : Nat → Int32} {N : Nat}
theorem allAt (hN : N ≤ 400) {d : Nat} (hd : d ≤ 6) (HA : AtomOk B N d) {p : Nat} (hp : p ≤ N) (hsp : sk B N p = p) : ∃ r : Res,
    (∀ (m n c : Nat) (ow : Bool) (post : Int32 → (Int32 × (Nat → Int32) × Int32 × Int32 × Int32 × Int32) → Prop) (acc : List Int32) (f : Nat → Int32), 13 ≤ m + 2 * d → N ≤ p + n → c + 1 ≤ p → c < 400 → Lh f acc → acc.length + 2 ≤ p →
      (r.1 = true → ∀ (n' c' : Nat) f', N ≤ r.pos + n' → c' + 1 ≤ r.pos → Lh f' (acc ++ r.os) → wEnd m n' d c' ow N B post (zI ((acc ++ r.os).length : Int)) f' (tk B N r.pos)) →
      (r.1 = false → ∀ s' f' b d v, post 0 (s', f', zI (r.pos : Int), b, d, v)) →
      wpX2_readCondition_8 (wpX2R m 0) (wpX2R m 1) post (zI (N : Int)) B (n + 1) (zI (acc.length : Int)) f (tk B N p).1 (tk B N p).2.1 (tk B N p).2.2.1 (tk B N p).2.2.2 (zI (d : Int)) 0 (b32 ow) (zI (c : Int))) ∧
    (∀ (m : Nat), 20 ≤ m + 3 * d → RD (fun post q bg dp st v => wpX11R m 1 post (zI (N : Int)) B q bg dp st v) B N d p r) ∧
    (r.1 = true → p < r.pos ∧ r.pos ≤ N ∧ sk B N r.pos = r.pos ∧ r.os.length + p ≤ r.pos + 1 ∧ r.ss.length + p ≤ r.pos ∧ ∃ D : (Nat → Int32) → Bool, ∀ F, (∀ (l : Int32) (z : Nat), z < 2 * 4 ^ d → ∃ l', Ce F r.os (0, l, zI (z : Int)) (0, l', zI ((2 * z + bt (D F) : Nat) : Int))) ∧ ∀ a, Re F r.ss a (b32 (D F) :: a)) := by
  have hd4 := c4 hd
  obtain ⟨ra, hCa, hRa, hSa⟩ := HA p hp hsp
  cases hra : ra.1 with
  | false =>
    refine ⟨(false, ra.pos, [], []), ?_, ?_, fun h => ff_ h⟩
    · intro m n c ow post acc f hm hn hc hc4 hf hl h1 h0
      unfold wpX2_readCondition_8
      rw [show (400 : Int32) = zI ((400 : Nat) : Int) from rfl, zN_le (by omega)]
      refine ⟨fun z => absurd z (by omega), fun _ => ?_⟩
      refine hCa m hm _ acc f hf (by omega) (fun z => absurd (hra.symm.trans z) (by decide)) (fun _ s' f' b d v => ?_)
      exact ⟨fun z => absurd rfl z, fun _ => h0 rfl _ _ _ _ _⟩
    · intro m hm post q bg acc v hq hsk hv hl h1 h0
      obtain ⟨m', em⟩ : ∃ m', m = m' + 1 := ⟨m - 1, by omega⟩
      rw [em]
      show wpX11_readAllOf (wpX11R m' 0) (wpX11R m' 1) (wpX11R m' 2) post (zI (N : Int)) B (zI (q : Int)) bg (zI (d : Int)) (zI (acc.length : Int)) v
      unfold wpX11_readAllOf
      refine hRa m' (by omega) _ q _ acc v hq hsk hv hl (fun z => absurd (hra.symm.trans z) (by decide)) (fun _ q' d' s' v' hf' => ?_)
      exact ⟨fun z => absurd rfl z, fun _ => h0 rfl _ _ _ _ hf'⟩
  | true =>
    obtain ⟨o1, o2, o3, o4, o5, Da, hDa⟩ := hSa hra
    obtain ⟨r, hC, hR, hS⟩ := allTail hN hd HA (N - ra.pos) ra.pos (by omega) o2 o3
    refine ⟨(r.1, r.pos, ra.os ++ r.os, ra.ss ++ r.ss), ?_, ?_, fun h => ?_⟩
    · intro m n c ow post acc f hm hn hc hc4 hf hl h1 h0
      unfold wpX2_readCondition_8
      rw [show (400 : Int32) = zI ((400 : Nat) : Int) from rfl, zN_le (by omega)]
      refine ⟨fun z => absurd z (by omega), fun _ => ?_⟩
      refine hCa m hm _ acc f hf (by omega) (fun _ f' hf' => ?_) (fun z => absurd (hra.symm.trans z) (by decide))
      refine ⟨fun _ => ⟨fun _ => ?_, fun z => absurd rfl z⟩, fun z => absurd z (by decide)⟩
      refine hC m n c ow post _ f' hm (by omega) (by omega) hf' (by rw [List.length_append]; omega) (fun hr n'' c'' f3 b1 b2 hf3 => ?_) (fun hr => h0 hr)
      have := h1 hr n'' c'' f3 b1 b2 (by simpa only [List.append_assoc] using hf3)
      simpa only [List.append_assoc] using this
    · intro m hm post q bg acc v hq hsk hv hl h1 h0
      obtain ⟨m', em⟩ : ∃ m', m = m' + 1 := ⟨m - 1, by omega⟩
      rw [em]
      show wpX11_readAllOf (wpX11R m' 0) (wpX11R m' 1) (wpX11R m' 2) post (zI (N : Int)) B (zI (q : Int)) bg (zI (d : Int)) (zI (acc.length : Int)) v
      unfold wpX11_readAllOf
      refine hRa m' (by omega) _ q _ acc v hq hsk hv hl (fun _ q' bg' v' hq' hsk' hv' hf' => ?_) (fun z => absurd (hra.symm.trans z) (by decide))
      refine ⟨fun _ => ⟨N + 1, ?_⟩, fun z => absurd z (by decide)⟩
      refine hR m' N (by omega) (by omega) post q' bg' _ v' hq' hsk' hv' (by rw [List.length_append]; omega) (fun hr q3 bg3 v3 hq3 hsk3 hv3 hf3 => ?_) (fun hr q3 d3 s3 v3 hf3 => ?_)
      · have := h1 hr q3 bg3 v3 hq3 hsk3 (by simpa only [List.append_assoc] using hv3) (hf'.trans hf3)
        simpa only [List.append_assoc] using this
      · exact h0 hr _ _ _ _ (hf'.trans hf3)
    · obtain ⟨⟨t1, t2, t3, t4, t5⟩, D, hD⟩ := hS h
      refine ⟨by show p < r.pos; omega, t2, t3, by show List.length (ra.os ++ r.os) + p ≤ r.pos + 1; simp only [List.length_append]; omega, by show List.length (ra.ss ++ r.ss) + p ≤ r.pos; simp only [List.length_append]; omega, fun F => Da F && D F, fun F => ⟨fun l z hz => ?_, fun a => ?_⟩⟩
      · obtain ⟨l1, c1⟩ := (hDa F).1 l z (by omega)
        obtain ⟨l2, c3⟩ := (hD F).1 l1 z (Da F) hz
        exact ⟨l2, c1.app c3⟩
      · exact ((hDa F).2 a).app ((hD F).2 (Da F) a)
theorem orTail (hN : N ≤ 400) {d : Nat} (hd : d ≤ 6) (HA : AtomOk B N d) : ∀ (k p : Nat), N ≤ p + k → p ≤ N → sk B N p = p → ∃ r : Res,
    (∀ (m n c : Nat) (post : Int32 → (Int32 × (Nat → Int32) × Int32 × Int32 × Int32 × Int32) → Prop) (acc : List Int32) (f : Nat → Int32), 13 ≤ m + 2 * d → N ≤ p + n → c + 1 ≤ p → Lh f acc → acc.length + 1 ≤ p →
      (r.1 = true → ∀ f', Lh f' (acc ++ r.os) → post 1 (zI ((acc ++ r.os).length : Int), f', tk B N r.pos)) →
      (r.1 = false → ∀ s' f' b d v, post 0 (s', f', zI (r.pos : Int), b, d, v)) →
      wpX2_readCondition_59 (wpX2R m 0) (wpX2R m 1) (fun y0 y1 y2 y3 y4 y5 y6 y7 y8 y9 => wpX2_readCondition_8 (wpX2R m 0) (wpX2R m 1) post (zI (N : Int)) B n y0 y1 y2 y3 y4 y5 y6 y7 y8 y9) post (zI (N : Int)) B (zI (acc.length : Int)) f (tk B N p).1 (tk B N p).2.1 (tk B N p).2.2.1 (tk B N p).2.2.2 (zI (d : Int)) 0 (zI (c : Int))) ∧
    (∀ (m n : Nat), 20 ≤ m + 3 * d → k ≤ n → RD (fun post q bg dp st v => wpX11_readCond_9 (wpX11R m 0) (wpX11R m 1) (wpX11R m 2) post (zI (N : Int)) B (n + 1) q bg dp st v) B N d p r) ∧
    (r.1 = true → okS B N p r ∧ ∃ D : (Nat → Int32) → Bool, ∀ F, (∀ (l : Int32) (z : Nat) (x : Bool), z < 4 ^ d → ∃ l', Ce F r.os (0, l, zI ((2 * z + bt x : Nat) : Int)) (0, l', zI ((2 * z + bt (x || D F) : Nat) : Int))) ∧ ∀ (x : Bool) a, Re F r.ss (b32 x :: a) (b32 (x || D F) :: a)) := by
  have hd4 := c4 hd
  have stop : ∀ (k p : Nat), N ≤ p + k → p ≤ N → sk B N p = p → isW B (nx B N p) p [111, 114] = false → ∃ r : Res,
    (∀ (m n c : Nat) (post : Int32 → (Int32 × (Nat → Int32) × Int32 × Int32 × Int32 × Int32) → Prop) (acc : List Int32) (f : Nat → Int32), 13 ≤ m + 2 * d → N ≤ p + n → c + 1 ≤ p → Lh f acc → acc.length + 1 ≤ p →
      (r.1 = true → ∀ f', Lh f' (acc ++ r.os) → post 1 (zI ((acc ++ r.os).length : Int), f', tk B N r.pos)) →
      (r.1 = false → ∀ s' f' b d v, post 0 (s', f', zI (r.pos : Int), b, d, v)) →
      wpX2_readCondition_59 (wpX2R m 0) (wpX2R m 1) (fun y0 y1 y2 y3 y4 y5 y6 y7 y8 y9 => wpX2_readCondition_8 (wpX2R m 0) (wpX2R m 1) post (zI (N : Int)) B n y0 y1 y2 y3 y4 y5 y6 y7 y8 y9) post (zI (N : Int)) B (zI (acc.length : Int)) f (tk B N p).1 (tk B N p).2.1 (tk B N p).2.2.1 (tk B N p).2.2.2 (zI (d : Int)) 0 (zI (c : Int))) ∧
    (∀ (m n : Nat), 20 ≤ m + 3 * d → k ≤ n → RD (fun post q bg dp st v => wpX11_readCond_9 (wpX11R m 0) (wpX11R m 1) (wpX11R m 2) post (zI (N : Int)) B (n + 1) q bg dp st v) B N d p r) ∧
    (r.1 = true → okS B N p r ∧ ∃ D : (Nat → Int32) → Bool, ∀ F, (∀ (l : Int32) (z : Nat) (x : Bool), z < 4 ^ d → ∃ l', Ce F r.os (0, l, zI ((2 * z + bt x : Nat) : Int)) (0, l', zI ((2 * z + bt (x || D F) : Nat) : Int))) ∧ ∀ (x : Bool) a, Re F r.ss (b32 x :: a) (b32 (x || D F) :: a)) := by
    intro k p hk hp hsp hno
    have hn := nx_le (B := B) hp
    refine ⟨(true, p, [], []), ?_, ?_, fun _ => ⟨⟨Nat.le_refl p, hp, hsp, Nat.le_of_eq (Nat.zero_add p), Nat.le_of_eq (Nat.zero_add p)⟩, fun _ => false, fun F => ⟨fun l z x hz => ⟨l, ?_⟩, fun x a => ?_⟩⟩⟩
    · intro m n c post acc f hm hkn hc hf hl h1 h0
      unfold wpX2_readCondition_59
      refine sp_isWord (by decide) hn.1 (by omega) ?_
      rw [hno]
      refine ⟨fun e => absurd rfl e, fun _ => ?_⟩
      have := h1 rfl f (by rw [List.append_nil]; exact hf)
      rw [List.append_nil] at this
      exact this
    · intro m n hm hkn post q bg acc v hq hsk hv hl h1 h0
      show wpX11_readCond_9 (wpX11R m 0) (wpX11R m 1) (wpX11R m 2) post (zI (N : Int)) B (n + 1) (zI (q : Int)) bg (zI (d : Int)) (zI (acc.length : Int)) v
      unfold wpX11_readCond_9
      refine sr_passes (by decide) hN hq (fun e => ?_) (fun e => ⟨fun _ => ?_, fun z => absurd rfl z⟩)
      · rw [hsk, isW_no hp (by decide) hno] at e; exact absurd e (by decide)
      · have := h1 rfl p (zI (p : Int)) v hp hsp (by rw [List.append_nil]; exact hv) Fr.rfl'
        rw [List.append_nil] at this
        rw [hsk]; exact this
    · rw [Bool.or_false]; exact Ce.nil _
    · rw [Bool.or_false]; exact Re.nil _
  intro k
  induction k with
  | zero =>
    intro p hk hp hsp
    refine stop 0 p hk hp hsp ?_
    cases e : isW B (nx B N p) p [111, 114] with
    | false => rfl
    | true => have := (isW_at hp (by decide) e).1; omega
  | succ k ih =>
    intro p hk hp hsp
    cases e : isW B (nx B N p) p [111, 114] with
    | false => exact stop (k + 1) p hk hp hsp e
    | true =>
      obtain ⟨hlt, enx, eru, eW, eB⟩ := isW_at hp (by decide) e
      have enx : nx B N p = p + 2 := enx
      have eru : ru (bLe B) N p = p + 2 := eru
      have hn := nx_le (B := B) hp
      have hs2 := sk_le (B := B) (N := N) (p := p + 2) (by omega)
      have hp2 : sk B N (sk B N (p + 2)) = sk B N (p + 2) := sk_sk (by omega)
      generalize hq2 : sk B N (p + 2) = p2 at hs2 hp2
      obtain ⟨ra, hCa, hRa, hSa⟩ := allAt hN hd HA hs2.2 hp2
      cases hra : ra.1 with
      | false =>
        refine ⟨(false, ra.pos, [], []), ?_, ?_, fun h => ff_ h⟩
        · intro m n c post acc f hm hkn hc hf hl h1 h0
          unfold wpX2_readCondition_59
          refine sp_isWord (by decide) hn.1 (by omega) ?_
          rw [e]
          refine ⟨fun _ => ?_, fun z => absurd z (by decide)⟩
          unfold wpX2_readCondition_74
          show wpX8_toNext _ (zI (N : Int)) B _ (zI (nx B N p : Int)) _ _
          rw [enx]
          refine sp_toNext hN (by omega) ?_
          rw [hq2]
          intro v2 e2
          rw [e2, zS]
          obtain ⟨n', en⟩ : ∃ n', n = n' + 1 := ⟨n - 1, by omega⟩
          rw [en]
          exact hCa m n' (c + 1) true post acc f hm (by omega) (by omega) (by omega) hf (by omega) (fun z => absurd (hra.symm.trans z) (by decide)) (fun _ s' f' b d v => h0 rfl _ _ _ _ _)
        · intro m n hm hkn post q bg acc v hq hsk hv hl h1 h0
          show wpX11_readCond_9 (wpX11R m 0) (wpX11R m 1) (wpX11R m 2) post (zI (N : Int)) B (n + 1) (zI (q : Int)) bg (zI (d : Int)) (zI (acc.length : Int)) v
          unfold wpX11_readCond_9
          refine sr_passes (by decide) hN hq (fun _ => ⟨fun z => absurd z (by decide), fun _ => ?_⟩) (fun z => ?_)
          · rw [hsk, eru]
            refine hRa m hm _ (p + 2) _ acc v (by omega) hq2 hv (by omega) (fun z => absurd (hra.symm.trans z) (by decide)) (fun _ q' d' s' v' hf' => ?_)
            exact ⟨fun z => absurd rfl z, fun _ => h0 rfl _ _ _ _ hf'⟩
          · rw [hsk, eW] at z; exact absurd z (by decide)
      | true =>
        obtain ⟨o1, o2, o3, o4, o5, Da, hDa⟩ := hSa hra
        obtain ⟨r, hC, hR, hS⟩ := ih ra.pos (by omega) o2 o3
        refine ⟨(r.1, r.pos, ra.os ++ [-13] ++ r.os, ra.ss ++ [(13, 0)] ++ r.ss), ?_, ?_, fun h => ?_⟩
        · intro m n c post acc f hm hkn hc hf hl h1 h0
          unfold wpX2_readCondition_59
          refine sp_isWord (by decide) hn.1 (by omega) ?_
          rw [e]
          refine ⟨fun _ => ?_, fun z => absurd z (by decide)⟩
          unfold wpX2_readCondition_74
          show wpX8_toNext _ (zI (N : Int)) B _ (zI (nx B N p : Int)) _ _
          rw [enx]
          refine sp_toNext hN (by omega) ?_
          rw [hq2]
          intro v2 e2
          rw [e2, zS]
          obtain ⟨n', en⟩ : ∃ n', n = n' + 1 := ⟨n - 1, by omega⟩
          rw [en]
          refine hCa m n' (c + 1) true post acc f hm (by omega) (by omega) (by omega) hf (by omega) (fun _ n'' c'' f' b1 b2 hf' => ?_) (fun z => absurd (hra.symm.trans z) (by decide))
          refine ⟨fun z => absurd z (by decide), fun _ => ?_⟩
          refine sp_give hf' (by rw [List.length_append]; omega) (fun f2 hf2 => ?_)
          refine hC m n'' c'' post _ f2 hm b1 b2 hf2 (by rw [List.length_append, List.length_append, List.length_singleton]; omega) (fun hr f3 hf3 => ?_) (fun hr => h0 hr)
          have := h1 hr f3 (by simpa only [List.append_assoc] using hf3)
          simpa only [List.append_assoc] using this
        · intro m n hm hkn post q bg acc v hq hsk hv hl h1 h0
          show wpX11_readCond_9 (wpX11R m 0) (wpX11R m 1) (wpX11R m 2) post (zI (N : Int)) B (n + 1) (zI (q : Int)) bg (zI (d : Int)) (zI (acc.length : Int)) v
          unfold wpX11_readCond_9
          refine sr_passes (by decide) hN hq (fun _ => ⟨fun z => absurd z (by decide), fun _ => ?_⟩) (fun z => ?_)
          · rw [hsk, eru]
            refine hRa m hm _ (p + 2) _ acc v (by omega) hq2 hv (by omega) (fun _ q' bg' v' hq' hsk' hv' hf' => ?_) (fun z => absurd (hra.symm.trans z) (by decide))
            refine ⟨fun _ => ?_, fun z => absurd z (by decide)⟩
            refine sr_emits hv' (by rw [List.length_append]; omega) (fun v2 hv2 hf2 => ?_)
            obtain ⟨n', en⟩ : ∃ n', n = n' + 1 := ⟨n - 1, by omega⟩
            rw [en]
            refine hR m n' hm (by omega) post q' bg' _ v2 hq' hsk' hv2 (by rw [List.length_append, List.length_append, List.length_singleton]; omega) (fun hr q3 bg3 v3 hq3 hsk3 hv3 hf3 => ?_) (fun hr q3 d3 s3 v3 hf3 => ?_)
            · have := h1 hr q3 bg3 v3 hq3 hsk3 (by simpa only [List.append_assoc] using hv3) ((hf'.trans hf2).trans hf3)
              simpa only [List.append_assoc] using this
            · exact h0 hr _ _ _ _ ((hf'.trans hf2).trans hf3)
          · rw [hsk, eW] at z; exact absurd z (by decide)
        · obtain ⟨⟨t1, t2, t3, t4, t5⟩, D, hD⟩ := hS h
          refine ⟨⟨by show p ≤ r.pos; omega, t2, t3, by show List.length (ra.os ++ [-13] ++ r.os) + p ≤ r.pos; simp only [List.length_append, List.length_singleton]; omega, by show List.length (ra.ss ++ [(13, 0)] ++ r.ss) + p ≤ r.pos; simp only [List.length_append, List.length_singleton]; omega⟩, fun F => Da F || D F, fun F => ⟨fun l z x hz => ?_, fun x a => ?_⟩⟩
          · have hx := bt_lt x
            obtain ⟨l1, c1⟩ := (hDa F).1 l (2 * z + bt x) (by omega)
            have c2 : Ce F [-13] (0, l1, zI ((2 * (2 * z + bt x) + bt (Da F) : Nat) : Int)) (0, l1, _) := Ce.or
            rw [bt_or _ _ (by omega)] at c2
            obtain ⟨l2, c3⟩ := (hD F).1 l1 z (x || Da F) hz
            rw [Bool.or_assoc] at c3
            exact ⟨l2, (c1.app c2).app c3⟩
          · have c1 := (hDa F).2 (b32 x :: a)
            have c2 : Re F [((13 : Int32), (0 : Int32))] (b32 (Da F) :: b32 x :: a) (bop 13 (b32 x) (b32 (Da F)) :: a) := Re.bin (c := 13) (by decide) (by decide)
            rw [bop_or] at c2
            have c3 := (hD F).2 (x || Da F) a
            rw [Bool.or_assoc] at c3
            exact (c1.app c2).app c3
theorem cond_of (hN : N ≤ 400) {d : Nat} (hd : d ≤ 6) (HA : AtomOk B N d) : CondOk B N d := by
  have hd4 := c4 hd
  intro p hp hsp
  obtain ⟨ra, hCa, hRa, hSa⟩ := allAt hN hd HA hp hsp
  cases hra : ra.1 with
  | false =>
    refine ⟨(false, ra.pos, [], []), ?_, ?_, fun h => ff_ h⟩
    · intro n hn post acc f hf hl h1 h0
      obtain ⟨m, em⟩ : ∃ m, n = m + 1 := ⟨n - 1, by omega⟩
      rw [em]
      show wpX2_readCondition (wpX2R m 0) (wpX2R m 1) post (zI (N : Int)) B _ f _ _ _ _ (zI (d : Int))
      refine ⟨N + 1, ?_⟩
      exact hCa m N 0 false post acc f (by omega) (by omega) (by omega) (by omega) hf hl (fun z => absurd (hra.symm.trans z) (by decide)) (fun _ s' f' b d v => h0 rfl _ _ _ _ _)
    · intro n hn post q bg acc v hq hsk hv hl h1 h0
      obtain ⟨m, em⟩ : ∃ m, n = m + 1 := ⟨n - 1, by omega⟩
      rw [em]
      show wpX11_readCond (wpX11R m 0) (wpX11R m 1) (wpX11R m 2) post (zI (N : Int)) B (zI (q : Int)) bg (zI (d : Int)) (zI (acc.length : Int)) v
      unfold wpX11_readCond
      refine hRa m (by omega) _ q _ acc v hq hsk hv hl (fun z => absurd (hra.symm.trans z) (by decide)) (fun _ q' d' s' v' hf' => ?_)
      exact ⟨fun z => absurd rfl z, fun _ => h0 rfl _ _ _ _ hf'⟩
  | true =>
    obtain ⟨o1, o2, o3, o4, o5, Da, hDa⟩ := hSa hra
    obtain ⟨r, hC, hR, hS⟩ := orTail hN hd HA (N - ra.pos) ra.pos (by omega) o2 o3
    refine ⟨(r.1, r.pos, ra.os ++ r.os, ra.ss ++ r.ss), ?_, ?_, fun h => ?_⟩
    · intro n hn post acc f hf hl h1 h0
      obtain ⟨m, em⟩ : ∃ m, n = m + 1 := ⟨n - 1, by omega⟩
      rw [em]
      show wpX2_readCondition (wpX2R m 0) (wpX2R m 1) post (zI (N : Int)) B _ f _ _ _ _ (zI (d : Int))
      refine ⟨N + 1, ?_⟩
      refine hCa m N 0 false post acc f (by omega) (by omega) (by omega) (by omega) hf hl (fun _ n'' c'' f' b1 b2 hf' => ?_) (fun z => absurd (hra.symm.trans z) (by decide))
      refine ⟨fun _ => ?_, fun z => absurd rfl z⟩
      refine hC m n'' c'' post _ f' (by omega) b1 b2 hf' (by rw [List.length_append]; omega) (fun hr f3 hf3 => ?_) (fun hr => h0 hr)
      have := h1 hr f3 (by simpa only [List.append_assoc] using hf3)
      simpa only [List.append_assoc] using this
    · intro n hn post q bg acc v hq hsk hv hl h1 h0
      obtain ⟨m, em⟩ : ∃ m, n = m + 1 := ⟨n - 1, by omega⟩
      rw [em]
      show wpX11_readCond (wpX11R m 0) (wpX11R m 1) (wpX11R m 2) post (zI (N : Int)) B (zI (q : Int)) bg (zI (d : Int)) (zI (acc.length : Int)) v
      unfold wpX11_readCond
      refine hRa m (by omega) _ q _ acc v hq hsk hv hl (fun _ q' bg' v' hq' hsk' hv' hf' => ?_) (fun z => absurd (hra.symm.trans z) (by decide))
      refine ⟨fun _ => ⟨N + 1, ?_⟩, fun z => absurd z (by decide)⟩
      refine hR m N (by omega) (by omega) post q' bg' _ v' hq' hsk' hv' (by rw [List.length_append]; omega) (fun hr q3 bg3 v3 hq3 hsk3 hv3 hf3 => ?_) (fun hr q3 d3 s3 v3 hf3 => ?_)
      · have := h1 hr q3 bg3 v3 hq3 hsk3 (by simpa only [List.append_assoc] using hv3) (hf'.trans hf3)
        simpa only [List.append_assoc] using this
      · exact h0 hr _ _ _ _ (hf'.trans hf3)
    · obtain ⟨⟨t1, t2, t3, t4, t5⟩, D, hD⟩ := hS h
      refine ⟨by show p < r.pos; omega, t2, t3, by show List.length (ra.os ++ r.os) + p ≤ r.pos + 1; simp only [List.length_append]; omega, by show List.length (ra.ss ++ r.ss) + p ≤ r.pos; simp only [List.length_append]; omega, fun F => Da F || D F, fun F => ⟨fun l z hz => ?_, fun a => ?_⟩⟩
      · obtain ⟨l1, c1⟩ := (hDa F).1 l z (by omega)
        obtain ⟨l2, c3⟩ := (hD F).1 l1 z (Da F) hz
        exact ⟨l2, c1.app c3⟩
      · exact ((hDa F).2 a).app ((hD F).2 (Da F) a)
end
