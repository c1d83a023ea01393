theorem cpy0 {f g : Nat → Int32} {n j : Nat} (h : j < n) : va_cpy f g 0 0 n j = f j := by
  unfold va_cpy
  rw [if_pos (by omega)]
  congr 1; omega
def TextOk (t : TRes) : Prop := t.2.2.2.length ≤ 12 ∧ t.2.2.1.length ≤ 400 ∧ (segs t.2.2.2).length ≤ 400 ∧ CL t.2.2.1 t.2.2.2 ∧ ∀ x ∈ t.2.2.2, LineOk x
section
variable {B : Nat → Int32} {N : Nat}
theorem lawText (hN : N ≤ 400) : ∃ t : TRes,
    (∀ (post : CPost) (s l h b d v : Int32) (f : Nat → Int32),
      (t.1 = true → ∀ f', Lh f' t.2.2.1 → post 1 (zI (t.2.2.1.length : Int), zI (t.2.2.2.length : Int), f', tk B N t.2.1)) →
      (t.1 = false → ∀ s' l' f' b d v, post 0 (s', l', f', zI (t.2.1 : Int), b, d, v)) →
      wpX2_readText post (zI (N : Int)) B s l f h b d v) ∧
    (∀ (post : RPost) (th pt en bg dp st : Int32) (v : Nat → Int32),
      (t.1 = true → ∀ q' bg' dp' st' v', Ld v' 1708 (segs t.2.2.2) → (∀ j, j < 1684 → v' j = v j) → Bd v' 1683 0 0 t.2.2.2 → post (zI (t.2.2.2.length : Int)) (0, 0, q', zI (N : Int), bg', dp', st', v')) →
      (t.1 = false → ∀ q' dp' s' v', (∀ j, j < 1684 → v' j = v j) → post (-1) (0, 0, q', zI (N : Int), zI (t.2.1 : Int), dp', s', v')) →
      wpX11_readAll post B th (zI (N : Int)) pt en bg dp st v 0) ∧
    (t.1 = true → TextOk t) := by
  have hs := sk_le (B := B) (N := N) (p := 0) (by omega)
  have hss : sk B N (sk B N 0) = sk B N 0 := sk_sk (by omega)
  generalize hq : sk B N 0 = p at hs hss
  by_cases hE : p = N
  · refine ⟨(true, p, [], []), ?_, ?_, fun _ => ⟨by show 0 ≤ 12; omega, by show 0 ≤ 400; omega, by show 0 ≤ 400; omega, CL.nil, fun x hx => absurd hx (List.not_mem_nil)⟩⟩
    · intro post s l h b d v f h1 h0
      unfold wpX2_readText wpX8_toFirst
      refine sp_toNext (q := 0) hN (by omega) ?_
      rw [hq]
      refine sp_isOver hN hs.2 (fun z => absurd z (by omega)) (fun _ => ⟨fun z => absurd z (by decide), fun _ => ?_⟩)
      exact h1 rfl f (fun k hk => absurd hk (Nat.not_lt_zero k))
    · intro post th pt en bg dp st v h1 h0
      unfold wpX11_readAll wpX11_uses
      refine sr_blanks (p := 0) hN (by omega) ?_
      rw [hq, zN_eq (by omega)]
      refine ⟨fun z => absurd hE z, fun _ => ?_⟩
      exact h1 rfl _ _ _ _ v (fun k hk => absurd hk (Nat.not_lt_zero k)) (fun _ _ => rfl) trivial
  · obtain ⟨t, hC, hR, hS⟩ := lawLoop (B := B) hN (N - p) p 0 (by omega) hs.2 hss (by omega)
    refine ⟨t, ?_, ?_, fun h => ?_⟩
    · intro post s l h b d v f h1 h0
      unfold wpX2_readText wpX8_toFirst
      refine sp_toNext (q := 0) hN (by omega) ?_
      rw [hq]
      refine sp_isOver hN hs.2 (fun _ => ⟨fun _ => ⟨N - p + 1, ?_⟩, fun z => absurd rfl z⟩) (fun z => absurd z hE)
      refine hC post (N - p) [] f (Nat.le_refl _) (fun k hk => absurd hk (Nat.not_lt_zero k)) (Nat.zero_le _) (fun hr f' hf' => ?_) h0
      have := h1 hr f' hf'
      rw [Nat.zero_add]
      exact this
    · intro post th pt en bg dp st v h1 h0
      unfold wpX11_readAll wpX11_uses
      refine sr_blanks (p := 0) hN (by omega) ?_
      rw [hq, zN_eq (by omega)]
      refine ⟨fun _ => ⟨N - p + 1, ?_⟩, fun z => absurd z hE⟩
      refine hR post (N - p) p 0 0 _ _ [] v (Nat.le_refl _) hs.2 hss (fun k hk => absurd hk (Nat.not_lt_zero k)) (Nat.zero_le _) (fun hr q' bg' dp' st' v' hv' hf' hb' => ?_) h0
      have := h1 hr q' bg' dp' st' v' hv' hf' hb'
      rw [Nat.zero_add]
      exact this
    · obtain ⟨s1, s2, s3, s4, s5⟩ := hS h
      exact ⟨by omega, by omega, by omega, s4, s5⟩
theorem sr_law52 {post : Int32 → (Int32 × Int32 × Int32 × Int32 × Int32 × Int32 × Int32 × Int32 × Int32 × (Nat → Int32)) → Prop} {f1 V : Nat → Int32} {a0 a1 a2 a3 a4 a5 a6 a7 a8 x1 : Int32}
    (hp : ∀ v' : Nat → Int32, (∀ y, y < 825 → v' (858 + y) = V (1683 + y)) → (∀ j, j < 858 → j ≠ 3 → j ≠ 6 → v' j = V j) → v' 3 = 1 → v' 6 = 0 → post x1 (a0, 0, a2, a3, a4, a5, a6, a7, a8, v')) :
    ∀ (k x : Nat) (f : Nat → Int32), x + k = 825 → (∀ y, y < x → f (858 + y) = V (1683 + y)) → (∀ j, j < 858 ∨ 858 + x ≤ j → f j = V j) → wpX11_law_52 post f1 (k + 1) a0 a1 a2 a3 a4 a5 a6 a7 a8 f x1 (zI (x : Int)) := by
  intro k
  induction k with
  | zero =>
    intro x f e h1 h2
    unfold wpX11_law_52
    rw [show (825 : Int32) = zI ((825 : Nat) : Int) from rfl, zN_le (by omega)]
    refine ⟨fun _ => ⟨vin (by decide), ?_⟩, fun z => absurd (show 825 ≤ x by omega) z⟩
    unfold wpX11_endsWalk
    refine ⟨vin (by decide), ?_⟩
    refine hp _ (fun y hy => ?_) (fun j hj h3 h6 => ?_) ?_ ?_
    · show upd (upd f 3 1) 6 0 (858 + y) = _
      rw [upd_eq, upd_eq, if_neg (by omega), if_neg (by omega)]; exact h1 y (by omega)
    · show upd (upd f 3 1) 6 0 j = _
      rw [upd_eq, upd_eq, if_neg h6, if_neg h3]; exact h2 j (Or.inl hj)
    · show upd (upd f 3 1) 6 0 3 = _
      rw [upd_eq, upd_eq, if_neg (by decide), if_pos rfl]
    · show upd (upd f 3 1) 6 0 6 = _
      rw [upd_eq, if_pos rfl]
  | succ k ih =>
    intro x f e h1 h2
    unfold wpX11_law_52
    have e1 : (1683 : Int32) + zI (x : Int) = zI ((1683 + x : Nat) : Int) := zN_add 1683 x
    have e2 : (858 : Int32) + zI (x : Int) = zI ((858 + x : Nat) : Int) := zN_add 858 x
    rw [show (825 : Int32) = zI ((825 : Nat) : Int) from rfl, zN_le (by omega), e1, e2, zN (by omega), zN (by omega), zS]
    refine ⟨fun z => absurd z (by omega), fun _ => ⟨zN_in (by omega), zN_in (by omega), fun v2 ev => ?_⟩⟩
    rw [ev]
    refine ih (x + 1) _ (by omega) (fun y hy => ?_) (fun j hj => ?_)
    · rw [upd_eq]
      by_cases hyx : y = x
      · rw [if_pos (by omega), hyx]; exact h2 _ (by omega)
      · rw [if_neg (by omega)]; exact h1 y (by omega)
    · rw [upd_eq, if_neg (by omega)]; exact h2 j (by omega)
theorem LwR.of {t : TRes} {V v' : Nat → Int32} (ht : TextOk t) (h0 : V 1683 = zI (t.2.2.2.length : Int)) (hb : Bd V 1683 0 0 t.2.2.2) (hl : Ld V 1708 (segs t.2.2.2)) (hc : ∀ y, y < 825 → v' (858 + y) = V (1683 + y)) : LwR t.2.2.2 v' := by
  obtain ⟨s1, s2, s3, s4, s5⟩ := ht
  refine ⟨?_, s1, ?_, fun k hk => ?_, s3, s5⟩
  · rw [← h0]; exact hc 0 (by omega)
  · have key : ∀ (xs : List Ln) (c a : Nat), c + xs.length ≤ 12 → Bd V 1683 c a xs → Bd v' 858 c a xs := by
      intro xs
      induction xs with
      | nil => intro c a _ _; trivial
      | cons x xs ih =>
        intro c a hcx h
        rw [List.length_cons] at hcx
        refine ⟨?_, ?_, ih (c + 1) _ (by omega) h.2.2⟩
        · rw [← h.1, show 858 + 1 + 2 * c = 858 + (1 + 2 * c) by omega, hc _ (by omega)]; congr 1; omega
        · rw [← h.2.1, show 858 + 1 + 2 * c + 1 = 858 + (1 + 2 * c + 1) by omega, hc _ (by omega)]; congr 1; omega
    exact key _ 0 0 (by omega) hb
  · have := hl k hk
    rw [← this.1, ← this.2, show 883 + 2 * k = 858 + (25 + 2 * k) by omega, show 858 + (25 + 2 * k) + 1 = 858 + (25 + 2 * k + 1) by omega, hc _ (by omega), hc _ (by omega)]
    constructor <;> (congr 1; omega)
theorem sr_law_of {t : TRes} {post : Int32 → (Int32 × Int32 × Int32 × Int32 × Int32 × Int32 × Int32 × Int32 × Int32 × (Nat → Int32)) → Prop} {v : Nat → Int32} {th re pt en bg dp fa st : Int32}
    (hR : ∀ (post : RPost) (th pt en bg dp st : Int32) (v : Nat → Int32),
      (t.1 = true → ∀ q' bg' dp' st' v', Ld v' 1708 (segs t.2.2.2) → (∀ j, j < 1684 → v' j = v j) → Bd v' 1683 0 0 t.2.2.2 → post (zI (t.2.2.2.length : Int)) (0, 0, q', zI (N : Int), bg', dp', st', v')) →
      (t.1 = false → ∀ q' dp' s' v', (∀ j, j < 1684 → v' j = v j) → post (-1) (0, 0, q', zI (N : Int), zI (t.2.1 : Int), dp', s', v')) →
      wpX11_readAll post B th (zI (N : Int)) pt en bg dp st v 0)
    (hS : t.1 = true → TextOk t)
    (h1 : t.1 = true → ∀ q' bg' dp' st' v', LwR t.2.2.2 v' → (∀ j, j < 858 → j ≠ 3 → j ≠ 6 → v' j = v j) → v' 3 = 1 → v' 6 = 0 → post (zI (t.2.2.2.length : Int)) (0, 0, 0, q', zI (N : Int), bg', dp', -1, st', v'))
    (h0 : t.1 = false → ∀ q' dp' s' v', (∀ j, j < 1684 → v' j = v j) → post 0 (1, re, 0, q', zI (N : Int), zI (t.2.1 : Int), dp', zI (t.2.1 : Int), s', v')) :
    wpX11_law post B th re (zI (N : Int)) pt en bg dp fa st v := by
  unfold wpX11_law
  refine hR _ th pt en bg dp st v (fun hr q' bg' dp' st' v' hv' hf' hb' => ?_) (fun hr q' dp' s' v' hf' => ?_)
  · have ht := hS hr
    refine ⟨fun _ => ?_, fun z => absurd (by rw [show (0 : Int32) = zI ((0 : Nat) : Int) from rfl, zN_le (by have := ht.1; omega)]; omega) z⟩
    unfold wpX11_law_19 wpX11_law_32 wpX11_throwsIf
    refine ⟨fun _ => ⟨fun _ => ⟨Or.inl rfl, ⟨fun _ => ⟨vin (by decide), ⟨825 + 1, ?_⟩⟩, fun z => absurd rfl z⟩⟩, fun z => absurd rfl z⟩, fun z => absurd (by rw [show (0 : Int32) = zI ((0 : Nat) : Int) from rfl, zN_le (by have := ht.1; omega)]; omega) z⟩
    refine sr_law52 (V := upd v' 1683 (zI (t.2.2.2.length : Int))) (fun v2 c1 c2 c3 c4 => ?_) 825 0 _ (by omega) (fun y hy => absurd hy (Nat.not_lt_zero y)) (fun j _ => rfl)
    refine h1 hr _ _ _ _ v2 (LwR.of ht (V := upd v' 1683 (zI (t.2.2.2.length : Int))) ?_ ?_ ?_ c1) (fun j hj h3 h6 => ?_) c3 c4
    · rw [upd_eq, if_pos rfl]
    · exact Bd.frame _ 0 0 (fun j a b => by rw [upd_eq, if_neg (by omega)]) hb'
    · intro k hk
      rw [upd_eq, upd_eq, if_neg (by omega), if_neg (by omega)]; exact hv' k hk
    · rw [c2 j hj h3 h6, upd_eq, if_neg (by omega)]; exact hf' j (by omega)
  · refine ⟨fun z => absurd z (by decide), fun _ => ?_⟩
    unfold wpX11_law_19 wpX11_law_32 wpX11_throwsIf
    refine ⟨fun z => absurd z (by decide), fun _ => ⟨fun z => absurd z (by decide), fun _ => ⟨Or.inr rfl, ⟨fun z => absurd z (by decide), fun _ => ?_⟩⟩⟩⟩
    exact h0 hr _ _ _ _ hf'
theorem sp_law_of {t : TRes} {post : Int32 → (Int32 × Int32 × Int32 × (Nat → Int32) × Int32 × Int32 × Int32 × Int32 × Int32 × Int32 × Int32 × (Nat → Int32) × Int32) → Prop} {postX : String → (Int32 × Int32 × Int32 × (Nat → Int32) × Int32 × Int32 × Int32 × Int32 × Int32 × Int32 × Int32 × (Nat → Int32) × Int32) → Prop} {wb s l h b d vv s6 l6 uw : Int32} {f f7 : Nat → Int32}
    (hC : ∀ (post : CPost) (s l h b d v : Int32) (f : Nat → Int32),
      (t.1 = true → ∀ f', Lh f' t.2.2.1 → post 1 (zI (t.2.2.1.length : Int), zI (t.2.2.2.length : Int), f', tk B N t.2.1)) →
      (t.1 = false → ∀ s' l' f' b d v, post 0 (s', l', f', zI (t.2.1 : Int), b, d, v)) →
      wpX2_readText post (zI (N : Int)) B s l f h b d v)
    (hS : t.1 = true → TextOk t)
    (h1 : t.1 = true → ∀ ds dl df th tb td tv sz' os', LwC t.2.2.2 os' sz' → post (zI (t.2.2.2.length : Int)) (-1, ds, dl, df, 0, th, tb, td, tv, sz', zI (t.2.2.2.length : Int), os', 0))
    (h0 : t.1 = false → ∀ ds dl df tb td tv, postX "java/lang/IllegalArgumentException" (zI (t.2.1 : Int), ds, dl, df, 0, zI (t.2.1 : Int), tb, td, tv, s6, l6, f7, uw)) :
    wpX10_law post postX B wb s l f (zI (N : Int)) h b d vv s6 l6 f7 uw := by
  unfold wpX10_law
  refine hC _ s l h b d vv f (fun hr f' hf' => ?_) (fun hr s' l' f' b d v => ?_)
  · have ht := hS hr
    unfold wpX10_useUpText wpX10_useUpText_16
    refine ⟨fun z => absurd z (by decide), fun _ => ⟨fun _ => ?_, fun z => absurd z (by decide)⟩⟩
    unfold wpX2_copyFrom
    refine h1 hr _ _ _ _ _ _ _ _ _ ⟨t.2.2.1, rfl, ht.2.1, fun k hk => ?_, ht.2.2.2.1⟩
    rw [← hf' k hk]
    exact cpy0 (by show k < 400; have := ht.2.1; omega)
  · unfold wpX10_useUpText wpX10_useUpText_16
    exact ⟨fun _ => ⟨fun z => absurd rfl z, fun _ => h0 hr _ _ _ _ _ _⟩, fun z => absurd rfl z⟩
end
