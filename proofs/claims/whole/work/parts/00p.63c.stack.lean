def Sk (g : Nat → Int32) (st : List Int32) : Prop := ∀ (k : Nat) (h : k < st.length), g (st.length - 1 - k) = st[k]
theorem Sk.push {g : Nat → Int32} {st : List Int32} (h : Sk g st) (x : Int32) : Sk (upd g st.length x) (x :: st) := by
  intro k hk
  rw [List.length_cons] at hk
  rw [upd_eq, List.length_cons]
  cases k with
  | zero => rw [if_pos (by omega)]; rfl
  | succ k =>
    rw [if_neg (by omega), List.getElem_cons_succ, ← h k (by omega)]
    congr 1; omega
theorem Sk.tail {g : Nat → Int32} {st : List Int32} {x : Int32} (h : Sk g (x :: st)) : Sk g st := by
  intro k hk
  have : g (st.length + 1 - 1 - (k + 1)) = st[k] := h (k + 1) (by rw [List.length_cons]; omega)
  rw [← this]; congr 1; omega
theorem Sk.top {g : Nat → Int32} {st : List Int32} {x : Int32} (h : Sk g (x :: st)) : g st.length = x := by
  have : g (st.length + 1 - 1 - 0) = x := h 0 (by rw [List.length_cons]; omega)
  exact this
def Fa (F v : Nat → Int32) (w m o d : Int32) : Prop := ∀ (j : Nat) (n : Int32) (post : Int32 → Unit → Prop), j < 7 → post (F j) () → wpX11_factOf post v (zI (j : Int)) n w m o d
def Re (F : Nat → Int32) (ss : List (Int32 × Int32)) (a b : List Int32) : Prop := b.length ≤ a.length + ss.length ∧ ∀ (post : Int32 → ((Nat → Int32)) → Prop) (v : Nat → Int32) (w m o d : Int32) (g : Nat → Int32) (x7 : Int32) (i e n : Nat), Fa F v w m o d → (∀ (k : Nat) (h : k < ss.length), v (883 + 2 * (i + k)) = ss[k].1 ∧ v (883 + 2 * (i + k) + 1) = ss[k].2) → vp_in (x7 + 1) 2508 → v (x7 + 1).toNatClampNeg = zI (e : Int) → i + ss.length ≤ e → e ≤ 400 → a.length ≤ i → Sk g a → (∀ g', Sk g' b → wpX11_holdsLine_21 post v n g' w m o d (zI (b.length : Int)) x7 (zI ((i + ss.length : Nat) : Int))) → wpX11_holdsLine_21 post v (n + ss.length) g w m o d (zI (a.length : Int)) x7 (zI (i : Int))
section
variable {F : Nat → Int32}
theorem Re.nil (a : List Int32) : Re F [] a a := ⟨by omega, fun _ _ _ _ _ _ _ _ _ _ _ _ _ _ _ _ _ _ hg h => h _ hg⟩
theorem Re.app {x y : List (Int32 × Int32)} {a b c : List Int32} (h1 : Re F x a b) (h2 : Re F y b c) : Re F (x ++ y) a c := by
  refine ⟨by rw [List.length_append]; have := h1.1; have := h2.1; omega, ?_⟩
  intro post v w m o d g x7 i e n hF hv hx he hi h4 ha hg h
  rw [List.length_append] at hi h ⊢
  rw [show n + (x.length + y.length) = n + y.length + x.length by omega]
  refine h1.2 post v w m o d g x7 i e (n + y.length) hF (fun k hk => ?_) hx he (by omega) h4 ha hg (fun g' hg' => ?_)
  · have := hv k (by rw [List.length_append]; omega)
    rw [List.getElem_append_left (by omega)] at this
    exact this
  · refine h2.2 post v w m o d g' x7 (i + x.length) e n hF (fun k hk => ?_) hx he (by omega) h4 (by have := h1.1; omega) hg' (fun g'' hg'' => ?_)
    · have := hv (x.length + k) (by rw [List.length_append]; omega)
      rw [List.getElem_append_right (by omega), ← Nat.add_assoc] at this
      rw [this.1, this.2]
      constructor <;> (congr 2; omega)
    · rw [Nat.add_assoc]; exact h g'' hg''
theorem Re.of {s q : Int32} {a b : List Int32} (hb : b.length ≤ a.length + 1) (H : ∀ (post : Int32 → ((Nat → Int32)) → Prop) (v : Nat → Int32) (w m o d : Int32) (g : Nat → Int32) (x7 : Int32) (i e n : Nat), Fa F v w m o d → v (883 + 2 * i) = s → v (883 + 2 * i + 1) = q → vp_in (x7 + 1) 2508 → v (x7 + 1).toNatClampNeg = zI (e : Int) → i < e → e ≤ 400 → a.length ≤ i → Sk g a → (∀ g', Sk g' b → wpX11_holdsLine_21 post v n g' w m o d (zI (b.length : Int)) x7 (zI ((i + 1 : Nat) : Int))) → wpX11_holdsLine_21 post v (n + 1) g w m o d (zI (a.length : Int)) x7 (zI (i : Int))) : Re F [(s, q)] a b := by
  refine ⟨hb, ?_⟩
  intro post v w m o d g x7 i e n hF hv hx he hi h4 ha hg h
  have := hv 0 Nat.zero_lt_one
  exact H post v w m o d g x7 i e n hF this.1 this.2 hx he hi h4 ha hg h
theorem e883 (i : Nat) : (883 : Int32) + (2 : Int32) * zI (i : Int) = zI ((883 + 2 * i : Nat) : Int) := by
  rw [show (883 : Int32) = zI 883 from rfl, show (2 : Int32) = zI 2 from rfl, zI_mul, zI_add]; congr 1
theorem Re.val {s q x : Int32} {a : List Int32} (hs : ¬ 7 < s) (hf : ∀ (v : Nat → Int32) (w m o d : Int32) (post : Int32 → Unit → Prop), Fa F v w m o d → post x () → wpX11_factOf post v s q w m o d) : Re F [(s, q)] a (x :: a) := by
  refine Re.of (by rw [List.length_cons]; omega) ?_
  intro post v w m o d g x7 i e n hF h1 h2 hx he hi h4 ha hg h
  unfold wpX11_holdsLine_21
  rw [he, zN_le (by omega), e883, zN (p := 883 + 2 * i) (by omega), zS, zN (p := 883 + 2 * i + 1) (by omega), h1, h2]
  refine ⟨hx, fun z => absurd z (by omega), fun _ => ⟨zN_in (by omega), fun v1 e1 => ⟨fun z => absurd z (by rw [e1]; exact hs), fun _ => ⟨zN_in (by omega), ?_⟩⟩⟩⟩
  rw [e1]
  refine hf v w m o d _ hF ⟨zN_in (by omega), fun v7 e7 => ?_⟩
  unfold wpX11_holdsLine_267
  intro v8 e8
  rw [e8, e7, zS, zS, zN (by omega)]
  exact h _ (hg.push x)
theorem Re.told {q : Int32} {a : List Int32} : Re F [(7, q)] a (q :: a) := by
  refine Re.val (by decide) (fun v w m o d post hF hp => ?_)
  unfold wpX11_factOf
  exact ⟨fun e => absurd e (by decide), fun e => absurd e (by decide), fun e => absurd e (by decide), fun e => absurd e (by decide), fun e => absurd e (by decide), fun e => absurd e (by decide), fun e => absurd e (by decide), fun _ => hp⟩
theorem Re.fact {q : Int32} {a : List Int32} {j : Nat} (hj : j < 7) : Re F [(zI (j : Int), q)] a (F j :: a) := by
  refine Re.val ?_ (fun v w m o d post hF hp => hF j q post hj hp)
  rw [show (7 : Int32) = zI ((7 : Nat) : Int) from rfl, zN_lt (by omega)]; omega
theorem Re.not {q x : Int32} {a : List Int32} : Re F [(11, q)] (x :: a) ((1 - x) :: a) := by
  refine Re.of (by rw [List.length_cons, List.length_cons]; omega) ?_
  intro post v w m o d g x7 i e n hF h1 h2 hx he hi h4 ha hg h
  rw [List.length_cons] at h ha ⊢
  have e0 : zI ((a.length + 1 : Nat) : Int) - 1 = zI (a.length : Int) := by
    rw [show (1 : Int32) = zI ((1 : Nat) : Int) from rfl, zN_sub (by omega)]; congr 1
  unfold wpX11_holdsLine_21
  rw [he, zN_le (by omega), e883, zN (by omega), h1, e0, zN (by omega)]
  refine ⟨hx, fun z => absurd z (by omega), fun _ => ⟨zN_in (by omega), fun v1 e1 => ⟨fun _ => ⟨fun z => absurd e1 z, fun _ => ⟨zN_in (by omega), zN_in (by omega), ?_⟩⟩, fun z => absurd (by rw [e1]; decide) z⟩⟩⟩
  unfold wpX11_holdsLine_267
  intro v8 e8
  rw [e8, zS, hg.top]
  exact h _ (hg.tail.push _)
def bop (c x y : Int32) : Int32 := if c = 8 then x + y else if c = 9 then b32 (decide (¬ y ≤ x)) else if c = 10 then b32 (decide (¬ x ≤ y)) else if c = 12 then b32 (decide (x + y = 2)) else b32 (decide (¬ x + y ≤ 0))
theorem Re.bin {c q x y : Int32} {a : List Int32} (hc : 7 < c) (hn : ¬ c = 11) : Re F [(c, q)] (y :: x :: a) (bop c x y :: a) := by
  refine Re.of (by rw [List.length_cons, List.length_cons, List.length_cons]; omega) ?_
  intro post v w m o d g x7 i e n hF h1 h2 hx he hi h4 ha hg h
  rw [List.length_cons] at h
  rw [List.length_cons, List.length_cons] at ha ⊢
  have e0 : zI ((a.length + 1 + 1 : Nat) : Int) + (-1) = zI ((a.length + 1 : Nat) : Int) := by
    rw [show (-1 : Int32) = zI (-1) from rfl, zI_add]; congr 1; omega
  have e0' : zI ((a.length + 1 : Nat) : Int) - 1 = zI (a.length : Int) := by
    rw [show (1 : Int32) = zI ((1 : Nat) : Int) from rfl, zN_sub (by omega)]; congr 1
  have hy := hg.top
  have hxx := hg.tail.top
  rw [List.length_cons] at hy
  have go : ∀ (s0 : Int32), (¬ c = 8 → (if s0 = 0 then 0 else 1) = bop c x y) → wpX11_holdsLine_231 (fun y0 y1 y2 y3 y4 y5 y6 y7 => wpX11_holdsLine_21 post v n y0 y1 y2 y3 y4 y5 y6 y7) post v g w m o d (zI ((a.length + 1 : Nat) : Int)) x7 (zI (i : Int)) c x y s0 := by
    intro s0 hs
    have fin : ∀ z, z = bop c x y → wpX11_holdsLine_266 (fun y0 y1 y2 y3 y4 y5 y6 y7 => wpX11_holdsLine_21 post v n y0 y1 y2 y3 y4 y5 y6 y7) post v g w m o d (zI ((a.length + 1 : Nat) : Int)) x7 (zI (i : Int)) (zI (a.length : Int)) z := by
      intro z ez
      unfold wpX11_holdsLine_266 wpX11_holdsLine_267
      refine ⟨zN_in (by omega), fun v8 e8 => ?_⟩
      rw [e8, zS, zN (by omega), ez]
      exact h _ (hg.tail.tail.push _)
    unfold wpX11_holdsLine_231
    rw [e0']
    refine ⟨fun c8 => ⟨fun z => fin _ ?_, fun z => fin _ ?_⟩, fun c8 => fin _ ?_⟩
    · rw [← hs c8, if_pos z]
    · rw [← hs c8, if_neg z]
    · unfold bop; rw [if_pos c8]
  unfold wpX11_holdsLine_21
  rw [he, zN_le (by omega), e883, zN (by omega), h1]
  refine ⟨hx, fun z => absurd z (by omega), fun _ => ⟨zN_in (by omega), fun v1 e1 => ⟨fun _ => ⟨fun _ v2 e2 => ?_, fun z => absurd (e1.symm.trans z) hn⟩, fun z => absurd (by rw [e1]; exact hc) z⟩⟩⟩
  rw [e2, e0, e0', zN (by omega), zN (by omega), hy, hxx, e1]
  refine ⟨zN_in (by omega), fun v3 e3 => ⟨zN_in (by omega), fun v4 e4 => ?_⟩⟩
  rw [e3, e4]
  refine ⟨fun c9 => ⟨fun c10 => ⟨fun c12 => ⟨fun z => go 0 fun c8 => ?_, fun z => go 1 fun c8 => ?_⟩, fun c12 => ⟨fun z => go 0 fun c8 => ?_, fun z => go 1 fun c8 => ?_⟩⟩, fun c10 => ⟨fun z => go 0 fun c8 => ?_, fun z => go 1 fun c8 => ?_⟩⟩, fun c9 => ⟨fun z => go 0 fun c8 => ?_, fun z => go 1 fun c8 => ?_⟩⟩
  · unfold bop; rw [if_neg c8, if_neg c9, if_neg c10, if_neg c12, decide_eq_false (fun q => q z)]; rfl
  · unfold bop; rw [if_neg c8, if_neg c9, if_neg c10, if_neg c12, decide_eq_true z]; rfl
  · unfold bop; rw [if_neg c8, if_neg c9, if_neg c10, if_pos c12, decide_eq_false z]; rfl
  · unfold bop; rw [if_neg c8, if_neg c9, if_neg c10, if_pos c12, decide_eq_true z]; rfl
  · unfold bop; rw [if_neg c8, if_neg c9, if_pos c10, decide_eq_false (fun q => q z)]; rfl
  · unfold bop; rw [if_neg c8, if_neg c9, if_pos c10, decide_eq_true z]; rfl
  · unfold bop; rw [if_neg c8, if_pos c9, decide_eq_false (fun q => q z)]; rfl
  · unfold bop; rw [if_neg c8, if_pos c9, decide_eq_true z]; rfl
end
