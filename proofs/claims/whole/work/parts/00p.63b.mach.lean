def Ce (F : Nat → Int32) (os : List Int32) (a b : Int32 × Int32 × Int32) : Prop := ∀ (post : Int32 → Unit → Prop) (f : Nat → Int32) (sz i n : Nat), (∀ (k : Nat) (h : k < os.length), f (i + k) = os[k]) → i + os.length ≤ sz → sz ≤ 400 → wpX2_someLineHolds_9 post (zI (sz : Int)) f F n b.1 b.2.1 b.2.2 (zI ((i + os.length : Nat) : Int)) → wpX2_someLineHolds_9 post (zI (sz : Int)) f F (n + os.length) a.1 a.2.1 a.2.2 (zI (i : Int))
section
variable {F : Nat → Int32}
theorem Ce.nil (a : Int32 × Int32 × Int32) : Ce F [] a a := fun _ _ _ _ _ _ _ _ h => h
theorem Ce.app {x y : List Int32} {a b c : Int32 × Int32 × Int32} (h1 : Ce F x a b) (h2 : Ce F y b c) : Ce F (x ++ y) a c := by
  intro post f sz i n hf hi hs h
  rw [List.length_append] at hi h ⊢
  have := h2 post f sz (i + x.length) n (fun k hk => by
    have := hf (x.length + k) (by rw [List.length_append]; omega)
    rw [List.getElem_append_right (by omega)] at this
    rw [← Nat.add_assoc] at this
    rw [this]
    congr 1; omega) (by omega) hs (by rw [Nat.add_assoc]; exact h)
  have := h1 post f sz i (n + y.length) (fun k hk => by
    have := hf k (by rw [List.length_append]; omega)
    rw [List.getElem_append_left (by omega)] at this
    exact this) (by omega) hs this
  rw [show n + (x.length + y.length) = n + y.length + x.length by omega]
  exact this
theorem Ce.of {o : Int32} {a b : Int32 × Int32 × Int32} (H : ∀ (post : Int32 → Unit → Prop) (f : Nat → Int32) (sz i n : Nat), f i = o → i < sz → sz ≤ 400 → wpX2_someLineHolds_9 post (zI (sz : Int)) f F n b.1 b.2.1 b.2.2 (zI ((i + 1 : Nat) : Int)) → wpX2_someLineHolds_9 post (zI (sz : Int)) f F (n + 1) a.1 a.2.1 a.2.2 (zI (i : Int))) : Ce F [o] a b := by
  intro post f sz i n hf hi hs h
  exact H post f sz i n (hf 0 (Nat.zero_lt_one)) hi hs h
theorem Ce.num {o s l t : Int32} (ho : ¬ o < 0) : Ce F [o] (s, l, t) (s + o, l, t) := by
  refine Ce.of (fun post f sz i n hf hi hs h => ?_)
  unfold wpX2_someLineHolds_9
  rw [zN_le (by omega), zN (by omega)]
  refine ⟨fun e => absurd e (by omega), fun _ => ⟨zN_in (by omega), fun v1 e1 => ?_⟩⟩
  rw [e1, hf]
  refine ⟨fun e => absurd e ho, fun _ v6 e6 => ?_⟩
  unfold wpX2_someLineHolds_201
  intro v1 e1
  rw [e1, e6, zS]; exact h
theorem Ce.fact {o s l t : Int32} {j : Nat} (hj : j < 7) (ho : o = zI (-1 - (j : Int))) : Ce F [o] (s, l, t) (s + F j, l, t) := by
  refine Ce.of (fun post f sz i n hf hi hs h => ?_)
  unfold wpX2_someLineHolds_9
  rw [zN_le (by omega), zN (by omega)]
  refine ⟨fun e => absurd e (by omega), fun _ => ⟨zN_in (by omega), fun v1 e1 => ?_⟩⟩
  rw [e1, hf]
  have e0 : (-1 : Int32) - o = zI (j : Int) := by
    rw [ho, show (-1 : Int32) = zI (-1) from rfl, zI_sub]; congr 1; omega
  refine ⟨fun _ => ⟨fun e => ?_, fun _ => ?_⟩, fun e => ?_⟩
  · rw [ho, show (-7 : Int32) = zI (-7) from rfl, zI_lt (by omega)] at e; omega
  · rw [e0, zN (by omega)]
    refine ⟨zN_in (by omega), fun v5 e5 => ?_⟩
    unfold wpX2_someLineHolds_201
    intro v1 e1
    rw [e1, e5, zS]; exact h
  · rw [ho, show (0 : Int32) = zI 0 from rfl, zI_lt (by omega)] at e; omega
theorem Ce.always {s l t : Int32} : Ce F [-14] (s, l, t) (s, l, 1) := by
  refine Ce.of (fun post f sz i n hf hi hs h => ?_)
  unfold wpX2_someLineHolds_9
  rw [zN_le (by omega), zN (by omega)]
  refine ⟨fun e => absurd e (by omega), fun _ => ⟨zN_in (by omega), fun v1 e1 => ?_⟩⟩
  rw [e1, hf]
  refine ⟨fun _ => ⟨fun _ => ⟨fun _ => ?_, fun e => absurd e (by decide), fun e => absurd e (by decide), fun e => absurd e (by decide), fun e => absurd e (by decide), fun e => absurd e (by decide), fun e => absurd e (by decide), fun e => absurd (by decide) e⟩, fun e => absurd (by decide) e⟩, fun e => absurd (by decide) e⟩
  unfold wpX2_someLineHolds_201
  intro v1 e1
  rw [e1, zS]; exact h
theorem Ce.or {s l t : Int32} : Ce F [-13] (s, l, t) (s, l, (t >>> ((1 : Int32) &&& 31)) ||| (t &&& 1)) := by
  refine Ce.of (fun post f sz i n hf hi hs h => ?_)
  unfold wpX2_someLineHolds_9
  rw [zN_le (by omega), zN (by omega)]
  refine ⟨fun e => absurd e (by omega), fun _ => ⟨zN_in (by omega), fun v1 e1 => ?_⟩⟩
  rw [e1, hf]
  refine ⟨fun _ => ⟨fun _ => ⟨fun e => absurd e (by decide), fun _ v2 e2 => ?_, fun e => absurd e (by decide), fun e => absurd e (by decide), fun e => absurd e (by decide), fun e => absurd e (by decide), fun e => absurd e (by decide), fun e => absurd (by decide) e⟩, fun e => absurd (by decide) e⟩, fun e => absurd (by decide) e⟩
  unfold wpX2_someLineHolds_201
  intro v1 e1
  rw [e1, zS, e2]; exact h
theorem Ce.and {s l t : Int32} : Ce F [-12] (s, l, t) (s, l, (t >>> ((1 : Int32) &&& 31)) &&& (t ||| (-2))) := by
  refine Ce.of (fun post f sz i n hf hi hs h => ?_)
  unfold wpX2_someLineHolds_9
  rw [zN_le (by omega), zN (by omega)]
  refine ⟨fun e => absurd e (by omega), fun _ => ⟨zN_in (by omega), fun v1 e1 => ?_⟩⟩
  rw [e1, hf]
  refine ⟨fun _ => ⟨fun _ => ⟨fun e => absurd e (by decide), fun e => absurd e (by decide), fun _ v2 e2 => ?_, fun e => absurd e (by decide), fun e => absurd e (by decide), fun e => absurd e (by decide), fun e => absurd e (by decide), fun e => absurd (by decide) e⟩, fun e => absurd (by decide) e⟩, fun e => absurd (by decide) e⟩
  unfold wpX2_someLineHolds_201
  intro v1 e1
  rw [e1, zS, e2]; exact h
theorem Ce.not {s l t : Int32} : Ce F [-11] (s, l, t) (s, l, t ^^^ 1) := by
  refine Ce.of (fun post f sz i n hf hi hs h => ?_)
  unfold wpX2_someLineHolds_9
  rw [zN_le (by omega), zN (by omega)]
  refine ⟨fun e => absurd e (by omega), fun _ => ⟨zN_in (by omega), fun v1 e1 => ?_⟩⟩
  rw [e1, hf]
  refine ⟨fun _ => ⟨fun _ => ⟨fun e => absurd e (by decide), fun e => absurd e (by decide), fun e => absurd e (by decide), fun _ v2 e2 => ?_, fun e => absurd e (by decide), fun e => absurd e (by decide), fun e => absurd e (by decide), fun e => absurd (by decide) e⟩, fun e => absurd (by decide) e⟩, fun e => absurd (by decide) e⟩
  unfold wpX2_someLineHolds_201
  intro v1 e1
  rw [e1, zS, e2]; exact h
theorem Ce.more {s l t : Int32} : Ce F [-10] (s, l, t) (0, l, (t <<< ((1 : Int32) &&& 31)) ||| b32 (decide (¬ l ≤ s))) := by
  refine Ce.of (fun post f sz i n hf hi hs h => ?_)
  unfold wpX2_someLineHolds_9
  rw [zN_le (by omega), zN (by omega)]
  refine ⟨fun e => absurd e (by omega), fun _ => ⟨zN_in (by omega), fun v1 e1 => ?_⟩⟩
  rw [e1, hf]
  refine ⟨fun _ => ⟨fun _ => ⟨fun e => absurd e (by decide), fun e => absurd e (by decide), fun e => absurd e (by decide), fun e => absurd e (by decide), fun _ => ⟨fun e => ?_, fun e => ?_⟩, fun e => absurd e (by decide), fun e => absurd e (by decide), fun e => absurd (by decide) e⟩, fun e => absurd (by decide) e⟩, fun e => absurd (by decide) e⟩
  · unfold wpX2_someLineHolds_148 wpX2_someLineHolds_201
    intro v1 e1 v2 e2
    rw [e1, e2, zS]
    rw [show decide (¬ l ≤ s) = false from decide_eq_false (fun q => q e)] at h
    exact h
  · unfold wpX2_someLineHolds_148 wpX2_someLineHolds_201
    intro v1 e1 v2 e2
    rw [e1, e2, zS]
    rw [show decide (¬ l ≤ s) = true from decide_eq_true e] at h
    exact h
theorem Ce.less {s l t : Int32} : Ce F [-9] (s, l, t) (0, l, (t <<< ((1 : Int32) &&& 31)) ||| b32 (decide (¬ s ≤ l))) := by
  refine Ce.of (fun post f sz i n hf hi hs h => ?_)
  unfold wpX2_someLineHolds_9
  rw [zN_le (by omega), zN (by omega)]
  refine ⟨fun e => absurd e (by omega), fun _ => ⟨zN_in (by omega), fun v1 e1 => ?_⟩⟩
  rw [e1, hf]
  refine ⟨fun _ => ⟨fun _ => ⟨fun e => absurd e (by decide), fun e => absurd e (by decide), fun e => absurd e (by decide), fun e => absurd e (by decide), fun e => absurd e (by decide), fun _ => ⟨fun e => ?_, fun e => ?_⟩, fun e => absurd e (by decide), fun e => absurd (by decide) e⟩, fun e => absurd (by decide) e⟩, fun e => absurd (by decide) e⟩
  · unfold wpX2_someLineHolds_128 wpX2_someLineHolds_201
    intro v1 e1 v2 e2
    rw [e1, e2, zS]
    rw [show decide (¬ s ≤ l) = false from decide_eq_false (fun q => q e)] at h
    exact h
  · unfold wpX2_someLineHolds_128 wpX2_someLineHolds_201
    intro v1 e1 v2 e2
    rw [e1, e2, zS]
    rw [show decide (¬ s ≤ l) = true from decide_eq_true e] at h
    exact h
theorem Ce.turn {s l t : Int32} : Ce F [-8] (s, l, t) (0, s, t) := by
  refine Ce.of (fun post f sz i n hf hi hs h => ?_)
  unfold wpX2_someLineHolds_9
  rw [zN_le (by omega), zN (by omega)]
  refine ⟨fun e => absurd e (by omega), fun _ => ⟨zN_in (by omega), fun v1 e1 => ?_⟩⟩
  rw [e1, hf]
  refine ⟨fun _ => ⟨fun _ => ⟨fun e => absurd e (by decide), fun e => absurd e (by decide), fun e => absurd e (by decide), fun e => absurd e (by decide), fun e => absurd e (by decide), fun e => absurd e (by decide), fun _ => ?_, fun e => absurd (by decide) e⟩, fun e => absurd (by decide) e⟩, fun e => absurd (by decide) e⟩
  unfold wpX2_someLineHolds_201
  intro v1 e1
  rw [e1, zS]; exact h
theorem ce_line {post : Int32 → Unit → Prop} {f : Nat → Int32} {sz i n : Nat} {s l t : Int32} (hf : f i = -15) (hi : i < sz) (hs : sz ≤ 400) (h1 : t &&& 1 = 1 → post 1 ()) (h0 : ¬ t &&& 1 = 1 → wpX2_someLineHolds_9 post (zI (sz : Int)) f F n s l 0 (zI ((i + 1 : Nat) : Int))) : wpX2_someLineHolds_9 post (zI (sz : Int)) f F (n + 1) s l t (zI (i : Int)) := by
  unfold wpX2_someLineHolds_9
  rw [zN_le (by omega), zN (by omega)]
  refine ⟨fun e => absurd e (by omega), fun _ => ⟨zN_in (by omega), fun v1 e1 => ?_⟩⟩
  rw [e1, hf]
  refine ⟨fun _ => ⟨fun _ => ⟨fun e => absurd e (by decide), fun e => absurd e (by decide), fun e => absurd e (by decide), fun e => absurd e (by decide), fun e => absurd e (by decide), fun e => absurd e (by decide), fun e => absurd e (by decide), fun _ => ⟨fun e => ?_, h1⟩⟩, fun e => absurd (by decide) e⟩, fun e => absurd (by decide) e⟩
  unfold wpX2_someLineHolds_201
  intro v1 e1
  rw [e1, zS]; exact h0 e
end
