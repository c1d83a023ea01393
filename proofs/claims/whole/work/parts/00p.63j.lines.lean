abbrev Dn : Type := (Nat → Int32) → Bool
abbrev Ln : Type := List (Int32 × Int32) × Dn
def segs : List Ln → List (Int32 × Int32)
  | [] => []
  | x :: xs => x.1 ++ segs xs
def Bd (v : Nat → Int32) (b : Nat) : Nat → Nat → List Ln → Prop
  | _, _, [] => True
  | c, a, x :: xs => v (b + 1 + 2 * c) = zI (a : Int) ∧ v (b + 1 + 2 * c + 1) = zI ((a + x.1.length : Nat) : Int) ∧ Bd v b (c + 1) (a + x.1.length) xs
def LineOk (x : Ln) : Prop := (x.1 = [] ∧ ∀ F, x.2 F = true) ∨ (0 < x.1.length ∧ ∀ F, Re F x.1 [] [b32 (x.2 F)])
def anyL (Ls : List Ln) (F : Nat → Int32) : Bool := Ls.any (fun x => x.2 F)
def CL (os : List Int32) (Ls : List Ln) : Prop := ∀ (F : Nat → Int32) (post : Int32 → Unit → Prop) (f : Nat → Int32) (sz i n : Nat) (l : Int32), (∀ (k : Nat) (h : k < os.length), f (i + k) = os[k]) → i + os.length = sz → sz ≤ 400 → post (b32 (anyL Ls F)) () → wpX2_someLineHolds_9 post (zI (sz : Int)) f F (n + os.length + 1) 0 l 0 (zI (i : Int))
theorem CL.nil : CL [] [] := by
  intro F post f sz i n l hf hi hs h
  have hi : i = sz := hi
  show wpX2_someLineHolds_9 post (zI (sz : Int)) f F (n + 0 + 1) 0 l 0 (zI (i : Int))
  unfold wpX2_someLineHolds_9
  rw [zN_le (by omega)]
  exact ⟨fun _ => h, fun z => absurd (show sz ≤ i by omega) z⟩
theorem CL.cons {os os' : List Int32} {x : Ln} {Ls : List Ln} (h1 : ∀ F (l : Int32), ∃ l' n, Ce F os (0, l, zI ((0 : Nat) : Int)) (0, l', zI ((2 * n + bt (x.2 F) : Nat) : Int)) ∧ n < 1000) (h2 : CL os' Ls) : CL (os ++ ([-15] ++ os')) (x :: Ls) := by
  intro F post f sz i n l hf hi hs h
  obtain ⟨l', m, hc, hm⟩ := h1 F l
  rw [List.length_append, List.length_append, List.length_singleton] at hi ⊢
  have e1 : f (i + os.length) = -15 := by
    have := hf os.length (by rw [List.length_append, List.length_append, List.length_singleton]; omega)
    rw [List.getElem_append_right (by omega)] at this
    rw [this]
    simp
  have key : wpX2_someLineHolds_9 post (zI (sz : Int)) f F (n + os'.length + 1 + 1) 0 l' (zI ((2 * m + bt (x.2 F) : Nat) : Int)) (zI ((i + os.length : Nat) : Int)) := by
    refine ce_line e1 (by omega) hs (fun q => ?_) (fun q => ?_)
    · rw [bt_bit _ (by omega)] at q
      have ex : x.2 F = true := by
        cases e : x.2 F with
        | true => rfl
        | false => rw [e] at q; exact absurd q (by decide)
      have ea : anyL (x :: Ls) F = true := by unfold anyL; rw [List.any_cons, ex, Bool.true_or]
      rw [ea] at h; exact h
    · rw [bt_bit _ (by omega)] at q
      have ex : x.2 F = false := by
        cases e : x.2 F with
        | false => rfl
        | true => rw [e] at q; exact absurd rfl q
      have ea : anyL (x :: Ls) F = anyL Ls F := by unfold anyL; rw [List.any_cons, ex, Bool.false_or]
      rw [ea] at h
      refine h2 F post f sz (i + os.length + 1) n l' (fun k hk => ?_) (by omega) hs h
      have := hf (os.length + 1 + k) (by rw [List.length_append, List.length_append, List.length_singleton]; omega)
      rw [List.getElem_append_right (by omega)] at this
      rw [show i + os.length + 1 + k = i + (os.length + 1 + k) by omega, this, List.getElem_append_right (by rw [List.length_singleton]; omega)]
      congr 1
      rw [List.length_singleton]; omega
  have := hc post f sz i (n + os'.length + 1 + 1) (fun k hk => by
    have := hf k (by rw [List.length_append, List.length_append, List.length_singleton]; omega)
    rw [List.getElem_append_left (by omega)] at this
    exact this) (by omega) hs key
  rw [show n + (os.length + (1 + os'.length)) + 1 = n + os'.length + 1 + 1 + os.length by omega]
  exact this
abbrev TRes : Type := Bool × Nat × List Int32 × List Ln
theorem Bd.frame {v v' : Nat → Int32} {b : Nat} : ∀ (Ls : List Ln) (c a : Nat), (∀ j, b + 1 + 2 * c ≤ j → j < b + 1 + 2 * (c + Ls.length) → v' j = v j) → Bd v b c a Ls → Bd v' b c a Ls := by
  intro Ls
  induction Ls with
  | nil => intro c a _ _; trivial
  | cons x xs ih =>
    intro c a hf h
    rw [List.length_cons] at hf
    exact ⟨by rw [hf _ (by omega) (by omega)]; exact h.1, by rw [hf _ (by omega) (by omega)]; exact h.2.1, ih (c + 1) _ (fun j h1 h2 => hf j (by omega) (by omega)) h.2.2⟩
