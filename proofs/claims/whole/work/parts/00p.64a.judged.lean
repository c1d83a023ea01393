theorem vin {x : Int32} {n : Nat} (h : ¬ (x < 0 ∨ n ≤ x.toNatClampNeg)) : vp_in x n := h
theorem wp9_ext {post : Int32 → Unit → Prop} {sz : Int32} {f F F' : Nat → Int32} (hF : ∀ j, j < 7 → F j = F' j) : ∀ (n : Nat) (a b c d : Int32), wpX2_someLineHolds_9 post sz f F n a b c d → wpX2_someLineHolds_9 post sz f F' n a b c d := by
  intro n
  induction n with
  | zero => intro a b c d h; exact h
  | succ n ih =>
    intro a b c d h
    unfold wpX2_someLineHolds_9 at h ⊢
    refine ⟨h.1, fun h1 => ⟨(h.2 h1).1, fun v1 e1 => ?_⟩⟩
    have h := (h.2 h1).2 v1 e1
    refine ⟨fun h2 => ⟨fun h3 => ?_, fun h3 => ?_⟩, fun h2 v6 e6 => ?_⟩
    · have h := (h.1 h2).1 h3
      obtain ⟨q1, q2, q3, q4, q5, q6, q7, q8⟩ := h
      refine ⟨fun e => ?_, fun e v2 e2 => ?_, fun e v2 e2 => ?_, fun e v2 e2 => ?_, fun e => ⟨fun z => ?_, fun z => ?_⟩, fun e => ⟨fun z => ?_, fun z => ?_⟩, fun e => ?_, fun e => ⟨fun z => ?_, fun z => (q8 e).2 z⟩⟩
      · exact fun w ew => ih _ _ _ _ (q1 e w ew)
      · exact fun w ew => ih _ _ _ _ (q2 e v2 e2 w ew)
      · exact fun w ew => ih _ _ _ _ (q3 e v2 e2 w ew)
      · exact fun w ew => ih _ _ _ _ (q4 e v2 e2 w ew)
      · exact fun x ex w ew => ih _ _ _ _ ((q5 e).1 z x ex w ew)
      · exact fun x ex w ew => ih _ _ _ _ ((q5 e).2 z x ex w ew)
      · exact fun x ex w ew => ih _ _ _ _ ((q6 e).1 z x ex w ew)
      · exact fun x ex w ew => ih _ _ _ _ ((q6 e).2 z x ex w ew)
      · exact fun w ew => ih _ _ _ _ (q7 e w ew)
      · exact fun w ew => ih _ _ _ _ ((q8 e).1 z w ew)
    · have h := (h.1 h2).2 h3
      refine ⟨h.1, fun v5 e5 => ?_⟩
      rw [← hF _ (Nat.lt_of_not_le fun q => h.1 (Or.inr q))] at e5
      exact fun w ew => ih _ _ _ _ (h.2 v5 e5 w ew)
    · exact fun w ew => ih _ _ _ _ (h.2 h2 v6 e6 w ew)
def Fq (g : Gd) (w m o d : Int) (j : Nat) : Int32 := if j = 0 then zI m else if j = 1 then zI d else if j = 2 then zI (g.far w m o d) else if j = 3 then zI (g.px w m) else if j = 4 then zI (g.py w m) else if j = 5 then zI (g.px o d) else zI (g.py o d)
noncomputable def Sq (g : Gd) (Ls : List Ln) (w m o d : Int) : Bool := anyL Ls (Fq g w m o d) || @decide (g.walled w m o d) (Classical.propDecidable _)
def LwC (Ls : List Ln) (os : Nat → Int32) (sz : Int32) : Prop := ∃ l : List Int32, sz = zI (l.length : Int) ∧ l.length ≤ 400 ∧ Lh os l ∧ CL l Ls
def LwR (Ls : List Ln) (v : Nat → Int32) : Prop := v 858 = zI (Ls.length : Int) ∧ Ls.length ≤ 12 ∧ Bd v 858 0 0 Ls ∧ Ld v 883 (segs Ls) ∧ (segs Ls).length ≤ 400 ∧ ∀ x ∈ Ls, LineOk x
def LwH (Ls : List Ln) (v : Nat → Int32) : Prop := (v 3 = 1 ∧ LwR Ls v) ∨ (v 3 = 0 ∧ Ls = [])
theorem Sq_t {g : Gd} {Ls : List Ln} {w m o d : Int} : Sq g Ls w m o d = true ↔ (anyL Ls (Fq g w m o d) = true ∨ g.walled w m o d) := by
  unfold Sq
  rw [Bool.or_eq_true, @decide_eq_true_eq (g.walled w m o d) (Classical.propDecidable _)]
theorem Sq_f {g : Gd} {Ls : List Ln} {w m o d : Int} : Sq g Ls w m o d = false ↔ (anyL Ls (Fq g w m o d) = false ∧ ¬ g.walled w m o d) := by
  unfold Sq
  rw [Bool.or_eq_false_iff, @decide_eq_false_iff_not (g.walled w m o d) (Classical.propDecidable _)]
theorem CL.zero {Ls : List Ln} (h : CL [] Ls) (F : Nat → Int32) : anyL Ls F = false := by
  have := h F (fun r _ => r = b32 (anyL Ls F)) (fun _ => 0) 0 0 0 0 (fun k hk => absurd hk (Nat.not_lt_zero k)) rfl (by decide) rfl
  have this : wpX2_someLineHolds_9 (fun r _ => r = b32 (anyL Ls F)) (zI ((0 : Nat) : Int)) (fun _ => 0) F (0 + 0 + 1) 0 0 0 (zI ((0 : Nat) : Int)) := this
  unfold wpX2_someLineHolds_9 at this
  have := this.1 (by decide)
  cases e : anyL Ls F with
  | false => rfl
  | true => rw [e] at this; exact absurd this (by decide)
section
variable {g : Gd} {xs ys cs ws v : Nat → Int32} {nw nl : Int32} {w m o d : Int} {Ls : List Ln} {os : Nat → Int32} {sz : Int32}
theorem sp_isBroken {post : Int32 → ((Nat → Int32)) → Prop} {sn : Nat → Int32} (hg : g.Ok) (hc : CG g xs ys cs ws nw nl) (hl : LwC Ls os sz) (h1 : g.hc w m) (h2 : g.hc o d) (hp : ∀ sn', post (b32 (anyL Ls (Fq g w m o d))) sn') : wpX2_isBroken post sz os xs ys sn (zI w) (zI m) (zI o) (zI d) := by
  obtain ⟨l, e, hl4, hh, hC⟩ := hl
  subst e
  unfold wpX2_isBroken
  refine ⟨fun _ => ⟨vin (by decide), vin (by decide), ?_⟩, fun z => ?_⟩
  · refine sp_distance hg hc h1 h2 ⟨vin (by decide), ?_⟩
    refine sp_xOf hg hc h1 ⟨vin (by decide), ?_⟩
    refine sp_yOf hg hc h1 ⟨vin (by decide), ?_⟩
    refine sp_xOf hg hc h2 ⟨vin (by decide), ?_⟩
    refine sp_yOf hg hc h2 ⟨vin (by decide), ?_⟩
    refine ⟨0 + l.length + 1, ?_⟩
    refine wp9_ext (F := Fq g w m o d) ?_ _ _ _ _ _ (hC (Fq g w m o d) _ os l.length 0 0 0 (fun k hk => by rw [Nat.zero_add]; exact hh k hk) (Nat.zero_add _) hl4 ⟨?_, hp _⟩)
    · intro j hj
      rw [upd_eq, upd_eq, upd_eq, upd_eq, upd_eq, upd_eq, upd_eq]
      show Fq g w m o d j = if j = 6 then _ else if j = 5 then _ else if j = 4 then _ else if j = 3 then _ else if j = 2 then _ else if j = 1 then _ else if j = 0 then _ else _
      unfold Fq
      have : j = 0 ∨ j = 1 ∨ j = 2 ∨ j = 3 ∨ j = 4 ∨ j = 5 ∨ j = 6 := by omega
      rcases this with e | e | e | e | e | e | e <;> subst e <;> rfl
    · cases anyL Ls (Fq g w m o d)
      · exact Or.inl rfl
      · exact Or.inr rfl
  · rw [show (0 : Int32) = zI ((0 : Nat) : Int) from rfl, zN_eq (by omega)] at z
    have el : l = [] := List.length_eq_zero_iff.mp z
    rw [el] at hC
    have := hp sn
    rw [hC.zero] at this
    exact this
theorem sh1_of (hg : g.Ok) (hc : CG g xs ys cs ws nw nl) (hl : LwC Ls os sz) : SH1 g (Sq g Ls) nl xs ys ws sz os := by
  intro post sn w m o d h1 h2 p1 p0
  unfold wpX6_isShut
  refine sp_isWalledOff hg hc h1 h2 (fun hw => ⟨fun _ => p1 (Sq_t.mpr (Or.inr hw)) _, fun z => absurd z (by decide)⟩) (fun hw => ⟨fun z => absurd rfl z, fun _ => ?_⟩)
  refine sp_isBroken hg hc hl h1 h2 (fun sn' => ?_)
  cases e : anyL Ls (Fq g w m o d) with
  | true => exact ⟨fun z => absurd z (by decide), fun _ => p1 (Sq_t.mpr (Or.inl e)) _⟩
  | false => exact ⟨fun _ => p0 (Sq_f.mpr ⟨e, hw⟩) _, fun z => absurd rfl z⟩
theorem fa_of (hg : g.Ok) (hv : WG g v) (h1 : g.hc w m) (h2 : g.hc o d) : Fa (Fq g w m o d) v (zI w) (zI m) (zI o) (zI d) := by
  intro j n post hj hp
  unfold wpX11_factOf
  have : j = 0 ∨ j = 1 ∨ j = 2 ∨ j = 3 ∨ j = 4 ∨ j = 5 ∨ j = 6 := by omega
  rcases this with e | e | e | e | e | e | e <;> subst e
  · exact ⟨fun _ => hp, fun z => absurd z (by decide), fun z => absurd z (by decide), fun z => absurd z (by decide), fun z => absurd z (by decide), fun z => absurd z (by decide), fun z => absurd z (by decide), fun z => absurd (Or.inl rfl) z⟩
  · exact ⟨fun z => absurd z (by decide), fun _ => hp, fun z => absurd z (by decide), fun z => absurd z (by decide), fun z => absurd z (by decide), fun z => absurd z (by decide), fun z => absurd z (by decide), fun z => absurd (Or.inr (Or.inl rfl)) z⟩
  · exact ⟨fun z => absurd z (by decide), fun z => absurd z (by decide), fun _ => sr_farAt hg hv h1 h2 hp, fun z => absurd z (by decide), fun z => absurd z (by decide), fun z => absurd z (by decide), fun z => absurd z (by decide), fun z => absurd (Or.inr (Or.inr (Or.inl rfl))) z⟩
  · exact ⟨fun z => absurd z (by decide), fun z => absurd z (by decide), fun z => absurd z (by decide), fun _ => sr_xOf hg hv h1 hp, fun z => absurd z (by decide), fun z => absurd z (by decide), fun z => absurd z (by decide), fun z => absurd (Or.inr (Or.inr (Or.inr (Or.inl rfl)))) z⟩
  · exact ⟨fun z => absurd z (by decide), fun z => absurd z (by decide), fun z => absurd z (by decide), fun z => absurd z (by decide), fun _ => sr_yOf hg hv h1 hp, fun z => absurd z (by decide), fun z => absurd z (by decide), fun z => absurd (Or.inr (Or.inr (Or.inr (Or.inr (Or.inl rfl))))) z⟩
  · exact ⟨fun z => absurd z (by decide), fun z => absurd z (by decide), fun z => absurd z (by decide), fun z => absurd z (by decide), fun z => absurd z (by decide), fun _ => sr_xOf hg hv h2 hp, fun z => absurd z (by decide), fun z => absurd (Or.inr (Or.inr (Or.inr (Or.inr (Or.inr (Or.inl rfl)))))) z⟩
  · exact ⟨fun z => absurd z (by decide), fun z => absurd z (by decide), fun z => absurd z (by decide), fun z => absurd z (by decide), fun z => absurd z (by decide), fun z => absurd z (by decide), fun _ => sr_yOf hg hv h2 hp, fun z => absurd (Or.inr (Or.inr (Or.inr (Or.inr (Or.inr (Or.inr rfl)))))) z⟩
end
section
variable {v F : Nat → Int32} {w m o d : Int32}
theorem sr_holdsLine {post : Int32 → ((Nat → Int32)) → Prop} {f2 : Nat → Int32} {c a : Nat} {x : Ln} (hF : Fa F v w m o d) (hc : c < 12) (e1 : v (858 + 1 + 2 * c) = zI (a : Int)) (e2 : v (858 + 1 + 2 * c + 1) = zI ((a + x.1.length : Nat) : Int)) (hs : ∀ (k : Nat) (h : k < x.1.length), v (883 + 2 * (a + k)) = x.1[k].1 ∧ v (883 + 2 * (a + k) + 1) = x.1[k].2) (h4 : a + x.1.length ≤ 400) (hx : LineOk x) (hp : ∀ f2', post (b32 (x.2 F)) f2') : wpX11_holdsLine post v f2 (zI (c : Int)) w m o d := by
  unfold wpX11_holdsLine
  have e0 : (859 : Int32) + (2 : Int32) * zI (c : Int) = zI ((858 + 1 + 2 * c : Nat) : Int) := by
    rw [show (859 : Int32) = zI 859 from rfl, show (2 : Int32) = zI 2 from rfl, zI_mul, zI_add]; congr 1
  rw [e0]
  intro v1 ev1
  rw [ev1, zN (by omega), e1]
  refine ⟨zN_in (by omega), fun v2 ev2 => ?_⟩
  rw [ev2]
  have hi : vp_in (zI ((858 + 1 + 2 * c : Nat) : Int) + 1) 2508 := by rw [zS]; exact zN_in (by omega)
  have he : v (zI ((858 + 1 + 2 * c : Nat) : Int) + 1).toNatClampNeg = zI ((a + x.1.length : Nat) : Int) := by rw [zS, zN (by omega), e2]
  rcases hx with ⟨hn, ht⟩ | ⟨hpos, hR⟩
  · refine ⟨1, ?_⟩
    unfold wpX11_holdsLine_21
    rw [he, hn]
    refine ⟨hi, fun _ => ⟨fun _ => ?_, fun z => absurd rfl z⟩, fun z => ?_⟩
    · have := hp f2; rw [ht F] at this; exact this
    · rw [zN_le (by simp; omega)] at z
      exact absurd (by simp) z
  · refine ⟨1 + x.1.length, ?_⟩
    refine (hR F).2 post v w m o d f2 _ a (a + x.1.length) 1 hF hs hi he (Nat.le_refl _) h4 (Nat.zero_le _) (fun k hk => absurd hk (Nat.not_lt_zero k)) (fun g' hg' => ?_)
    have ht : g' 0 = b32 (x.2 F) := hg'.top
    unfold wpX11_holdsLine_21
    rw [he, zN_le (by omega)]
    refine ⟨hi, fun _ => ⟨fun z => absurd (show zI ((1 : Nat) : Int) = 0 from z) (by decide), fun _ => ⟨vin (by decide), ?_⟩⟩, fun z => absurd (Nat.le_refl _) z⟩
    have ht' : g' (0 : Int32).toNatClampNeg = b32 (x.2 F) := ht
    rw [ht']
    have := hp g'
    cases e : x.2 F with
    | true => rw [e] at this; exact ⟨fun z => absurd rfl z, fun _ => this⟩
    | false => rw [e] at this; exact ⟨fun _ => this, fun z => absurd z (by decide)⟩
theorem sr_lines {post : Int32 → ((Nat → Int32)) → Prop} {L : Nat} (hF : Fa F v w m o d) (h3 : v 3 = 1) (h858 : v 858 = zI (L : Int)) (hL : L ≤ 12) : ∀ (xs : List Ln) (c a n : Nat) (f2 : Nat → Int32), c + xs.length = L → Bd v 858 c a xs → (∀ (k : Nat) (h : k < (segs xs).length), v (883 + 2 * (a + k)) = (segs xs)[k].1 ∧ v (883 + 2 * (a + k) + 1) = (segs xs)[k].2) → a + (segs xs).length ≤ 400 → (∀ x ∈ xs, LineOk x) → (anyL xs F = true → ∀ f2', wpX11_isShut_53 post v f2' w m o d 1) → (anyL xs F = false → ∀ f2', wpX11_isShut_53 post v f2' w m o d 0) → wpX11_isShut_6 post v (n + xs.length + 1) f2 w m o d 0 (zI (c : Int)) := by
  have e3 : v (3 : Int32).toNatClampNeg = 1 := h3
  have e8 : v (858 : Int32).toNatClampNeg = zI (L : Int) := h858
  intro xs
  induction xs with
  | nil =>
    intro c a n f2 hcl hB hS h4 hx p1 p0
    have hcl : c = L := hcl
    show wpX11_isShut_6 post v (n + 0 + 1) f2 w m o d 0 (zI (c : Int))
    unfold wpX11_isShut_6
    rw [e3, e8, zN_le (by omega)]
    exact ⟨vin (by decide), fun z => absurd rfl z, fun _ => ⟨vin (by decide), fun _ => p0 rfl f2, fun z => absurd (show L ≤ c by omega) z⟩⟩
  | cons x xs ih =>
    intro c a n f2 hcl hB hS h4 hx p1 p0
    rw [List.length_cons] at hcl
    have hseg : segs (x :: xs) = x.1 ++ segs xs := rfl
    rw [hseg, List.length_append] at h4
    rw [List.length_cons]
    unfold wpX11_isShut_6
    rw [e3, e8, zN_le (by omega)]
    refine ⟨vin (by decide), fun z => absurd rfl z, fun _ => ⟨vin (by decide), fun z => absurd z (by omega), fun _ => ⟨fun z => absurd rfl z, fun _ => ?_⟩⟩⟩
    refine sr_holdsLine hF (by omega) hB.1 hB.2.1 (fun k hk => ?_) (by omega) (hx x (List.mem_cons_self ..)) (fun f2' v3 e3' => ?_)
    · have := hS k (by rw [hseg, List.length_append]; omega)
      simp only [hseg] at this
      rw [List.getElem_append_left hk] at this
      exact this
    · rw [e3', zS]
      cases e : x.2 F with
      | true =>
        have ea : anyL (x :: xs) F = true := by unfold anyL; rw [List.any_cons, e, Bool.true_or]
        show wpX11_isShut_6 post v (n + xs.length + 1) f2' w m o d 1 (zI ((c + 1 : Nat) : Int))
        unfold wpX11_isShut_6
        rw [e3, e8]
        exact ⟨vin (by decide), fun z => absurd rfl z, fun _ => ⟨vin (by decide), fun _ => p1 ea f2', fun _ => ⟨fun _ => p1 ea f2', fun z => absurd z (by decide)⟩⟩⟩
      | false =>
        have ea : anyL (x :: xs) F = anyL xs F := by unfold anyL; rw [List.any_cons, e, Bool.false_or]
        rw [ea] at p1 p0
        refine ih (c + 1) (a + x.1.length) n f2' (by omega) hB.2.2 (fun k hk => ?_) (by omega) (fun y hy => hx y (List.mem_cons_of_mem _ hy)) p1 p0
        have := hS (x.1.length + k) (by rw [hseg, List.length_append]; omega)
        simp only [hseg] at this
        rw [List.getElem_append_right (by omega)] at this
        rw [show a + x.1.length + k = a + (x.1.length + k) by omega, this.1, this.2]
        constructor <;> (congr 2; omega)
end
section
variable {g : Gd} {v : Nat → Int32} {Ls : List Ln}
theorem sh2_of (hg : g.Ok) (hv : WG g v) (hl : LwH Ls v) : SH2 g (Sq g Ls) v := by
  intro post sn w m o d h1 h2 p1 p0
  unfold wpX11_isShut
  rcases hl with ⟨h3, e8, hL, hB, hS, h4, hx⟩ | ⟨h3, e⟩
  · refine ⟨0 + Ls.length + 1, ?_⟩
    refine sr_lines (fa_of hg hv h1 h2) h3 e8 hL Ls 0 0 0 sn (Nat.zero_add _) hB (fun k hk => ?_) (by omega) hx (fun ha f2' => ?_) (fun ha f2' => ?_)
    · rw [Nat.zero_add]; exact hS k hk
    · exact sr_isShut_53 hg hv h1 h2 1 (Or.inr rfl) (fun _ => p1 (Sq_t.mpr (Or.inl ha)) _) (fun z => absurd (Or.inl rfl) z)
    · refine sr_isShut_53 hg hv h1 h2 0 (Or.inl rfl) (fun z => p1 (Sq_t.mpr (Or.inr ?_)) _) (fun z => p0 (Sq_f.mpr ⟨ha, fun q => z (Or.inr q)⟩) _)
      rcases z with z | z
      · exact absurd z (by decide)
      · exact z
  · refine ⟨1, ?_⟩
    have e3 : v (3 : Int32).toNatClampNeg = 0 := h3
    unfold wpX11_isShut_6
    rw [e3]
    refine ⟨vin (by decide), fun _ => ?_, fun z => absurd z (by decide)⟩
    have ha : anyL Ls (Fq g w m o d) = false := by rw [e]; rfl
    refine sr_isShut_53 hg hv h1 h2 0 (Or.inl rfl) (fun z => p1 (Sq_t.mpr (Or.inr ?_)) _) (fun z => p0 (Sq_f.mpr ⟨ha, fun q => z (Or.inr q)⟩) _)
    rcases z with z | z
    · exact absurd z (by decide)
    · exact z
theorem LwH.fx {v' : Nat → Int32} (h : LwH Ls v) (hf : ∀ k, k = 3 ∨ (858 ≤ k ∧ k < 1683) → v' k = v k) : LwH Ls v' := by
  rcases h with ⟨h3, e8, hL, hB, hS, h4, hx⟩ | ⟨h3, e⟩
  · refine Or.inl ⟨by rw [hf 3 (by omega)]; exact h3, by rw [hf 858 (by omega)]; exact e8, hL, Bd.frame Ls 0 0 (fun j a b => hf j (by omega)) hB, fun k hk => ?_, h4, hx⟩
    rw [hf _ (by omega), hf _ (by omega)]
    exact hS k hk
  · exact Or.inr ⟨by rw [hf 3 (by omega)]; exact h3, e⟩
theorem shr_of (hg : g.Ok) (hv : WG g v) (hl : LwH Ls v) : SHR g (Sq g Ls) v := by
  intro v' hf
  exact sh2_of hg (hv.fx hg hf) (hl.fx (fun k hk => hf k (by omega)))
end
