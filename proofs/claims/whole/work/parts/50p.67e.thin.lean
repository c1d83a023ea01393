theorem zN_lt1 {p : Nat} (h : p < 2147483648) : (zI (p : Int) < 1) = (p < 1) := zN_lt (p := p) (q := 1) ⟨h, by decide⟩
theorem zN_le0 {p : Nat} (h : p < 2147483648) : (zI (p : Int) ≤ 0) = (p ≤ 0) := zN_le (p := p) (q := 0) ⟨h, by decide⟩
theorem zN_sub1 {p : Nat} (h : 1 ≤ p) : zI (p : Int) - 1 = zI ((p - 1 : Nat) : Int) := zN_sub (p := 1) (q := p) h
section
variable {n c : Nat} {F : Nat → Int32}
theorem sp_walk6 {post : Int32 → Unit → Prop} {E : Int32} {fi : Nat → Prop} (hc : c < 30) (h30 : n ≤ 30) (hfi : ∀ a, a < n → (F (31 * c + a) = zI 2147483647 ↔ ¬ fi a))
    (hp : ∀ r, (∀ j, hBit r j ↔ UpA (hBit E) (fun i => i < n ∧ fi i) j) → post r ()) :
    ∀ (k b : Nat) (R : Int32), b + k = n → (∀ j, hBit R j ↔ (j < b ∧ UpA (hBit E) (fun i => i < n ∧ fi i) j)) → wpX9_walkOn_6 post F (k + 1) (zI (c : Int)) E (zI (n : Int)) R (zI (b : Int)) := by
  intro k
  induction k with
  | zero =>
    intro b R hb hR
    unfold wpX9_walkOn_6
    rw [zN_le (by omega)]
    refine ⟨fun _ => hp R (fun j => ?_), fun q => absurd (show n ≤ b by omega) q⟩
    rw [hR j]
    exact ⟨fun q => q.2, fun q => ⟨by have := (UpA_at.1 q).1.1; omega, q⟩⟩
  | succ k ih =>
    intro b R hb hR
    have n78 : ∀ R' : Int32, (∀ j, hBit R' j ↔ (j < b + 1 ∧ UpA (hBit E) (fun i => i < n ∧ fi i) j)) → wpX9_walkOn_78 (fun y0 y1 y2 y3 y4 => wpX9_walkOn_6 post F (k + 1) y0 y1 y2 y3 y4) post F (zI (c : Int)) E (zI (n : Int)) R' (zI (b : Int)) := by
      intro R' h
      unfold wpX9_walkOn_78
      intro v1 e1
      rw [e1, zS]
      exact ih (b + 1) R' (by omega) h
    have keep : ¬ UpA (hBit E) (fun i => i < n ∧ fi i) b → wpX9_walkOn_78 (fun y0 y1 y2 y3 y4 => wpX9_walkOn_6 post F (k + 1) y0 y1 y2 y3 y4) post F (zI (c : Int)) E (zI (n : Int)) R (zI (b : Int)) := by
      intro h
      refine n78 R (fun j => ?_)
      rw [hR j]
      refine ⟨fun q => ⟨by omega, q.2⟩, fun q => ⟨?_, q.2⟩⟩
      by_cases e : j = b
      · subst e; exact absurd q.2 h
      · have := q.1; omega
    have n40 : (hBit E b ∨ (1 ≤ b ∧ UpA (hBit E) (fun i => i < n ∧ fi i) (b - 1))) → wpX9_walkOn_40 (fun y0 y1 y2 y3 y4 => wpX9_walkOn_6 post F (k + 1) y0 y1 y2 y3 y4) post F (zI (c : Int)) E (zI (n : Int)) R (zI (b : Int)) := by
      intro h
      unfold wpX9_walkOn_40 wpX9_walkOn_45
      rw [ix31, zN (by omega), show (2147483647 : Int32) = zI 2147483647 from rfl]
      refine ⟨fun q => absurd q (by decide), fun _ => ⟨zN_in (by omega), fun q => keep (fun q' => ?_), fun q v1 e1 => ?_⟩⟩
      · exact (hfi b (by omega)).1 q (UpA_at.1 q').1.2
      · have hb' : fi b := Classical.byContradiction fun q' => q ((hfi b (by omega)).2 q')
        have hU : UpA (hBit E) (fun i => i < n ∧ fi i) b := UpA_at.2 ⟨⟨by omega, hb'⟩, h⟩
        refine n78 v1 (fun j => ?_)
        rw [e1, hBit_or, hBit_one (by omega), hR j]
        constructor
        · rintro (q1 | q1)
          · exact ⟨by omega, q1.2⟩
          · rw [q1]; exact ⟨by omega, hU⟩
        · rintro ⟨q1, q2⟩
          by_cases e : j = b
          · exact Or.inr e
          · exact Or.inl ⟨by omega, q2⟩
    have n44 : ¬ (hBit E b ∨ (1 ≤ b ∧ UpA (hBit E) (fun i => i < n ∧ fi i) (b - 1))) → wpX9_walkOn_44 (fun y0 y1 y2 y3 y4 => wpX9_walkOn_6 post F (k + 1) y0 y1 y2 y3 y4) post F (zI (c : Int)) E (zI (n : Int)) R (zI (b : Int)) := by
      intro h
      unfold wpX9_walkOn_44 wpX9_walkOn_45
      exact ⟨fun _ => keep (fun q => h (UpA_at.1 q).2), fun q => absurd rfl q⟩
    unfold wpX9_walkOn_6
    rw [zN_le (by omega), hBit_at E (by omega), zN_le0 (by omega)]
    refine ⟨fun q => absurd q (by omega), fun _ => ⟨fun q => n40 (Or.inl q), fun q => ⟨fun q' => n44 (fun h => ?_), fun q' => ?_⟩⟩⟩
    · rcases h with h | h
      · exact q h
      · omega
    · rw [zN_sub1 (by omega), hBit_at R (by omega), hR (b - 1)]
      refine ⟨fun p => n44 (fun h => ?_), fun p => n40 (Or.inr ⟨by omega, p.2⟩)⟩
      rcases h with h | h
      · exact q h
      · exact p ⟨by omega, h.2⟩
theorem sp_walkOn {post : Int32 → Unit → Prop} {E : Int32} {fi : Nat → Prop} (hc : c < 30) (h30 : n ≤ 30) (hfi : ∀ a, a < n → (F (31 * c + a) = zI 2147483647 ↔ ¬ fi a))
    (hp : ∀ r, (∀ j, hBit r j ↔ UpA (hBit E) (fun i => i < n ∧ fi i) j) → post r ()) : wpX9_walkOn post F (zI (c : Int)) E (zI (n : Int)) := by
  unfold wpX9_walkOn
  exact ⟨n + 1, sp_walk6 hc h30 hfi hp n 0 0 (by omega) (fun j => ⟨fun q => absurd q (hBit_zero j), fun q => absurd q.1 (Nat.not_lt_zero j)⟩)⟩
theorem sp_leadsOn {post : Int32 → Unit → Prop} {E lf : Int32} (hc : c < 30) (h30 : n ≤ 30) (h1 : (∃ a, a < n ∧ hBit E a ∧ F (31 * c + a) = lf) → post 1 ()) (h0 : (¬ ∃ a, a < n ∧ hBit E a ∧ F (31 * c + a) = lf) → post 0 ()) : wpX9_leadsOn post F (zI (c : Int)) E lf (zI (n : Int)) := by
  have key : ∀ k b : Nat, b + k = n → (∀ a, a < b → ¬ (hBit E a ∧ F (31 * c + a) = lf)) → wpX9_leadsOn_3 post F (k + 1) (zI (c : Int)) E lf (zI (n : Int)) (zI (b : Int)) := by
    intro k
    induction k with
    | zero =>
      intro b hb h
      unfold wpX9_leadsOn_3
      rw [zN_le (by omega)]
      refine ⟨fun _ => h0 ?_, fun q => absurd (show n ≤ b by omega) q⟩
      rintro ⟨a, q1, q2⟩
      exact h a (by omega) q2
    | succ k ih =>
      intro b hb h
      have go : ¬ (hBit E b ∧ F (31 * c + b) = lf) → wpX9_leadsOn_38 (fun y0 y1 y2 y3 y4 => wpX9_leadsOn_3 post F (k + 1) y0 y1 y2 y3 y4) post F (zI (c : Int)) E lf (zI (n : Int)) (zI (b : Int)) := by
        intro q
        unfold wpX9_leadsOn_38
        intro v1 e1
        rw [e1, zS]
        refine ih (b + 1) (by omega) (fun a ha => ?_)
        by_cases e : a = b
        · subst e; exact q
        · exact h a (by omega)
      unfold wpX9_leadsOn_3
      rw [zN_le (by omega), hBit_at E (by omega), ix31, zN (by omega)]
      exact ⟨fun q => absurd q (by omega), fun _ => ⟨fun q => go (fun p => q p.1), fun q => ⟨zN_in (by omega), fun q' => go (fun p => q' p.2), fun q' => h1 ⟨b, by omega, q, q'⟩⟩⟩⟩
  unfold wpX9_leadsOn
  exact ⟨n + 1, key n 0 (by omega) (fun a q => absurd q (Nat.not_lt_zero a))⟩
theorem Lst_inf {N : Nat → Nat → Prop} (hF : ∀ c, c < n → ∀ a, a ≤ n → Lst (fun k => Fro n N k c a) (F (31 * c + a))) (hc : c < n) : ∀ a, a < n → (F (31 * c + a) = zI 2147483647 ↔ ¬ ∃ k, Fro n N k c a) := by
  intro a ha
  have h := hF c hc a (by omega)
  constructor
  · rintro q ⟨k, q'⟩
    exact h.none q k q'
  · intro q
    refine Classical.byContradiction fun q' => ?_
    obtain ⟨k, _, h1, _⟩ := h.some q'
    exact q ⟨k, h1⟩
theorem sp_fch23 {N : Nat → Nat → Prop} {post : Int32 → Unit → Prop} (h30 : n ≤ 30) (hF : ∀ c, c < n → ∀ a, a ≤ n → Lst (fun k => Fro n N k c a) (F (31 * c + a))) :
    ∀ (lf c : Nat) (S : Nat → Prop) (bits R : Int32), c < n → Cl n N c S → (∀ j, hBit R j ↔ (S j ∧ ∃ k, Fro n N k c j)) → (∀ a, S a → ∀ k, k < lf → ¬ Fro n N k c a) → (∃ a, S a ∧ Fro n N lf c a) → (∀ r, Ch n N lf c S bits r → post r ()) →
      wpX9_firstChoice_23 post F (lf + 1) (zI (n : Int)) bits (zI (c : Int)) R (zI (lf : Int)) := by
  intro lf
  induction lf with
  | zero =>
    intro c S bits R hc hC hR hm hx hp
    unfold wpX9_firstChoice_23
    rw [zN_lt1 (by omega)]
    exact ⟨fun _ => hp bits rfl, fun q => absurd (by omega) q⟩
  | succ l ih =>
    intro c S bits R hc hC hR hm hx hp
    obtain ⟨a0, ha0, hFa0⟩ := hx
    obtain ⟨x0, hx1, hx2, hx3⟩ := goes_ex hC ha0 hFa0
    have hbd := Fr_bd hFa0
    have hR31 : ∀ j, hBit R j → j < 31 := fun j q => by
      have := (hC.1 j ((hR j).1 q).1).1
      omega
    unfold wpX9_firstChoice_23
    rw [zN_lt1 (by omega), zN_sub1 (by omega), zN_le (by omega)]
    refine ⟨fun q => absurd q (by omega), fun _ => ⟨fun q => absurd q (by omega), fun _ v1 e1 v2 e2 => ⟨n - (c + 1) + 1, ?_⟩⟩⟩
    have hE : ∀ j, hBit v1 j ↔ Ent (hBit R) j := fun j => by rw [e1]; exact hBit_ent hR31 j
    have hES : ∀ {e}, hBit v1 e → Ent S e := fun {e} q => Ent_mono (fun j p => ((hR j).1 p).1) ((hE e).1 q)
    have hSE : ∀ {x k e}, c < x → x < n → Ent S e → Fro n N k x e → hBit v1 e := fun {x k e} q1 q2 q3 q4 => by
      obtain ⟨e', p1, p2, p3⟩ := enter hC q1 q2 q3 q4
      exact (hE e).2 (Ent_of ((hR e').2 ⟨p1, k + 1, p3⟩) p2)
    have found : ∀ x, c < x → x < n → (∃ e, Ent S e ∧ Fro n N l x e) → (∀ y, c < y → y < x → ¬ ∃ e, Ent S e ∧ Fro n N l y e) → wpX9_firstChoice_74 (fun y0 y1 y2 y3 y4 => wpX9_firstChoice_23 post F (l + 1) y0 y1 y2 y3 y4) post F (zI (n : Int)) bits (zI (x : Int)) (zI ((l + 1 : Nat) : Int)) v1 := by
      intro x p1 p2 p3 p4
      unfold wpX9_firstChoice_74
      intro w1 f1
      refine sp_walkOn (fi := fun i => ∃ k, Fro n N k x i) (by omega) h30 (Lst_inf hF p2) (fun r hr => ?_)
      intro v4 e4
      rw [e4, show (-1 : Int32) = zI (-1) from rfl, zI_add, show ((l + 1 : Nat) : Int) + -1 = (l : Int) by omega]
      refine ih x (UpA (Ent S) (nbr n N x)) w1 r p2 UpA_cl (fun j => ?_) (fun a q k hk h => ?_) (up_ex.2 p3) (fun r' hr' => hp r' ⟨x, p1, p2, p3, p4, by rw [← f1]; exact hr'⟩)
      · rw [hr j]
        constructor
        · rintro ⟨s, q1, q2, q3⟩
          exact ⟨⟨s, q1, hES q2, fun i t1 t2 => by obtain ⟨t3, k, t4⟩ := q3 i t1 t2; exact ⟨t3, (Fr_in t4).1⟩⟩, (q3 j q1 (Nat.le_refl j)).2⟩
        · rintro ⟨⟨s, q1, q2, q3⟩, k, q4⟩
          have run : ∀ i, s ≤ i → i ≤ j → Fro n N k x i := fun i t1 t2 => Fr_run q4 t2 (fun i' u1 u2 => (q3 i' (by omega) (by omega)).2)
          exact ⟨s, q1, hSE p1 p2 q2 (run s (Nat.le_refl s) q1), fun i t1 t2 => ⟨(q3 i t1 t2).1, k, run i t1 t2⟩⟩
      · obtain ⟨s, q1, q2, q3⟩ := q
        have := Fr_run (a := s) h q1 (fun i' u1 u2 => (q3 i' u1 (by omega)).2)
        obtain ⟨e', t1, t2, t3⟩ := enter hC p1 p2 q2 this
        exact hm e' t1 (k + 1) (by omega) t3
    have srch : ∀ (j x : Nat), x + j = n → c < x → (∀ y, c < y → y < x → ¬ ∃ e, Ent S e ∧ Fro n N l y e) → wpX9_firstChoice_48 (fun y0 y1 y2 y3 y4 => wpX9_firstChoice_23 post F (l + 1) y0 y1 y2 y3 y4) post F (j + 1) (zI (n : Int)) bits (zI (x : Int)) (zI ((l + 1 : Nat) : Int)) v1 := by
      intro j
      induction j with
      | zero =>
        intro x q1 q2 q3
        exact absurd hx3 (q3 x0 hx1 (by omega))
      | succ j ihj =>
        intro x q1 q2 q3
        unfold wpX9_firstChoice_48
        rw [zN_sub1 (by omega), zN_le (by omega)]
        refine ⟨fun q => ?_, fun q => ?_⟩
        · have : ¬ x0 < x := fun p => q3 x0 hx1 p hx3
          have e : x0 = x := by omega
          subst e
          exact found x0 q2 hx2 hx3 q3
        · refine sp_leadsOn (by omega) h30 (fun p => ⟨fun _ => ?_, fun p' => absurd p' (by decide)⟩) (fun p => ⟨fun p' => absurd rfl p', fun _ v3 e3 => ?_⟩)
          · obtain ⟨a, t1, t2, t3⟩ := p
            have t4 := ((hF x (by omega) a (by omega)).is (by omega)).1 t3
            exact found x q2 (by omega) ⟨a, hES t2, t4.1⟩ q3
          · rw [e3, zS]
            refine ihj (x + 1) (by omega) (by omega) (fun y u1 u2 => ?_)
            by_cases e : y = x
            · subst e
              rintro ⟨e', t1, t2⟩
              refine p ⟨e', (Fr_in t2).2.1, hSE q2 (by omega) t1 t2, ((hF y (by omega) e' (by have := (Fr_in t2).2.1; omega)).is (by omega)).2 ⟨t2, fun i hi t3 => ?_⟩⟩
              obtain ⟨e2, s1, s2, s3⟩ := enter hC q2 (by omega) t1 t3
              exact hm e2 s1 (i + 1) (by omega) s3
            · exact q3 y u1 (by omega)
    rw [e2, zS]
    exact srch (n - (c + 1)) (c + 1) (by omega) (by omega) (fun y u1 u2 => absurd u2 (by omega))
theorem sp_firstChoice {N : Nat → Nat → Prop} {post : Int32 → Unit → Prop} (h1 : 1 ≤ n) (h30 : n ≤ 30) (hN : ∀ c, c < n → N c c) (hF : ∀ c, c < n → ∀ a, a ≤ n → Lst (fun k => Fro n N k c a) (F (31 * c + a))) (hp : ∀ r, Fwr n N r → post r ()) : wpX9_firstChoice post F (zI (n : Int)) := by
  have h00 := hF 0 (by omega) 0 (by omega)
  have hid := Fr_id hN (n - 1) 0 (by omega)
  obtain ⟨m, m1, m2, m3, m4⟩ := h00.some (fun q => h00.none q _ hid)
  unfold wpX9_firstChoice
  refine sp_walkOn (c := 0) (fi := fun i => ∃ k, Fro n N k 0 i) (by omega) h30 (Lst_inf hF (by omega)) (fun r hr => ⟨vin (by decide), fun v3 e3 => ⟨m + 1, ?_⟩⟩)
  have e : v3 = zI (m : Int) := by
    rw [e3, show F (0 : Int32).toNatClampNeg = F (31 * 0 + 0) from rfl, m4, zN_sub1 (by omega)]; rfl
  rw [e]
  refine sp_fch23 h30 hF m 0 (UpA (fun j => j = 0) (nbr n N 0)) 1 r (by omega) UpA_cl (fun j => ?_) (fun a q k hk h => ?_) ⟨0, ⟨0, Nat.le_refl 0, rfl, fun i t1 t2 => by rw [show i = 0 by omega]; exact ⟨by omega, hN 0 (by omega)⟩⟩, m2⟩ (fun r' hr' => hp r' ⟨m, m2, m3, hr'⟩)
  · rw [hr j]
    constructor
    · rintro ⟨s, q1, q2, q3⟩
      exact ⟨⟨s, q1, (hBit_1 s).1 q2, fun i t1 t2 => by obtain ⟨t3, k, t4⟩ := q3 i t1 t2; exact ⟨t3, (Fr_in t4).1⟩⟩, (q3 j q1 (Nat.le_refl j)).2⟩
    · rintro ⟨⟨s, q1, q2, q3⟩, k, q4⟩
      have run : ∀ i, s ≤ i → i ≤ j → Fro n N k 0 i := fun i t1 t2 => Fr_run q4 t2 (fun i' u1 u2 => (q3 i' (by omega) (by omega)).2)
      exact ⟨s, q1, (hBit_1 s).2 q2, fun i t1 t2 => ⟨(q3 i t1 t2).1, k, run i t1 t2⟩⟩
  · obtain ⟨s, q1, q2, q3⟩ := q
    have := Fr_run (a := s) h q1 (fun i' u1 u2 => (q3 i' u1 (by omega)).2)
    rw [q2] at this
    exact m3 k hk this
end
