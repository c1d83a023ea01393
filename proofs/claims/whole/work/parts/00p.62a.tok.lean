theorem zN {p : Nat} (h : p < 2147483648) : (zI (p : Int)).toNatClampNeg = p := by
  rw [zI_nat (by omega)]; exact Int.toNat_natCast p
theorem zS (p : Nat) : zI (p : Int) + 1 = zI ((p + 1 : Nat) : Int) := by
  rw [show (1 : Int32) = zI 1 from rfl, zI_add]; rfl
theorem zN_le {p q : Nat} (h : p < 2147483648 ∧ q < 2147483648) : (zI (p : Int) ≤ zI (q : Int)) = (p ≤ q) := by
  rw [zI_le (by omega)]; exact propext Int.ofNat_le
theorem zN_lt {p q : Nat} (h : p < 2147483648 ∧ q < 2147483648) : (zI (p : Int) < zI (q : Int)) = (p < q) := by
  rw [zI_lt (by omega)]; exact propext Int.ofNat_lt
theorem zN_eq {p q : Nat} (h : p < 2147483648 ∧ q < 2147483648) : (zI (p : Int) = zI (q : Int)) = (p = q) := by
  rw [zI_eq (by omega)]; exact propext Int.ofNat_inj
theorem zN_in {p n : Nat} (h : p < n ∧ p < 2147483648) : vp_in (zI (p : Int)) n := zI_in (by omega)
theorem zN_add (p q : Nat) : zI (p : Int) + zI (q : Int) = zI ((p + q : Nat) : Int) := zI_add _ _
theorem zN_sub {p q : Nat} (h : p ≤ q) : zI (q : Int) - zI (p : Int) = zI ((q - p : Nat) : Int) := by
  rw [zI_sub]; congr 1; omega
theorem lt_of (x y : Int32) : (x < y) = ¬ (y ≤ x) := by
  apply propext; rw [Int32.lt_iff_toInt_lt, Int32.le_iff_toInt_le]; omega
theorem eq_of (x y : Int32) (h1 : ¬ x < y) (h2 : ¬ y < x) : x = y := by
  rw [Int32.lt_iff_toInt_lt] at h1 h2
  exact Int32.toInt_inj.mp (by omega)
def en (P : Nat → Bool) (N : Nat) : Nat → Nat → Nat
  | 0, p => p
  | k + 1, p => if P p = true ∧ p < N then en P N k (p + 1) else p
def ru (P : Nat → Bool) (N p : Nat) : Nat := en P N (N - p) p
theorem ru_go {P : Nat → Bool} {N p : Nat} (h : p < N) (hP : P p = true) : ru P N p = ru P N (p + 1) := by
  unfold ru
  rw [show N - p = (N - (p + 1)) + 1 by omega]
  show (if P p = true ∧ p < N then en P N (N - (p + 1)) (p + 1) else p) = _
  rw [if_pos ⟨hP, h⟩]
theorem ru_no {P : Nat → Bool} {N p : Nat} (hP : ¬ P p = true) : ru P N p = p := by
  unfold ru
  cases N - p with
  | zero => rfl
  | succ k =>
    show (if P p = true ∧ p < N then en P N k (p + 1) else p) = p
    rw [if_neg (fun h => hP h.1)]
theorem ru_end {P : Nat → Bool} {N p : Nat} (h : N ≤ p) : ru P N p = p := by
  unfold ru; rw [show N - p = 0 by omega]; rfl
theorem ru_bd (P : Nat → Bool) {N p : Nat} (h : p ≤ N) : p ≤ ru P N p ∧ ru P N p ≤ N := by
  have key : ∀ (k p : Nat), p + k = N → p ≤ ru P N p ∧ ru P N p ≤ N := by
    intro k
    induction k with
    | zero => intro p e; rw [ru_end (by omega)]; omega
    | succ k ih =>
      intro p e
      by_cases hP : P p = true
      · rw [ru_go (by omega) hP]; have := ih (p + 1) (by omega); omega
      · rw [ru_no hP]; omega
  exact key (N - p) p (by omega)
theorem ru_in (P : Nat → Bool) {N p : Nat} (h : p ≤ N) : ∀ j, p ≤ j → j < ru P N p → P j = true := by
  have key : ∀ (k p : Nat), p + k = N → ∀ j, p ≤ j → j < ru P N p → P j = true := by
    intro k
    induction k with
    | zero => intro p e j h1 h2; rw [ru_end (by omega)] at h2; omega
    | succ k ih =>
      intro p e j h1 h2
      by_cases hP : P p = true
      · rw [ru_go (by omega) hP] at h2
        by_cases e1 : j = p
        · rw [e1]; exact hP
        · exact ih (p + 1) (by omega) j (by omega) h2
      · rw [ru_no hP] at h2; omega
  exact key (N - p) p (by omega)
theorem ru_stop (P : Nat → Bool) {N p : Nat} (h : p ≤ N) : ru P N p < N → ¬ P (ru P N p) = true := by
  have key : ∀ (k p : Nat), p + k = N → ru P N p < N → ¬ P (ru P N p) = true := by
    intro k
    induction k with
    | zero => intro p e h2; rw [ru_end (by omega)] at h2; omega
    | succ k ih =>
      intro p e h2
      by_cases hP : P p = true
      · rw [ru_go (by omega) hP] at h2 ⊢; exact ih (p + 1) (by omega) h2
      · rw [ru_no hP]; exact hP
  exact key (N - p) p (by omega)
theorem ru_ru (P : Nat → Bool) {N p : Nat} (h : p ≤ N) : ru P N (ru P N p) = ru P N p := by
  have hb := ru_bd P h
  by_cases e : ru P N p < N
  · exact ru_no (ru_stop P h e)
  · exact ru_end (by omega)
def bBl (B : Nat → Int32) (p : Nat) : Bool := decide (B p = 32)
def bLe (B : Nat → Int32) (p : Nat) : Bool := decide (¬ B p < 97 ∧ ¬ 122 < B p)
def bDg (B : Nat → Int32) (p : Nat) : Bool := decide (¬ B p < 48 ∧ ¬ 57 < B p)
def sk (B : Nat → Int32) (N p : Nat) : Nat := ru (bBl B) N p
def nx (B : Nat → Int32) (N p : Nat) : Nat := if p < N then (if bLe B p = true then ru (bLe B) N p else if bDg B p = true then ru (bDg B) N p else p + 1) else p
def dn (B : Nat → Int32) (N p : Nat) : Nat := ru (bDg B) N p - p
def va (B : Nat → Int32) (p : Nat) : Nat → Int32
  | 0 => 0
  | k + 1 => va B p k * 10 + (B (p + k) - 48)
def vl (B : Nat → Int32) (N p : Nat) : Int32 := va B p (min (dn B N p) 7)
def tk (B : Nat → Int32) (N p : Nat) : Int32 × Int32 × Int32 × Int32 := (zI (p : Int), zI (nx B N p : Int), zI (dn B N p : Int), vl B N p)
theorem bLe_dg {B : Nat → Int32} {p : Nat} (h : bLe B p = true) : ¬ bDg B p = true := by
  unfold bLe at h; unfold bDg
  rw [decide_eq_true_eq] at h ⊢
  intro h2
  have h1 := h.1; have h3 := h2.2
  rw [Int32.lt_iff_toInt_lt] at h1 h3
  have e1 : (97 : Int32).toInt = 97 := rfl
  have e2 : (57 : Int32).toInt = 57 := rfl
  omega
section
variable {B : Nat → Int32} {N : Nat}
theorem nx_bd {p : Nat} (h : p < N) : p + 1 ≤ nx B N p ∧ nx B N p ≤ N := by
  unfold nx
  rw [if_pos h]
  by_cases h1 : bLe B p = true
  · rw [if_pos h1, ru_go h h1]; have := ru_bd (bLe B) (N := N) (p := p + 1) (by omega); omega
  · rw [if_neg h1]
    by_cases h2 : bDg B p = true
    · rw [if_pos h2, ru_go h h2]; have := ru_bd (bDg B) (N := N) (p := p + 1) (by omega); omega
    · rw [if_neg h2]; omega
theorem nx_le {p : Nat} (h : p ≤ N) : p ≤ nx B N p ∧ nx B N p ≤ N := by
  by_cases e : p < N
  · have := nx_bd (B := B) e; omega
  · unfold nx; rw [if_neg e]; omega
theorem sk_le {p : Nat} (h : p ≤ N) : p ≤ sk B N p ∧ sk B N p ≤ N := ru_bd _ h
theorem sk_sk {p : Nat} (h : p ≤ N) : sk B N (sk B N p) = sk B N p := ru_ru _ h
theorem sp_passWord {post : Int32 → Prop} (hN : N ≤ 400) {p : Nat} (hp : p ≤ N) (h : post (zI (ru (bLe B) N p : Int))) : wpX8_passWord post (zI (N : Int)) B (zI (p : Int)) := by
  have key : ∀ (k p : Nat), p + k = N → post (zI (ru (bLe B) N p : Int)) → wpX8_passWord_0 post (zI (N : Int)) B (k + 1) (zI (p : Int)) := by
    intro k
    induction k with
    | zero =>
      intro p e h
      unfold wpX8_passWord_0
      rw [zN_le (by omega)]
      refine ⟨fun _ => ?_, fun h2 => absurd (show N ≤ p by omega) h2⟩
      rw [ru_end (by omega)] at h; exact h
    | succ k ih =>
      intro p e h
      unfold wpX8_passWord_0
      rw [zN_le (by omega), zN (by omega), zS]
      have hi : vp_in (zI (p : Int)) 400 := zN_in (by omega)
      refine ⟨fun h2 => absurd h2 (by omega), fun _ => ⟨hi, fun h2 => ?_, fun h2 => ⟨hi, fun h3 => ?_, fun h3 => fun v1 e1 => ?_⟩⟩⟩
      · rw [ru_no (by unfold bLe; rw [decide_eq_true_eq]; exact fun q => q.1 h2)] at h; exact h
      · rw [ru_no (by unfold bLe; rw [decide_eq_true_eq]; exact fun q => q.2 h3)] at h; exact h
      · rw [e1]
        rw [ru_go (by omega) (by unfold bLe; rw [decide_eq_true_eq]; exact ⟨h2, h3⟩)] at h
        exact ih (p + 1) (by omega) h
  exact ⟨N - p + 1, key (N - p) p (by omega) h⟩
theorem sp_passNumber {post : (Int32 × Int32 × Int32) → Prop} (hN : N ≤ 400) {s : Nat} (hs : s ≤ N) (h : post (zI (ru (bDg B) N s : Int), zI (dn B N s : Int), vl B N s)) : wpX8_passNumber post (zI (N : Int)) B (zI (s : Int)) 0 0 := by
  have key : ∀ (k c : Nat), s + c + k = N → post (zI (ru (bDg B) N (s + c) : Int), zI ((ru (bDg B) N (s + c) - s : Nat) : Int), va B s (min (ru (bDg B) N (s + c) - s) 7)) → wpX8_passNumber_0 post (zI (N : Int)) B (k + 1) (zI ((s + c : Nat) : Int)) (zI (c : Int)) (va B s (min c 7)) := by
    intro k
    induction k with
    | zero =>
      intro c e h
      unfold wpX8_passNumber_0
      rw [zN_le (by omega)]
      refine ⟨fun _ => ?_, fun h2 => absurd (show N ≤ s + c by omega) h2⟩
      rw [ru_end (by omega), show s + c - s = c by omega] at h; exact h
    | succ k ih =>
      intro c e h
      unfold wpX8_passNumber_0
      rw [zN_le (by omega), zN (by omega), show (7 : Int32) = zI ((7 : Nat) : Int) from rfl, zN_le (by omega)]
      have hi : vp_in (zI ((s + c : Nat) : Int)) 400 := zN_in (by omega)
      have stop : ¬ bDg B (s + c) = true → post (zI ((s + c : Nat) : Int), zI (c : Int), va B s (min c 7)) := by
        intro h2
        rw [ru_no h2, show s + c - s = c by omega] at h; exact h
      refine ⟨fun h2 => absurd h2 (by omega), fun _ => ⟨hi, fun h2 => ?_, fun h2 => ⟨hi, fun h3 => ?_, fun h3 => ?_⟩⟩⟩
      · exact stop (by unfold bDg; rw [decide_eq_true_eq]; exact fun q => q.1 h2)
      · exact stop (by unfold bDg; rw [decide_eq_true_eq]; exact fun q => q.2 h3)
      · rw [ru_go (by omega) (by unfold bDg; rw [decide_eq_true_eq]; exact ⟨h2, h3⟩), show s + c + 1 = s + (c + 1) by omega] at h
        have := ih (c + 1) (by omega) h
        refine ⟨fun h7 => ?_, fun h7 => ⟨hi, fun v1 e1 => ?_⟩⟩
        · unfold wpX8_passNumber_72
          rw [zS, zS]
          intro v1 e1 v2 e2
          rw [e1, e2]
          rw [show min (c + 1) 7 = min c 7 by omega] at this
          exact this
        · unfold wpX8_passNumber_72
          rw [zS, zS]
          intro v2 e2 v3 e3
          rw [e1, e2, e3]
          rw [show min (c + 1) 7 = c + 1 by omega] at this
          rw [show min c 7 = c by omega]
          exact this
  have := key (N - s) 0 (by omega) h
  exact ⟨N - s + 1, this⟩
theorem sp_toNext {post : (Int32 × Int32 × Int32 × Int32) → Prop} {h1 d1 v1 : Int32} {q : Nat} (hN : N ≤ 400) (hq : q ≤ N) (h : post (tk B N (sk B N q))) : wpX8_toNext post (zI (N : Int)) B h1 (zI (q : Int)) d1 v1 := by
  have last : ∀ (p : Nat) (b d v : Int32), p ≤ N → post (tk B N p) → wpX8_toNext_46 post (zI (N : Int)) B (zI (p : Int)) b d v := by
    intro p b d v hp h
    unfold wpX8_toNext_46
    rw [zN_lt (by omega), zN (by omega)]
    unfold tk nx at h
    have num : ¬ bLe B p = true → p < N → wpX8_toNext_111 post (zI (N : Int)) B (zI (p : Int)) (zI (p : Int)) 0 0 := by
      intro hl hlt
      have hi : vp_in (zI (p : Int)) 400 := zN_in (by omega)
      rw [if_pos hlt, if_neg hl] at h
      have sign : ¬ bDg B p = true → wpX8_toNext_146 post (zI (N : Int)) B (zI (p : Int)) (zI (p : Int)) 0 0 := by
        intro hd
        unfold wpX8_toNext_146
        intro v1 e1
        rw [e1, zS]
        rw [if_neg hd] at h
        have ed : dn B N p = 0 := by unfold dn; rw [ru_no hd]; omega
        have ev : vl B N p = 0 := by unfold vl; rw [ed]; rfl
        rw [ed, ev] at h
        exact h
      unfold wpX8_toNext_111
      rw [zN (by omega)]
      refine ⟨hi, fun h2 => sign (by unfold bDg; rw [decide_eq_true_eq]; exact fun q => q.1 h2), fun h2 => ⟨hi, fun h3 => sign (by unfold bDg; rw [decide_eq_true_eq]; exact fun q => q.2 h3), fun h3 => ?_⟩⟩
      rw [if_pos (by unfold bDg; rw [decide_eq_true_eq]; exact ⟨h2, h3⟩)] at h
      exact sp_passNumber hN hp h
    refine ⟨fun hlt => ?_, fun hlt => ?_⟩
    · have hi : vp_in (zI (p : Int)) 400 := zN_in (by omega)
      refine ⟨hi, fun h2 => num (by unfold bLe; rw [decide_eq_true_eq]; exact fun q => q.1 h2) hlt, fun h2 => ⟨hi, fun h3 => num (by unfold bLe; rw [decide_eq_true_eq]; exact fun q => q.2 h3) hlt, fun h3 => ?_⟩⟩
      have hl : bLe B p = true := by unfold bLe; rw [decide_eq_true_eq]; exact ⟨h2, h3⟩
      rw [if_pos hlt, if_pos hl] at h
      have ed : dn B N p = 0 := by unfold dn; rw [ru_no (bLe_dg hl)]; omega
      have ev : vl B N p = 0 := by unfold vl; rw [ed]; rfl
      rw [ed, ev] at h
      exact sp_passWord hN hp h
    · rw [if_neg hlt] at h
      have ed : dn B N p = 0 := by unfold dn; rw [ru_end (by omega)]; omega
      have ev : vl B N p = 0 := by unfold vl; rw [ed]; rfl
      rw [ed, ev] at h
      exact h
  have key : ∀ (k p : Nat) (b d v : Int32), p + k = N → post (tk B N (sk B N p)) → wpX8_toNext_8 post (zI (N : Int)) B (k + 1) (zI (p : Int)) b d v := by
    intro k
    induction k with
    | zero =>
      intro p b d v e h
      unfold wpX8_toNext_8
      rw [zN_le (by omega)]
      unfold sk at h
      rw [ru_end (by omega)] at h
      exact ⟨fun _ => last p _ _ _ (by omega) h, fun h2 => absurd (show N ≤ p by omega) h2⟩
    | succ k ih =>
      intro p b d v e h
      unfold wpX8_toNext_8
      rw [zN_le (by omega), zN (by omega)]
      refine ⟨fun h2 => absurd h2 (by omega), fun _ => ⟨zN_in (by omega), fun h2 => ?_, fun h2 => fun v1 e1 => ?_⟩⟩
      · unfold sk at h
        rw [ru_no (by unfold bBl; rw [decide_eq_true_eq]; exact h2)] at h
        exact last p _ _ _ (by omega) h
      · rw [e1, zS]
        unfold sk at h
        rw [ru_go (by omega) (by unfold bBl; rw [decide_eq_true_eq]; exact h2)] at h
        exact ih (p + 1) _ _ _ (by omega) h
  exact ⟨N - q + 1, key (N - q) q _ _ _ (by omega) h⟩
end
