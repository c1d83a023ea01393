theorem fig_ring (x b : Int32) : ((10 * x) + b) - 48 = x * 10 + (b - 48) := by
  rw [Int32.mul_comm, Int32.sub_eq_add_neg, Int32.add_assoc, ← Int32.sub_eq_add_neg]
section
variable {B : Nat → Int32} {N : Nat}
theorem va_bd {s : Nat} (hs : s ≤ N) : ∀ k, k ≤ 7 → k ≤ dn B N s → ∃ z : Int, va B s k = zI z ∧ 0 ≤ z ∧ z < (10 ^ k : Nat) := by
  intro k
  induction k with
  | zero => intro _ _; exact ⟨0, rfl, by decide, by decide⟩
  | succ k ih =>
    intro h7 hd
    obtain ⟨z, e, h0, h1⟩ := ih (by omega) (by omega)
    have hb : bDg B (s + k) = true := by
      refine ru_in (bDg B) hs (s + k) (by omega) ?_
      unfold dn at hd; omega
    unfold bDg at hb
    rw [decide_eq_true_eq] at hb
    obtain ⟨b, eb, hb1, hb2⟩ := zI_of (B (s + k))
    have l1 := hb.1
    have l2 := hb.2
    rw [eb, show (48 : Int32) = zI 48 from rfl, zI_lt (by omega)] at l1
    rw [eb, show (57 : Int32) = zI 57 from rfl, zI_lt (by omega)] at l2
    refine ⟨z * 10 + (b - 48), ?_, by omega, ?_⟩
    · unfold va
      rw [e, eb, show (10 : Int32) = zI 10 from rfl, show (48 : Int32) = zI 48 from rfl, zI_mul, zI_sub, zI_add]
    · rw [Nat.pow_succ]; omega
theorem va_nn {s : Nat} (hs : s ≤ N) {k : Nat} (hk : k ≤ 7) (hd : k ≤ dn B N s) : ¬ va B s k < 0 := by
  obtain ⟨z, e, h0, h1⟩ := va_bd hs k hk hd
  have h7 : 10 ^ k ≤ 10 ^ 7 := Nat.pow_le_pow_right (by decide) hk
  rw [e, show (0 : Int32) = zI 0 from rfl, zI_lt (by omega)]
  omega
theorem vl_bd {s m : Nat} (hs : s ≤ N) (hm : m ≤ 7) (h : isNm B N s m = true) : ∃ z : Int, vl B N s = zI z ∧ 0 ≤ z ∧ z < (10 ^ m : Nat) := by
  unfold isNm at h
  rw [decide_eq_true_eq] at h
  obtain ⟨z, e, h0, h1⟩ := va_bd (B := B) hs (dn B N s) (by omega) (by omega)
  have h7 : 10 ^ dn B N s ≤ 10 ^ m := Nat.pow_le_pow_right (by decide) h.2
  refine ⟨z, ?_, h0, by omega⟩
  unfold vl
  rw [show min (dn B N s) 7 = dn B N s by omega]
  exact e
theorem nm_nx {s m : Nat} (hs : s ≤ N) (h : isNm B N s m = true) : s < N ∧ nx B N s = ru (bDg B) N s := by
  unfold isNm at h
  rw [decide_eq_true_eq] at h
  have hd := dn_le (B := B) hs
  have hlt : s < N := by omega
  have hb : bDg B s = true := by
    refine Classical.byContradiction fun q => ?_
    have := h.1
    unfold dn at this
    rw [ru_no q] at this
    omega
  refine ⟨hlt, ?_⟩
  unfold nx
  rw [if_pos hlt, if_neg (fun q => bLe_dg q hb), if_pos hb]
def fg (B : Nat → Int32) (N s m : Nat) (hi : Int32) : Int32 := if isNm B N s m = true ∧ vl B N s ≤ hi then vl B N s else -1
theorem sr_figures {post : Int32 → (Int32 × Int32) → Prop} {p m : Nat} {bg hi : Int32} (hN : N ≤ 400) (hp : p ≤ N) (hm : m ≤ 7) (h : post (fg B N (sk B N p) m hi) (zI (ru (bDg B) N (sk B N p) : Int), zI (sk B N p : Int))) : wpX11_figures post (zI (N : Int)) B (zI (p : Int)) bg 0 hi (zI (m : Int)) := by
  unfold wpX11_figures
  refine sr_blanks hN hp ?_
  have hs := (sk_le (B := B) hp).2
  generalize sk B N p = s at h hs
  have fin : ∀ (k c : Nat), s + c = ru (bDg B) N s → ¬ bDg B (s + c) = true ∨ N ≤ s + c → wpX11_figures_7 post (zI (N : Int)) B (k + 1) (zI ((s + c : Nat) : Int)) (zI (s : Int)) 0 hi (zI (m : Int)) (va B s (min c m)) := by
    intro k c ec hst
    have hr := ru_bd (bDg B) hs
    have ed : dn B N s = c := by unfold dn; omega
    unfold wpX11_figures_7
    refine sr_isAt hN (by omega) ?_
    rw [decide_eq_false (by
      rcases hst with q | q
      · unfold bDg at q; rw [decide_eq_true_eq] at q; exact fun z => q z.2
      · omega)]
    refine ⟨fun _ => ?_, fun q => absurd rfl q⟩
    rw [zN_sub (by omega), show s + c - s = c by omega, zN_eq (by omega), zN_lt (by omega)]
    rw [← ec] at h
    have no : ¬ (isNm B N s m = true ∧ vl B N s ≤ hi) → post (-1) (zI ((s + c : Nat) : Int), zI (s : Int)) := by
      intro q
      unfold fg at h
      rw [if_neg q] at h; exact h
    have hn : isNm B N s m = true ↔ 1 ≤ c ∧ c ≤ m := by unfold isNm; rw [ed, decide_eq_true_eq]
    refine ⟨fun e => no (fun q => ?_), fun e => ⟨fun e2 => no (fun q => ?_), fun e2 => ?_⟩⟩
    · have := hn.mp q.1; omega
    · have := hn.mp q.1; omega
    · have en : isNm B N s m = true := hn.mpr (by omega)
      have ev : vl B N s = va B s c := by unfold vl; rw [ed, show min c 7 = c by omega]
      rw [show min c m = c by omega]
      refine ⟨fun e3 => absurd e3 (va_nn hs (by omega) (by omega)), fun _ => ⟨fun e3 => ?_, fun e3 => no (fun q => ?_)⟩⟩
      · unfold fg at h
        rw [ev, if_pos ⟨en, e3⟩] at h
        exact h
      · rw [ev] at q; exact e3 q.2
  have key : ∀ (k c : Nat), s + c + k = N → ru (bDg B) N (s + c) = ru (bDg B) N s → wpX11_figures_7 post (zI (N : Int)) B (k + 1) (zI ((s + c : Nat) : Int)) (zI (s : Int)) 0 hi (zI (m : Int)) (va B s (min c m)) := by
    intro k
    induction k with
    | zero =>
      intro c e er
      exact fin 0 c (by rw [← er, ru_end (by omega)]) (Or.inr (by omega))
    | succ k ih =>
      intro c e er
      by_cases hb : bDg B (s + c) = true
      · rw [ru_go (by omega) hb] at er
        have := ih (c + 1) (by omega) er
        have hb' := hb
        unfold bDg at hb'
        rw [decide_eq_true_eq] at hb'
        unfold wpX11_figures_7
        refine sr_isAt hN (by omega) ?_
        rw [decide_eq_true ⟨by omega, hb'⟩]
        refine ⟨fun q => absurd q (by decide), fun _ => ?_⟩
        unfold wpX11_figures_54
        rw [zN_sub (by omega), show s + c - s = c by omega, zN_le (by omega), zN (by omega), zS, fig_ring]
        refine ⟨fun e2 v1 e1 => ?_, fun e2 => ⟨zN_in (by omega), fun v1 e1 => ?_⟩⟩
        · rw [e1]
          rw [show min (c + 1) m = min c m by omega] at this
          exact this
        · rw [e1, show min c m = c by omega]
          rw [show min (c + 1) m = c + 1 by omega] at this
          exact this
      · exact fin (k + 1) c (by rw [← er, ru_no hb]) (Or.inl hb)
  exact ⟨N - s + 1, by have := key (N - s) 0 (by omega) rfl; rw [Nat.zero_min] at this; exact this⟩
theorem fg_all {s m : Nat} (hs : s ≤ N) (hm : m ≤ 7) {hi : Nat} (hh : 10 ^ m ≤ hi + 1) (h2 : hi < 2147483648) : fg B N s m (zI (hi : Int)) = if isNm B N s m = true then vl B N s else -1 := by
  unfold fg
  by_cases e : isNm B N s m = true
  · obtain ⟨z, ez, h0, h1⟩ := vl_bd hs hm e
    rw [if_pos e, if_pos ⟨e, by rw [ez, zI_le (by omega)]; omega⟩]
  · rw [if_neg e, if_neg (fun q => e q.1)]
end
