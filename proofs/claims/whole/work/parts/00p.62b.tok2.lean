def wdB (B : Nat → Int32) (p : Nat) : List Int32 → Bool
  | [] => true
  | c :: w => decide (B p = txC c) && wdB B (p + 1) w
def isW (B : Nat → Int32) (q p : Nat) (w : List Int32) : Bool := decide (q - p = w.length) && wdB B p w
def b32 (b : Bool) : Int32 := if b = true then 1 else 0
theorem b32_t : b32 true = 1 := rfl
theorem b32_f : b32 false = 0 := rfl
def isSg (B : Nat → Int32) (N p : Nat) (c : Int32) : Bool := decide (p < N ∧ B p = c)
theorem getD_at {w : List Int32} {k : Nat} (h : k < w.length) : w.getD k 0 = w[k] := by
  rw [List.getD_eq_getElem?_getD, List.getElem?_eq_getElem h]; rfl
section
variable {B : Nat → Int32} {N : Nat}
theorem sp_isWord {post : Int32 → Unit → Prop} {w : List Int32} {p q : Nat} (hw : w.length ≤ 10) (hpq : p ≤ q) (hq : q ≤ 400) (h : post (b32 (isW B q p w)) ()) : wpX8_isWord w post (zI (p : Int)) (zI (q : Int)) B := by
  unfold wpX8_isWord
  rw [zN_sub hpq, zI_nI, zN_eq (by omega)]
  unfold isW at h
  refine ⟨fun e => ?_, fun e => ?_⟩
  · have key : ∀ (k j : Nat), j + k = w.length → post (b32 (wdB B (p + j) (w.drop j))) () → wpX8_isWord_20 w post (zI (p : Int)) (zI (q : Int)) B (k + 1) (zI (j : Int)) := by
      intro k
      induction k with
      | zero =>
        intro j ej h
        unfold wpX8_isWord_20
        rw [zI_nI, zN_le (by omega)]
        refine ⟨fun _ => ?_, fun h2 => absurd (show w.length ≤ j by omega) h2⟩
        rw [List.drop_of_length_le (by omega)] at h
        exact h
      | succ k ih =>
        intro j ej h
        unfold wpX8_isWord_20
        rw [zI_nI, zN_le (by omega), zN_add, zN (by omega), zN (by omega), zS]
        refine ⟨fun h2 => absurd h2 (by omega), fun _ => ⟨zN_in (by omega), by omega, zN_in (by omega), fun h2 v3 e3 => ?_, fun h2 => ?_⟩⟩
        · rw [e3]
          refine ih (j + 1) (by omega) ?_
          rw [List.drop_eq_getElem_cons (by omega)] at h
          unfold wdB at h
          rw [getD_at (by omega)] at h2
          rw [decide_eq_true h2, Bool.true_and] at h
          exact h
        · rw [List.drop_eq_getElem_cons (by omega)] at h
          unfold wdB at h
          rw [getD_at (by omega)] at h2
          rw [decide_eq_false h2, Bool.false_and] at h
          exact h
    rw [decide_eq_true e, Bool.true_and] at h
    exact ⟨w.length + 1, key w.length 0 (by omega) h⟩
  · rw [decide_eq_false e, Bool.false_and] at h
    exact h
theorem sr_isWord {post : Int32 → Unit → Prop} {w : List Int32} {p q : Nat} (hw : w.length ≤ 10) (hpq : p ≤ q) (hq : q ≤ 400) (h : post (b32 (isW B q p w)) ()) : wpX11_isWord w post (zI (q : Int)) (zI (p : Int)) B := by
  unfold wpX11_isWord wpX11_isWord_21
  rw [zN_sub hpq, zI_nI, zN_eq (by omega)]
  unfold isW at h
  have fin : ∀ (n : Nat) (j : Int32), post 0 () → wpX11_isWord_24 w post (zI (q : Int)) (zI (p : Int)) B (n + 1) 0 j := by
    intro n j h
    unfold wpX11_isWord_24
    exact ⟨fun _ => ⟨Or.inl rfl, h⟩, fun e => absurd rfl e⟩
  refine ⟨fun e => ?_, fun e => ?_⟩
  · rw [decide_eq_false e, Bool.false_and] at h
    exact ⟨1, fin 0 0 h⟩
  · have key : ∀ (k j : Nat), j + k = w.length → post (b32 (wdB B (p + j) (w.drop j))) () → wpX11_isWord_24 w post (zI (q : Int)) (zI (p : Int)) B (k + 1) 1 (zI (j : Int)) := by
      intro k
      induction k with
      | zero =>
        intro j ej h
        unfold wpX11_isWord_24
        rw [zI_nI, zN_le (by omega)]
        refine ⟨fun e => absurd e (by decide), fun _ => ⟨fun _ => ⟨Or.inr rfl, ?_⟩, fun h2 => absurd (show w.length ≤ j by omega) h2⟩⟩
        rw [List.drop_of_length_le (by omega)] at h
        exact h
      | succ k ih =>
        intro j ej h
        unfold wpX11_isWord_24
        rw [zI_nI, zN_le (by omega), zN_add, zN (by omega), zN (by omega)]
        refine ⟨fun e => absurd e (by decide), fun _ => ⟨fun h2 => absurd h2 (by omega), fun _ => ⟨zN_in (by omega), by omega, zN_in (by omega), fun h2 => ?_, fun h2 => ?_⟩⟩⟩
        · unfold wpX11_isWord_60
          intro v1 e1
          rw [List.drop_eq_getElem_cons (by omega)] at h
          unfold wdB at h
          rw [getD_at (by omega)] at h2
          rw [decide_eq_false h2, Bool.false_and] at h
          exact fin k v1 h
        · unfold wpX11_isWord_60
          intro v1 e1
          rw [e1, zS]
          refine ih (j + 1) (by omega) ?_
          rw [List.drop_eq_getElem_cons (by omega)] at h
          unfold wdB at h
          rw [getD_at (by omega)] at h2
          rw [decide_eq_true h2, Bool.true_and] at h
          exact h
    rw [decide_eq_true e, Bool.true_and] at h
    exact ⟨w.length + 1, key w.length 0 (by omega) h⟩
theorem sp_isSign {post : Int32 → Unit → Prop} {p : Nat} {c : Int32} (hN : N ≤ 400) (hp : p ≤ N) (h : post (b32 (isSg B N p c)) ()) : wpX8_isSign post (zI (N : Int)) (zI (p : Int)) B c := by
  unfold wpX8_isSign
  rw [zN_le (by omega), zN (by omega)]
  unfold isSg at h
  refine ⟨fun e => ?_, fun e => ⟨zN_in (by omega), fun e2 => ?_, fun e2 => ?_⟩⟩
  · rw [decide_eq_false (fun q => by omega)] at h; exact h
  · rw [decide_eq_false (fun q => e2 q.2)] at h; exact h
  · rw [decide_eq_true ⟨by omega, e2⟩] at h; exact h
theorem sp_isOver {post : Int32 → Unit → Prop} {p : Nat} (hN : N ≤ 400) (hp : p ≤ N) (h0 : p < N → post 0 ()) (h1 : p = N → post 1 ()) : wpX8_isOver post (zI (N : Int)) (zI (p : Int)) := by
  unfold wpX8_isOver
  rw [zN_lt (by omega)]
  exact ⟨h0, fun e => h1 (by omega)⟩
def isNm (B : Nat → Int32) (N p m : Nat) : Bool := decide (1 ≤ dn B N p ∧ dn B N p ≤ m)
theorem dn_le {p : Nat} (hp : p ≤ N) : p + dn B N p ≤ N := by
  unfold dn; have := ru_bd (bDg B) hp; omega
theorem sp_isNumber {post : Int32 → Unit → Prop} {p m : Nat} (hN : N ≤ 400) (hp : p ≤ N) (hm : m ≤ 10) (h : post (b32 (isNm B N p m)) ()) : wpX8_isNumber post (zI (dn B N p : Int)) (zI (m : Int)) := by
  have hd := dn_le (B := B) hp
  unfold wpX8_isNumber
  rw [show (1 : Int32) = zI ((1 : Nat) : Int) from rfl, zN_lt (by omega), zN_lt (by omega)]
  unfold isNm at h
  refine ⟨fun e => ?_, fun e => ⟨fun e2 => ?_, fun e2 => ?_⟩⟩
  · rw [decide_eq_false (fun q => by omega)] at h; exact h
  · rw [decide_eq_false (fun q => by omega)] at h; exact h
  · rw [decide_eq_true (by omega)] at h; exact h
theorem sr_isAt {post : Int32 → Unit → Prop} {p : Nat} {lo hi : Int32} (hN : N ≤ 400) (hp : p ≤ N) (h : post (b32 (decide (p < N ∧ ¬ B p < lo ∧ ¬ hi < B p))) ()) : wpX11_isAt post (zI (p : Int)) (zI (N : Int)) B lo hi := by
  unfold wpX11_isAt
  rw [zN_le (by omega), zN (by omega)]
  refine ⟨fun e => ?_, fun e => ⟨zN_in (by omega), fun e2 => ?_, fun e2 => ⟨zN_in (by omega), fun e3 => ?_, fun e3 => ?_⟩⟩⟩
  · rw [decide_eq_false (fun q => by omega)] at h; exact h
  · rw [decide_eq_false (fun q => q.2.1 e2)] at h; exact h
  · rw [decide_eq_false (fun q => q.2.2 e3)] at h; exact h
  · rw [decide_eq_true ⟨by omega, e2, e3⟩] at h; exact h
theorem one_iff (x c : Int32) : (¬ x < c ∧ ¬ c < x) ↔ x = c := by
  constructor
  · exact fun h => eq_of x c h.1 h.2
  · rintro rfl
    have : ¬ x < x := by rw [Int32.lt_iff_toInt_lt]; omega
    exact ⟨this, this⟩
theorem sr_isAt1 {post : Int32 → Unit → Prop} {p : Nat} {c : Int32} (hN : N ≤ 400) (hp : p ≤ N) (h : post (b32 (isSg B N p c)) ()) : wpX11_isAt post (zI (p : Int)) (zI (N : Int)) B c c := by
  refine sr_isAt hN hp ?_
  unfold isSg at h
  rw [show (decide (p < N ∧ ¬ B p < c ∧ ¬ c < B p)) = decide (p < N ∧ B p = c) from decide_eq_decide.mpr (and_congr_right fun _ => one_iff _ _)]
  exact h
theorem sr_blanks {post : (Int32 × Int32) → Prop} {p : Nat} {bg : Int32} (hN : N ≤ 400) (hp : p ≤ N) (h : post (zI (sk B N p : Int), zI (sk B N p : Int))) : wpX11_blanks post (zI (N : Int)) B (zI (p : Int)) bg := by
  have key : ∀ (k p : Nat) (bg : Int32), p + k = N → post (zI (sk B N p : Int), zI (sk B N p : Int)) → wpX11_blanks_0 post (zI (N : Int)) B (k + 1) (zI (p : Int)) bg := by
    intro k
    induction k with
    | zero =>
      intro p bg e h
      unfold wpX11_blanks_0
      refine sr_isAt1 hN (by omega) ?_
      unfold isSg sk at *
      rw [decide_eq_false (fun q => by omega)]
      rw [ru_end (by omega)] at h
      exact ⟨fun _ => h, fun q => absurd rfl q⟩
    | succ k ih =>
      intro p bg e h
      unfold wpX11_blanks_0
      refine sr_isAt1 hN (by omega) ?_
      unfold isSg sk at *
      by_cases e2 : B p = 32
      · rw [decide_eq_true ⟨by omega, e2⟩]
        rw [ru_go (by omega) (by unfold bBl; rw [decide_eq_true_eq]; exact e2)] at h
        refine ⟨fun q => absurd q (by decide), fun _ v3 e3 => ?_⟩
        rw [e3, zS]
        exact ih (p + 1) bg (by omega) h
      · rw [decide_eq_false (fun q => e2 q.2)]
        rw [ru_no (by unfold bBl; rw [decide_eq_true_eq]; exact e2)] at h
        exact ⟨fun _ => h, fun q => absurd rfl q⟩
  exact ⟨N - p + 1, key (N - p) p bg (by omega) h⟩
theorem sr_letters {post : (Int32 × Int32) → Prop} {p : Nat} {bg : Int32} (hN : N ≤ 400) (hp : p ≤ N) (h : post (zI (ru (bLe B) N (sk B N p) : Int), zI (sk B N p : Int))) : wpX11_letters post (zI (N : Int)) B (zI (p : Int)) bg := by
  unfold wpX11_letters
  refine sr_blanks hN hp ?_
  have hs := sk_le (B := B) hp
  have key : ∀ (k p : Nat) (bg : Int32), p + k = N → post (zI (ru (bLe B) N p : Int), bg) → wpX11_letters_4 post (zI (N : Int)) B (k + 1) (zI (p : Int)) bg := by
    intro k
    induction k with
    | zero =>
      intro p bg e h
      unfold wpX11_letters_4
      refine sr_isAt hN (by omega) ?_
      rw [decide_eq_false (fun q => by omega)]
      rw [ru_end (by omega)] at h
      exact ⟨fun _ => h, fun q => absurd rfl q⟩
    | succ k ih =>
      intro p bg e h
      unfold wpX11_letters_4
      refine sr_isAt hN (by omega) ?_
      by_cases e2 : ¬ B p < 97 ∧ ¬ 122 < B p
      · rw [decide_eq_true ⟨by omega, e2⟩]
        rw [ru_go (by omega) (by unfold bLe; rw [decide_eq_true_eq]; exact e2)] at h
        refine ⟨fun q => absurd q (by decide), fun _ v3 e3 => ?_⟩
        rw [e3, zS]
        exact ih (p + 1) bg (by omega) h
      · rw [decide_eq_false (fun q => e2 q.2)]
        rw [ru_no (by unfold bLe; rw [decide_eq_true_eq]; exact e2)] at h
        exact ⟨fun _ => h, fun q => absurd rfl q⟩
  exact ⟨N - sk B N p + 1, key (N - sk B N p) (sk B N p) _ (by omega) h⟩
theorem sr_sign {post : Int32 → (Int32 × Int32) → Prop} {p : Nat} {bg c : Int32} (hN : N ≤ 400) (hp : p ≤ N) (h1 : isSg B N (sk B N p) c = true → post 1 (zI ((sk B N p + 1 : Nat) : Int), zI (sk B N p : Int))) (h0 : isSg B N (sk B N p) c = false → post 0 (zI (sk B N p : Int), zI (sk B N p : Int))) : wpX11_sign post (zI (N : Int)) B (zI (p : Int)) bg c := by
  unfold wpX11_sign
  refine sr_blanks hN hp ?_
  have hs := sk_le (B := B) hp
  refine sr_isAt1 hN hs.2 ?_
  cases e : isSg B N (sk B N p) c with
  | true => exact ⟨fun _ v4 e4 => by rw [e4]; show post 1 (zI (sk B N p : Int) + 1, _); rw [zS]; exact h1 e, fun q => absurd q (by decide)⟩
  | false => exact ⟨fun q => absurd rfl q, fun _ => h0 e⟩
theorem sr_passes {post : Int32 → (Int32 × Int32) → Prop} {p : Nat} {bg : Int32} {w : List Int32} (hw : w.length ≤ 10) (hN : N ≤ 400) (hp : p ≤ N) (h1 : isW B (ru (bLe B) N (sk B N p)) (sk B N p) w = true → post 1 (zI (ru (bLe B) N (sk B N p) : Int), zI (sk B N p : Int))) (h0 : isW B (ru (bLe B) N (sk B N p)) (sk B N p) w = false → post 0 (zI (sk B N p : Int), zI (sk B N p : Int))) : wpX11_passes w post (zI (N : Int)) B (zI (p : Int)) bg := by
  unfold wpX11_passes
  refine sr_letters hN hp ?_
  have hs := sk_le (B := B) hp
  have hr := ru_bd (bLe B) hs.2
  refine sr_isWord hw hr.1 (by omega) ?_
  cases e : isW B (ru (bLe B) N (sk B N p)) (sk B N p) w with
  | true => exact ⟨fun q => absurd q (by decide), fun _ => h1 e⟩
  | false => exact ⟨fun _ => h0 e, fun q => absurd rfl q⟩
theorem isW_nx {p : Nat} {c : Int32} {w : List Int32} (hp : p ≤ N) (hc : ¬ txC c < 97 ∧ ¬ 122 < txC c) : isW B (ru (bLe B) N p) p (c :: w) = isW B (nx B N p) p (c :: w) := by
  by_cases h : p < N ∧ bLe B p = true
  · unfold nx; rw [if_pos h.1, if_pos h.2]
  · have e1 : isW B (ru (bLe B) N p) p (c :: w) = false := by
      unfold isW
      have : ru (bLe B) N p = p := by
        by_cases hl : p < N
        · exact ru_no (fun q => h ⟨hl, q⟩)
        · exact ru_end (by omega)
      rw [this, decide_eq_false (by simp only [List.length_cons]; omega), Bool.false_and]
    have e2 : isW B (nx B N p) p (c :: w) = false := by
      by_cases hl : p < N
      · unfold isW wdB
        rw [decide_eq_false (p := B p = txC c) (fun q => h ⟨hl, by unfold bLe; rw [decide_eq_true_eq, q]; exact hc⟩), Bool.false_and, Bool.and_false]
      · unfold isW nx
        rw [if_neg hl, decide_eq_false (by simp only [List.length_cons]; omega), Bool.false_and]
    rw [e1, e2]
theorem isW_len {q p : Nat} {w : List Int32} (h : isW B q p w = true) : q - p = w.length := by
  unfold isW at h
  rw [Bool.and_eq_true, decide_eq_true_eq] at h
  exact h.1
end
