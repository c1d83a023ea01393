abbrev Res : Type := Bool × Nat × List Int32 × List (Int32 × Int32)
abbrev Res.pos (r : Res) : Nat := r.2.1
abbrev Res.os (r : Res) : List Int32 := r.2.2.1
abbrev Res.ss (r : Res) : List (Int32 × Int32) := r.2.2.2
def Lh (f : Nat → Int32) (acc : List Int32) : Prop := ∀ (k : Nat) (h : k < acc.length), f k = acc[k]
theorem Lh.push {f : Nat → Int32} {acc : List Int32} (h : Lh f acc) (o : Int32) : Lh (upd f acc.length o) (acc ++ [o]) := by
  intro k hk
  rw [upd_eq]
  rw [List.length_append, List.length_singleton] at hk
  by_cases e : k = acc.length
  · rw [if_pos e, List.getElem_append_right (by omega)]
    simp [e]
  · rw [if_neg e, List.getElem_append_left (by omega)]
    exact h k (by omega)
def Ld (v : Nat → Int32) (b : Nat) (acc : List (Int32 × Int32)) : Prop := ∀ (k : Nat) (h : k < acc.length), v (b + 2 * k) = acc[k].1 ∧ v (b + 2 * k + 1) = acc[k].2
theorem Ld.push {v : Nat → Int32} {b : Nat} {acc : List (Int32 × Int32)} (h : Ld v b acc) (s n : Int32) : Ld (upd (upd v (b + 2 * acc.length) s) (b + 2 * acc.length + 1) n) b (acc ++ [(s, n)]) := by
  intro k hk
  rw [List.length_append, List.length_singleton] at hk
  rw [upd_eq, upd_eq, upd_eq, upd_eq]
  by_cases e : k = acc.length
  · rw [List.getElem_append_right (by omega), if_neg (by omega), if_pos (by omega), if_pos (by omega)]
    simp [e]
  · rw [List.getElem_append_left (by omega), if_neg (by omega), if_neg (by omega), if_neg (by omega), if_neg (by omega)]
    exact h k (by omega)
def Fr (v v' : Nat → Int32) : Prop := ∀ j, j < 1708 → v' j = v j
theorem Fr.rfl' {v : Nat → Int32} : Fr v v := fun _ _ => rfl
theorem Fr.trans {v v' v'' : Nat → Int32} (h : Fr v v') (h' : Fr v' v'') : Fr v v'' := fun j hj => (h' j hj).trans (h j hj)
theorem sp_give {post : (Int32 × (Nat → Int32)) → Prop} {f : Nat → Int32} {acc : List Int32} {o : Int32} (hf : Lh f acc) (hl : acc.length < 400) (h : ∀ f', Lh f' (acc ++ [o]) → post (zI ((acc ++ [o]).length : Int), f')) : wpX2_give post (zI (acc.length : Int)) f o := by
  unfold wpX2_give
  rw [show (400 : Int32) = zI ((400 : Nat) : Int) from rfl, zN_le (by omega), zN (by omega), zS]
  refine ⟨fun e => absurd e (by omega), fun _ => ⟨zN_in (by omega), fun v1 e1 => ?_⟩⟩
  have := h _ (hf.push o)
  rw [List.length_append, List.length_singleton] at this
  rw [e1]; exact this
theorem sr_emits {post : (Int32 × (Nat → Int32)) → Prop} {v : Nat → Int32} {acc : List (Int32 × Int32)} {s n : Int32} (hv : Ld v 1708 acc) (hl : acc.length < 400) (h : ∀ v', Ld v' 1708 (acc ++ [(s, n)]) → Fr v v' → post (zI ((acc ++ [(s, n)]).length : Int), v')) : wpX11_emits post (zI (acc.length : Int)) v s n := by
  unfold wpX11_emits
  have e0 : (1708 : Int32) + (2 : Int32) * zI (acc.length : Int) = zI ((1708 + 2 * acc.length : Nat) : Int) := by
    rw [show (1708 : Int32) = zI 1708 from rfl, show (2 : Int32) = zI 2 from rfl, zI_mul, zI_add]; congr 1
  rw [e0, zS, zN (by omega), zN (by omega), zS]
  refine ⟨zN_in (by omega), zN_in (by omega), fun v1 e1 => ?_⟩
  have := h _ (hv.push s n) (fun j hj => by rw [upd_eq, upd_eq, if_neg (by omega), if_neg (by omega)])
  rw [List.length_append, List.length_singleton] at this
  rw [e1]; exact this
def CC (W : (Int32 → (Int32 × (Nat → Int32) × Int32 × Int32 × Int32 × Int32) → Prop) → Int32 → (Nat → Int32) → Int32 → Int32 → Int32 → Int32 → Prop) (B : Nat → Int32) (N p : Nat) (r : Res) : Prop :=
  ∀ (post : Int32 → (Int32 × (Nat → Int32) × Int32 × Int32 × Int32 × Int32) → Prop) (acc : List Int32) (f : Nat → Int32), Lh f acc → acc.length + 2 ≤ p →
    (r.1 = true → ∀ f', Lh f' (acc ++ r.os) → post 1 (zI ((acc ++ r.os).length : Int), f', tk B N r.pos)) →
    (r.1 = false → ∀ s' f' b d v, post 0 (s', f', zI (r.pos : Int), b, d, v)) →
    W post (zI (acc.length : Int)) f (tk B N p).1 (tk B N p).2.1 (tk B N p).2.2.1 (tk B N p).2.2.2
def RC (W : (Int32 → (Int32 × Int32 × Int32 × (Nat → Int32)) → Prop) → Int32 → Int32 → Int32 → (Nat → Int32) → Prop) (B : Nat → Int32) (N p : Nat) (r : Res) : Prop :=
  ∀ (post : Int32 → (Int32 × Int32 × Int32 × (Nat → Int32)) → Prop) (q : Nat) (bg : Int32) (acc : List (Int32 × Int32)) (v : Nat → Int32), q ≤ N → sk B N q = p → Ld v 1708 acc → acc.length + 2 ≤ p →
    (r.1 = true → ∀ (q' : Nat) (bg' : Int32) v', q' ≤ N → sk B N q' = r.pos → Ld v' 1708 (acc ++ r.ss) → Fr v v' → post 1 (zI (q' : Int), bg', zI ((acc ++ r.ss).length : Int), v')) →
    (r.1 = false → ∀ q' s' v', Fr v v' → post 0 (q', zI (r.pos : Int), s', v')) →
    W post (zI (q : Int)) bg (zI (acc.length : Int)) v
def pws : List (List Int32 × Int32 × Int32) := [([109, 97, 110], -1, 0), ([100, 111, 103], -2, 1), ([102, 97, 114], -3, 2), ([109, 120], -4, 3), ([109, 121], -5, 4), ([100, 120], -6, 5), ([100, 121], -7, 6)]
def pwO (B : Nat → Int32) (q p : Nat) : List (List Int32 × Int32 × Int32) → Int32 × Int32
  | [] => (-8, -1)
  | x :: xs => if isW B q p x.1 = true then x.2 else pwO B q p xs
def prt (B : Nat → Int32) (N p : Nat) : Int32 × Int32 × Int32 := if isNm B N p 7 = true then (vl B N p, 7, vl B N p) else ((pwO B (nx B N p) p pws).1, (pwO B (nx B N p) p pws).2, 0)
section
variable {B : Nat → Int32} {N : Nat}
theorem wp_word {W : (Int32 → Unit → Prop) → Prop} {b : Bool} (hW : ∀ post : Int32 → Unit → Prop, post (b32 b) () → W post) {P Q : Prop} (h0 : b = false → P) (h1 : b = true → Q) : W (fun r _ => (r = 0 → P) ∧ (¬ r = 0 → Q)) := by
  refine hW _ ?_
  cases b with
  | true => exact ⟨fun e => absurd e (by decide), fun _ => h1 rfl⟩
  | false => exact ⟨fun _ => h0 rfl, fun e => absurd rfl e⟩
theorem wp_word' {W : (Int32 → Unit → Prop) → Prop} {b : Bool} (hW : ∀ post : Int32 → Unit → Prop, post (b32 b) () → W post) {P Q : Prop} (h0 : b = false → P) (h1 : b = true → Q) : W (fun r _ => (¬ r = 0 → Q) ∧ (r = 0 → P)) := by
  refine hW _ ?_
  cases b with
  | true => exact ⟨fun _ => h1 rfl, fun e => absurd e (by decide)⟩
  | false => exact ⟨fun e => absurd rfl e, fun _ => h0 rfl⟩
theorem sp_partByWord {post : Int32 → Unit → Prop} {p q : Nat} (hpq : p ≤ q) (hq : q ≤ 400) (h : post (pwO B q p pws).1 ()) : wpX2_partByWord post (zI (p : Int)) (zI (q : Int)) B := by
  unfold wpX2_partByWord
  unfold pws pwO pwO pwO pwO pwO pwO pwO pwO at h
  refine wp_word (fun post => sp_isWord (by decide) hpq hq) (fun e => ?_) (fun e => by rw [if_pos e] at h; exact h)
  rw [if_neg (by rw [e]; decide)] at h
  refine wp_word (fun post => sp_isWord (by decide) hpq hq) (fun e => ?_) (fun e => by rw [if_pos e] at h; exact h)
  rw [if_neg (by rw [e]; decide)] at h
  refine wp_word (fun post => sp_isWord (by decide) hpq hq) (fun e => ?_) (fun e => by rw [if_pos e] at h; exact h)
  rw [if_neg (by rw [e]; decide)] at h
  refine wp_word (fun post => sp_isWord (by decide) hpq hq) (fun e => ?_) (fun e => by rw [if_pos e] at h; exact h)
  rw [if_neg (by rw [e]; decide)] at h
  refine wp_word (fun post => sp_isWord (by decide) hpq hq) (fun e => ?_) (fun e => by rw [if_pos e] at h; exact h)
  rw [if_neg (by rw [e]; decide)] at h
  refine wp_word (fun post => sp_isWord (by decide) hpq hq) (fun e => ?_) (fun e => by rw [if_pos e] at h; exact h)
  rw [if_neg (by rw [e]; decide)] at h
  refine wp_word (fun post => sp_isWord (by decide) hpq hq) (fun e => ?_) (fun e => by rw [if_pos e] at h; exact h)
  rw [if_neg (by rw [e]; decide)] at h
  exact h
theorem sp_part {K : Int32 → Prop} {p : Nat} (hN : N ≤ 400) (hp : p ≤ N) (h : K (prt B N p).1) : wpX8_isNumber (fun (r2 : Int32) (_ : Unit) => (r2 = 0 → wpX2_partByWord (fun (r4 : Int32) (_ : Unit) => K r4) (tk B N p).1 (tk B N p).2.1 B) ∧ (¬ r2 = 0 → K (tk B N p).2.2.2)) (tk B N p).2.2.1 7 := by
  have hn := nx_le (B := B) hp
  refine wp_word (fun post hh => sp_isNumber (m := 7) hN hp (by decide) hh) (fun e => ?_) (fun e => ?_)
  · unfold prt at h
    rw [if_neg (by rw [e]; decide)] at h
    exact sp_partByWord hn.1 (by omega) h
  · unfold prt at h
    rw [if_pos e] at h
    exact h
theorem pwO_lt {p q : Nat} : ∀ l : List (List Int32 × Int32 × Int32), (∀ x ∈ l, x.2.2 < 0 ↔ x.2.1 < -7) → ((pwO B q p l).2 < 0 ↔ (pwO B q p l).1 < -7) := by
  intro l
  induction l with
  | nil => intro _; unfold pwO; decide
  | cons x xs ih =>
    intro h
    unfold pwO
    by_cases e : isW B q p x.1 = true
    · rw [if_pos e]; exact h x (List.mem_cons_self ..)
    · rw [if_neg e]; exact ih (fun y hy => h y (List.mem_cons_of_mem _ hy))
theorem prt_nm {p : Nat} (h : isNm B N p 7 = true) : prt B N p = (vl B N p, 7, vl B N p) := by unfold prt; rw [if_pos h]
theorem prt_wd {p : Nat} (h : ¬ isNm B N p 7 = true) : prt B N p = ((pwO B (nx B N p) p pws).1, (pwO B (nx B N p) p pws).2, 0) := by unfold prt; rw [if_neg h]
end
