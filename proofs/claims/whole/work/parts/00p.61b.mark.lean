def Mk.add (k : Mk) (wh mi x y : Int) : Mk := (k.n + 1, fun a => if a = k.n then wh else k.wh a, fun a => if a = k.n then mi else k.mi a, fun a => if a = k.n then x else k.x a, fun a => if a = k.n then y else k.y a)
def okm (a b c : Int) : Prop := (0 ≤ a ∧ a ≤ 999) ∧ (0 ≤ b ∧ b ≤ 999) ∧ 0 ≤ c ∧ c ≤ 999
theorem Mk.add_ok {k : Mk} (hk : k.Ok) (h : k.n < 20) {q a b c : Int} (hq : q = 0 ∨ q = 1) (ho : okm a b c) : (k.add q a b c).Ok := by
  refine ⟨?_, fun j h0 h1 => ?_⟩
  · have := hk.1; show 0 ≤ k.n + 1 ∧ k.n + 1 ≤ 20; omega
  · have h1 : j < k.n + 1 := h1
    show ((if j = k.n then q else k.wh j) = 0 ∨ (if j = k.n then q else k.wh j) = 1) ∧ (0 ≤ (if j = k.n then a else k.mi j) ∧ (if j = k.n then a else k.mi j) ≤ 999) ∧ (0 ≤ (if j = k.n then b else k.x j) ∧ (if j = k.n then b else k.x j) ≤ 999) ∧ 0 ≤ (if j = k.n then c else k.y j) ∧ (if j = k.n then c else k.y j) ≤ 999
    by_cases e : j = k.n
    · rw [if_pos e, if_pos e, if_pos e, if_pos e]; exact ⟨hq, ho⟩
    · rw [if_neg e, if_neg e, if_neg e, if_neg e]; exact hk.2 j h0 (by omega)
theorem CM.add {k : Mk} {mi xs ys wh : Nat → Int32} {sz : Int32} (hk : k.Ok) (hc : CM k mi xs ys wh sz) (q a b c : Int) : CM (k.add q a b c) (upd mi k.n.toNat (zI a)) (upd xs k.n.toNat (zI b)) (upd ys k.n.toNat (zI c)) (upd wh k.n.toNat (zI q)) (zI (k.n + 1)) := by
  have h0 := hk.1.1
  refine ⟨rfl, fun j h1 h2 => ?_⟩
  have h2 : j < k.n + 1 := h2
  show upd mi k.n.toNat (zI a) j.toNat = zI (if j = k.n then a else k.mi j) ∧ upd xs k.n.toNat (zI b) j.toNat = zI (if j = k.n then b else k.x j) ∧ upd ys k.n.toNat (zI c) j.toNat = zI (if j = k.n then c else k.y j) ∧ upd wh k.n.toNat (zI q) j.toNat = zI (if j = k.n then q else k.wh j)
  rw [upd_eq, upd_eq, upd_eq, upd_eq]
  by_cases e : j = k.n
  · have e2 : j.toNat = k.n.toNat := by rw [e]
    rw [if_pos e, if_pos e, if_pos e, if_pos e, if_pos e2, if_pos e2, if_pos e2, if_pos e2]
    exact ⟨rfl, rfl, rfl, rfl⟩
  · have e2 : ¬ j.toNat = k.n.toNat := by omega
    rw [if_neg e, if_neg e, if_neg e, if_neg e, if_neg e2, if_neg e2, if_neg e2, if_neg e2]
    exact hc.2 j h1 (by omega)
section
variable {k : Mk} {mi xs ys wh v : Nat → Int32} {sz : Int32}
theorem sp_mark {post : Int32 → (Int32 × (Nat → Int32) × (Nat → Int32) × (Nat → Int32) × (Nat → Int32)) → Prop} {postX : String → (Int32 × (Nat → Int32) × (Nat → Int32) × (Nat → Int32) × (Nat → Int32)) → Prop} {p0 : Int32} {a b c : Int} (hk : k.Ok) (hc : CM k mi xs ys wh sz)
    (ha : -2147483648 ≤ a ∧ a < 2147483648) (hb : -2147483648 ≤ b ∧ b < 2147483648) (hd : -2147483648 ≤ c ∧ c < 2147483648)
    (x1 : ¬ okm a b c → postX "java/lang/IllegalArgumentException" (sz, mi, xs, ys, wh)) (x2 : okm a b c → ¬ k.n < 20 → postX "java/lang/UnsupportedOperationException" (sz, mi, xs, ys, wh))
    (hp : okm a b c → k.n < 20 → post (zI k.n) (zI (k.n + 1), upd mi k.n.toNat (zI a), upd xs k.n.toNat (zI b), upd ys k.n.toNat (zI c), upd wh k.n.toNat (zI (if p0 = 0 then 0 else 1)))) : wpX10_mark post postX sz mi xs ys wh p0 (zI a) (zI b) (zI c) := by
  have h20 := hk.1
  have es := hc.1
  subst es
  unfold wpX10_mark wpX10_mark_31
  rw [show (999 : Int32) = zI 999 from rfl]
  refine sp_isOutside ha (by omega) (fun h => ⟨fun _ => x1 fun q => h q.1, fun e => absurd e (by decide)⟩) (fun h1 => ⟨fun e => absurd rfl e, fun _ => ?_⟩)
  refine sp_isOutside hb (by omega) (fun h => ⟨fun _ => x1 fun q => h q.2.1, fun e => absurd e (by decide)⟩) (fun h2 => ⟨fun e => absurd rfl e, fun _ => ?_⟩)
  refine sp_isOutside hd (by omega) (fun h => ⟨fun e => absurd e (by decide), fun _ => x1 fun q => h q.2.2⟩) (fun h3 => ⟨fun _ => ?_, fun e => absurd rfl e⟩)
  have ho : okm a b c := ⟨h1, h2, h3⟩
  rw [show (20 : Int32) = zI 20 from rfl, zI_lt (by omega)]
  refine ⟨fun h => ?_, x2 ho⟩
  have hp := hp ho h
  have i : vp_in (zI k.n) 20 := zI_in (by omega)
  have en : (zI k.n).toNatClampNeg = k.n.toNat := zI_nat (by omega)
  unfold wpX3_add wpX3_add_46
  rw [en]
  refine ⟨i, i, i, fun h0 => ⟨i, fun v1 e1 => ?_⟩, fun h0 => ⟨i, fun v1 e1 => ?_⟩⟩
  · rw [e1, show (1 : Int32) = zI 1 from rfl, zI_add]
    rw [if_pos h0] at hp
    exact hp
  · rw [e1, show zI k.n + (1 : Int32) = zI (k.n + 1) from zI_add k.n 1]
    rw [if_neg h0] at hp
    exact hp
end
