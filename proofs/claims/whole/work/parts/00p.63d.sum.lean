def rpt (B : Nat → Int32) (N p : Nat) : Res := if -7 ≤ (prt B N p).1 then (true, sk B N (nx B N p), [(prt B N p).1], [(prt B N p).2]) else (false, p, [], [])
theorem ff_ {P : Prop} (h : false = true) : P := Bool.noConfusion h
theorem tf_ {P : Prop} (h : true = false) : P := Bool.noConfusion h
section
variable {B : Nat → Int32} {N : Nat}
theorem pws_no {q p : Nat} (h : q = p) : pwO B q p pws = (-8, -1) := by
  have key : ∀ l : List (List Int32 × Int32 × Int32), (∀ x ∈ l, 0 < x.1.length) → pwO B q p l = (-8, -1) := by
    intro l
    induction l with
    | nil => intro _; rfl
    | cons x xs ih =>
      intro hl
      unfold pwO
      rw [if_neg, ih (fun y hy => hl y (List.mem_cons_of_mem _ hy))]
      intro e
      have := isW_len e
      have := hl x (List.mem_cons_self ..)
      omega
  exact key pws (by decide)
theorem pwO_nx {p : Nat} (hp : p ≤ N) : ∀ l : List (List Int32 × Int32 × Int32), (∀ x ∈ l, ∃ c w, x.1 = c :: w ∧ ¬ txC c < 97 ∧ ¬ 122 < txC c) → pwO B (ru (bLe B) N p) p l = pwO B (nx B N p) p l := by
  intro l
  induction l with
  | nil => intro _; rfl
  | cons x xs ih =>
    intro h
    obtain ⟨c, w, e, hc⟩ := h x (List.mem_cons_self ..)
    unfold pwO
    rw [e, isW_nx hp hc, ih (fun y hy => h y (List.mem_cons_of_mem _ hy))]
theorem pws_ok : ∀ x ∈ pws, ∃ c w, x.1 = c :: w ∧ ¬ txC c < 97 ∧ ¬ 122 < txC c := by
  intro x hx
  unfold pws at hx
  simp only [List.mem_cons, List.not_mem_nil, or_false] at hx
  rcases hx with e | e | e | e | e | e | e <;> rw [e] <;> exact ⟨_, _, rfl, by decide, by decide⟩
theorem pws_lt {p q : Nat} : (pwO B q p pws).2 < 0 ↔ (pwO B q p pws).1 < -7 := by
  refine pwO_lt pws ?_
  intro x hx
  unfold pws at hx
  simp only [List.mem_cons, List.not_mem_nil, or_false] at hx
  rcases hx with e | e | e | e | e | e | e <;> rw [e] <;> decide
theorem n7 {x : Int32} : -7 ≤ x ↔ ¬ x < -7 := by
  rw [Int32.lt_iff_toInt_lt, Int32.le_iff_toInt_le]; omega
theorem sr_part {p : Nat} (hN : N ≤ 400) : RC (fun post q bg st v => wpX11_readPart post (zI (N : Int)) B q bg st v) B N p (rpt B N p) := by
  intro post q bg acc v hq hsk hv hl h1 h0
  show wpX11_readPart post (zI (N : Int)) B (zI (q : Int)) bg (zI (acc.length : Int)) v
  have hp : p ≤ N := by rw [← hsk]; exact (sk_le hq).2
  have hr := ru_bd (bLe B) hp
  unfold wpX11_readPart
  refine sr_letters hN hq ?_
  rw [hsk]
  rw [zN_eq (by omega)]
  refine ⟨fun hne => ?_, fun heq => ?_⟩
  · -- letters
    have hlt : p < N := Classical.byContradiction fun z => hne (ru_end (by omega))
    have hle : bLe B p = true := Classical.byContradiction fun z => hne (ru_no z)
    have enx : nx B N p = ru (bLe B) N p := by unfold nx; rw [if_pos hlt, if_pos hle]
    have hnm : ¬ isNm B N p 7 = true := by
      unfold isNm dn
      rw [ru_no (bLe_dg hle), decide_eq_true_eq]; omega
    have ep := prt_wd hnm
    rw [enx] at ep
    have go : wpX11_readPart_128 post (zI (N : Int)) B (zI (ru (bLe B) N p : Int)) (zI (p : Int)) (zI (acc.length : Int)) v (pwO B (ru (bLe B) N p) p pws).2 := by
      unfold wpX11_readPart_128
      refine sr_emits hv (by omega) (fun v' hv' hf => ?_)
      unfold wpX11_readPart_135
      refine ⟨fun z => ?_, fun z => ?_⟩
      · unfold rpt at h0
        rw [ep, if_neg (fun w => n7.mp w (pws_lt.mp z))] at h0
        exact h0 rfl _ _ _ hf
      · have hk : -7 ≤ (pwO B (ru (bLe B) N p) p pws).1 := n7.mpr (fun w => z (pws_lt.mpr w))
        unfold rpt at h1
        rw [ep, if_pos hk, enx] at h1
        exact h1 rfl _ _ _ hr.2 rfl hv' hf
    unfold pws pwO pwO pwO pwO pwO pwO pwO pwO at go
    refine wp_word (fun post => sr_isWord (by decide) hr.1 (by omega)) (fun e => ?_) (fun e => by rw [if_pos e] at go; exact go)
    rw [if_neg (by rw [e]; decide)] at go
    refine wp_word (fun post => sr_isWord (by decide) hr.1 (by omega)) (fun e => ?_) (fun e => by rw [if_pos e] at go; exact go)
    rw [if_neg (by rw [e]; decide)] at go
    refine wp_word (fun post => sr_isWord (by decide) hr.1 (by omega)) (fun e => ?_) (fun e => by rw [if_pos e] at go; exact go)
    rw [if_neg (by rw [e]; decide)] at go
    refine wp_word (fun post => sr_isWord (by decide) hr.1 (by omega)) (fun e => ?_) (fun e => by rw [if_pos e] at go; exact go)
    rw [if_neg (by rw [e]; decide)] at go
    refine wp_word (fun post => sr_isWord (by decide) hr.1 (by omega)) (fun e => ?_) (fun e => by rw [if_pos e] at go; exact go)
    rw [if_neg (by rw [e]; decide)] at go
    refine wp_word (fun post => sr_isWord (by decide) hr.1 (by omega)) (fun e => ?_) (fun e => by rw [if_pos e] at go; exact go)
    rw [if_neg (by rw [e]; decide)] at go
    refine wp_word (fun post => sr_isWord (by decide) hr.1 (by omega)) (fun e => ?_) (fun e => by rw [if_pos e] at go; exact go)
    rw [if_neg (by rw [e]; decide)] at go
    exact go
  · -- figures
    rw [heq]
    have esp : sk B N p = p := by rw [← hsk]; exact sk_sk hq
    refine sr_figures (m := 7) (hi := zI ((9999999 : Nat) : Int)) hN hp (by decide) ?_
    rw [esp, fg_all hp (by decide) (by decide) (by decide)]
    by_cases hnm : isNm B N p 7 = true
    · rw [if_pos hnm]
      have ep := prt_nm hnm
      obtain ⟨z, ez, z0, z1⟩ := vl_bd hp (by decide) hnm
      have z1 : z < 10000000 := z1
      have hk : -7 ≤ vl B N p := by rw [ez, show (-7 : Int32) = zI (-7) from rfl, zI_le (by omega)]; omega
      have hk2 : ¬ vl B N p < 0 := by rw [ez, show (0 : Int32) = zI 0 from rfl, zI_lt (by omega)]; omega
      refine sr_emits hv (by omega) (fun v' hv' hf => ?_)
      unfold wpX11_readPart_135
      refine ⟨fun w => absurd w hk2, fun _ => ?_⟩
      unfold rpt at h1
      rw [ep, if_pos hk, (nm_nx hp hnm).2] at h1
      exact h1 rfl _ _ _ (ru_bd (bDg B) hp).2 rfl hv' hf
    · rw [if_neg hnm]
      have ep := prt_wd hnm
      have ew : pwO B (nx B N p) p pws = (-8, -1) := by
        rw [← pwO_nx hp pws pws_ok]; exact pws_no heq
      rw [ew] at ep
      refine sr_emits hv (by omega) (fun v' hv' hf => ?_)
      unfold wpX11_readPart_135
      refine ⟨fun _ => ?_, fun w => absurd (by decide) w⟩
      unfold rpt at h0
      rw [ep, if_neg (by decide)] at h0
      exact h0 rfl _ _ _ hf
theorem pwO_sem {p q : Nat} : ∀ l : List (List Int32 × Int32 × Int32), (∀ x ∈ l, ∃ j : Nat, j < 7 ∧ x.2.1 = zI (-1 - (j : Int)) ∧ x.2.2 = zI (j : Int)) → (∀ x ∈ l, 0 < x.1.length) → -7 ≤ (pwO B q p l).1 → p < q ∧ ∃ j : Nat, j < 7 ∧ (pwO B q p l).1 = zI (-1 - (j : Int)) ∧ (pwO B q p l).2 = zI (j : Int) := by
  intro l
  induction l with
  | nil => intro _ _ h; exact absurd h (by unfold pwO; decide)
  | cons x xs ih =>
    intro h hl h7
    unfold pwO at h7 ⊢
    by_cases e : isW B q p x.1 = true
    · rw [if_pos e] at h7 ⊢
      have := isW_len e
      have := hl x (List.mem_cons_self ..)
      exact ⟨by omega, h x (List.mem_cons_self ..)⟩
    · rw [if_neg e] at h7 ⊢; exact ih (fun y hy => h y (List.mem_cons_of_mem _ hy)) (fun y hy => hl y (List.mem_cons_of_mem _ hy)) h7
theorem pws_j : ∀ x ∈ pws, ∃ j : Nat, j < 7 ∧ x.2.1 = zI (-1 - (j : Int)) ∧ x.2.2 = zI (j : Int) := by
  intro x hx
  unfold pws at hx
  simp only [List.mem_cons, List.not_mem_nil, or_false] at hx
  rcases hx with e | e | e | e | e | e | e <;> rw [e]
  · exact ⟨0, by decide, rfl, rfl⟩
  · exact ⟨1, by decide, rfl, rfl⟩
  · exact ⟨2, by decide, rfl, rfl⟩
  · exact ⟨3, by decide, rfl, rfl⟩
  · exact ⟨4, by decide, rfl, rfl⟩
  · exact ⟨5, by decide, rfl, rfl⟩
  · exact ⟨6, by decide, rfl, rfl⟩
theorem prt_sem {p : Nat} (hp : p ≤ N) (h : -7 ≤ (prt B N p).1) : p < N ∧ ∃ val : (Nat → Int32) → Int32, ∀ F, (∀ s l t, Ce F [(prt B N p).1] (s, l, t) (s + val F, l, t)) ∧ ∀ a, Re F [(prt B N p).2] a (val F :: a) := by
  by_cases hnm : isNm B N p 7 = true
  · have ep := prt_nm hnm
    obtain ⟨z, ez, z0, z1⟩ := vl_bd hp (by decide) hnm
    have z1 : z < 10000000 := z1
    have hk2 : ¬ vl B N p < 0 := by rw [ez, show (0 : Int32) = zI 0 from rfl, zI_lt (by omega)]; omega
    rw [ep]
    exact ⟨(nm_nx hp hnm).1, fun _ => vl B N p, fun F => ⟨fun s l t => Ce.num hk2, fun a => Re.told⟩⟩
  · have ep := prt_wd hnm
    rw [ep] at h ⊢
    obtain ⟨hlt, j, hj, e1, e2⟩ := pwO_sem pws pws_j (by decide) h
    have hn : p < N := Classical.byContradiction fun z => by unfold nx at hlt; rw [if_neg z] at hlt; omega
    rw [e1, e2]
    exact ⟨hn, fun F => F j, fun F => ⟨fun s l t => Ce.fact hj rfl, fun a => Re.fact hj⟩⟩
def okS (B : Nat → Int32) (N p : Nat) (r : Res) : Prop := p ≤ r.pos ∧ r.pos ≤ N ∧ sk B N r.pos = r.pos ∧ r.os.length + p ≤ r.pos ∧ r.ss.length + p ≤ r.pos
theorem sumTail (hN : N ≤ 400) : ∀ (k p : Nat), N ≤ p + k → p ≤ N → sk B N p = p → ∃ r : Res,
    (∀ (n c : Nat), k ≤ n → c + 1 ≤ p → CC (fun post s f h b d v => wpX8_isSign (fun (r4 : Int32) (_ : Unit) =>
      (¬ r4 = 0 → wpX8_toNext (fun (u5 : Int32 × Int32 × Int32 × Int32) => ∀ v6 : Int32, v6 = zI (c : Int) + 1 → wpX2_readSum_2 post (zI (N : Int)) B n s f u5.1 u5.2.1 u5.2.2.1 u5.2.2.2 v6) (zI (N : Int)) B h b d v) ∧
      (r4 = 0 → post 1 (s, f, h, b, d, v))) (zI (N : Int)) h B 43) B N p r) ∧
    (∀ (n : Nat), k ≤ n → RC (fun post q bg st v => wpX11_readSum_9 post (zI (N : Int)) B (n + 1) q bg st v) B N p r) ∧
    (r.1 = true → okS B N p r ∧ ∃ val : (Nat → Int32) → Int32, ∀ F, (∀ s l t, Ce F r.os (s, l, t) (s + val F, l, t)) ∧ ∀ x a, Re F r.ss (x :: a) ((x + val F) :: a)) := by
  intro k
  induction k with
  | zero =>
    intro p hk hp hsp
    have hno : isSg B N p 43 = false := by unfold isSg; exact decide_eq_false (fun z => by omega)
    refine ⟨(true, p, [], []), fun n c _ _ => ?_, fun n _ => ?_, fun _ => ⟨⟨Nat.le_refl p, hp, hsp, Nat.le_of_eq (Nat.zero_add p), Nat.le_of_eq (Nat.zero_add p)⟩, fun _ => 0, fun F => ⟨fun s l t => ?_, fun x a => ?_⟩⟩⟩
    · intro post acc f hf hl h1 h0
      refine wp_word' (fun post hh => sp_isSign hN hp hh) (fun _ => ?_) (fun e => absurd (hno.symm.trans e) (by decide))
      have := h1 rfl f (by rw [List.append_nil]; exact hf)
      rw [List.append_nil] at this
      exact this
    · intro post q bg acc v hq hsk hv hl h1 h0
      show wpX11_readSum_9 post (zI (N : Int)) B (n + 1) (zI (q : Int)) bg (zI (acc.length : Int)) v
      unfold wpX11_readSum_9
      refine sr_sign hN hq (fun e => ?_) (fun e => ⟨fun _ => ?_, fun z => absurd rfl z⟩)
      · rw [hsk, hno] at e; exact absurd e (by decide)
      · have := h1 rfl p (zI (p : Int)) v hp hsp (by rw [List.append_nil]; exact hv) Fr.rfl'
        rw [List.append_nil] at this
        rw [hsk]; exact this
    · rw [Int32.add_zero]; exact Ce.nil _
    · rw [Int32.add_zero]; exact Re.nil _
  | succ k ih =>
    intro p hk hp hsp
    cases hsg : isSg B N p 43 with
    | false =>
      refine ⟨(true, p, [], []), fun n c _ _ => ?_, fun n _ => ?_, fun _ => ⟨⟨Nat.le_refl p, hp, hsp, Nat.le_of_eq (Nat.zero_add p), Nat.le_of_eq (Nat.zero_add p)⟩, fun _ => 0, fun F => ⟨fun s l t => ?_, fun x a => ?_⟩⟩⟩
      · intro post acc f hf hl h1 h0
        refine wp_word' (fun post hh => sp_isSign hN hp hh) (fun _ => ?_) (fun e => absurd (hsg.symm.trans e) (by decide))
        have := h1 rfl f (by rw [List.append_nil]; exact hf)
        rw [List.append_nil] at this
        exact this
      · intro post q bg acc v hq hsk hv hl h1 h0
        show wpX11_readSum_9 post (zI (N : Int)) B (n + 1) (zI (q : Int)) bg (zI (acc.length : Int)) v
        unfold wpX11_readSum_9
        refine sr_sign hN hq (fun e => ?_) (fun e => ⟨fun _ => ?_, fun z => absurd rfl z⟩)
        · rw [hsk, hsg] at e; exact absurd e (by decide)
        · have := h1 rfl p (zI (p : Int)) v hp hsp (by rw [List.append_nil]; exact hv) Fr.rfl'
          rw [List.append_nil] at this
          rw [hsk]; exact this
      · rw [Int32.add_zero]; exact Ce.nil _
      · rw [Int32.add_zero]; exact Re.nil _
    | true =>
      have hlt : p < N := by unfold isSg at hsg; rw [decide_eq_true_eq] at hsg; exact hsg.1
      have hb : B p = 43 := by unfold isSg at hsg; rw [decide_eq_true_eq] at hsg; exact hsg.2
      have enx : nx B N p = p + 1 := by
        unfold nx
        rw [if_pos hlt, if_neg (by unfold bLe; rw [hb]; decide), if_neg (by unfold bDg; rw [hb]; decide)]
      have hs1 := sk_le (B := B) (N := N) (p := p + 1) (by omega)
      have hp2 : sk B N (sk B N (p + 1)) = sk B N (p + 1) := sk_sk (by omega)
      generalize hq2 : sk B N (p + 1) = p2 at hs1 hp2
      by_cases h7 : -7 ≤ (prt B N p2).1
      · obtain ⟨hlt2, val2, hval2⟩ := prt_sem hs1.2 h7
        have hn2 := nx_bd (B := B) hlt2
        have hs3 := sk_le (B := B) (N := N) (p := nx B N p2) hn2.2
        have hp3 : sk B N (sk B N (nx B N p2)) = sk B N (nx B N p2) := sk_sk hn2.2
        have erpt : rpt B N p2 = (true, sk B N (nx B N p2), [(prt B N p2).1], [(prt B N p2).2]) := by unfold rpt; rw [if_pos h7]
        generalize hq3 : sk B N (nx B N p2) = p3 at hs3 hp3 erpt
        obtain ⟨r, hC, hR, hS⟩ := ih p3 (by omega) hs3.2 hp3
        refine ⟨(r.1, r.pos, (prt B N p2).1 :: r.os, (prt B N p2).2 :: (8, 0) :: r.ss), fun n c hn hc => ?_, fun n hn => ?_, fun h => ?_⟩
        · intro post acc f hf hl h1 h0
          refine wp_word' (fun post hh => sp_isSign hN hp hh) (fun e => absurd (e.symm.trans hsg) (by decide)) (fun _ => ?_)
          show wpX8_toNext _ (zI (N : Int)) B _ (zI (nx B N p : Int)) _ _
          rw [enx]
          refine sp_toNext hN (by omega) ?_
          rw [hq2]
          intro v6 e6
          rw [e6, zS]
          obtain ⟨n', en⟩ : ∃ n', n = n' + 1 := ⟨n - 1, by omega⟩
          rw [en]
          unfold wpX2_readSum_2
          rw [show (400 : Int32) = zI ((400 : Nat) : Int) from rfl, zN_le (by omega)]
          refine ⟨fun z => absurd z (by omega), fun _ => sp_part hN hs1.2 ?_⟩
          unfold wpX2_readSum_29
          refine ⟨fun _ => ?_, fun z => absurd h7 z⟩
          refine sp_give hf (by omega) (fun f' hf' => ?_)
          show wpX8_toNext _ (zI (N : Int)) B _ (zI (nx B N p2 : Int)) _ _
          refine sp_toNext hN hn2.2 ?_
          rw [hq3]
          have := hC n' (c + 1) (by omega) (by omega) post (acc ++ [(prt B N p2).1]) f' hf' (by rw [List.length_append, List.length_singleton]; omega)
          refine this (fun hr f'' hf'' => ?_) (fun hr => h0 hr)
          have := h1 hr f'' (by rw [List.append_assoc] at hf''; exact hf'')
          rw [List.append_assoc]
          exact this
        · intro post q bg acc v hq hsk hv hl h1 h0
          show wpX11_readSum_9 post (zI (N : Int)) B (n + 1) (zI (q : Int)) bg (zI (acc.length : Int)) v
          unfold wpX11_readSum_9
          refine sr_sign hN hq (fun e => ?_) (fun e => ?_)
          · refine ⟨fun z => absurd z (by decide), fun _ => ?_⟩
            rw [hsk]
            refine sr_part (p := p2) hN _ (p + 1) _ acc v (by omega) hq2 hv (by omega) (fun _ => ?_) (fun z => ?_)
            · rw [erpt]
              intro q' bg' v' hq' hsk' hv' hf'
              refine ⟨fun _ => ?_, fun z => absurd z (by decide)⟩
              refine sr_emits hv' (by rw [List.length_append, List.length_singleton]; omega) (fun v'' hv'' hf'' => ?_)
              obtain ⟨n', en⟩ : ∃ n', n = n' + 1 := ⟨n - 1, by omega⟩
              rw [en]
              refine hR n' (by omega) post q' bg' (acc ++ [(prt B N p2).2] ++ [(8, 0)]) v'' hq' hsk' hv'' (by rw [List.length_append, List.length_append, List.length_singleton, List.length_singleton]; omega) (fun hr q3 bg3 v3 hq3' hsk3 hv3 hf3 => ?_) (fun hr q3 s3 v3 hf3 => ?_)
              · have := h1 hr q3 bg3 v3 hq3' hsk3 (by rw [List.append_assoc, List.append_assoc] at hv3; exact hv3) ((hf'.trans hf'').trans hf3)
                rw [List.append_assoc, List.append_assoc]
                exact this
              · exact h0 hr _ _ _ ((hf'.trans hf'').trans hf3)
            · rw [erpt] at z; exact tf_ z
          · rw [hsk, hsg] at e; exact absurd e (by decide)
        · obtain ⟨⟨o1, o2, o3, o4, o5⟩, val, hval⟩ := hS h
          refine ⟨⟨by show p ≤ r.pos; omega, o2, o3, by show (List.length (_ :: r.os)) + p ≤ r.pos; rw [List.length_cons]; omega, by show (List.length (_ :: _ :: r.ss)) + p ≤ r.pos; rw [List.length_cons, List.length_cons]; omega⟩, fun F => val2 F + val F, fun F => ⟨fun s l t => ?_, fun x a => ?_⟩⟩
          · have := ((hval2 F).1 s l t).app ((hval F).1 (s + val2 F) l t)
            rw [Int32.add_assoc] at this
            exact this
          · have e1 : Re F [((8 : Int32), (0 : Int32))] (val2 F :: x :: a) ((x + val2 F) :: a) := Re.bin (c := 8) (by decide) (by decide)
            have := (((hval2 F).2 (x :: a)).app e1).app ((hval F).2 (x + val2 F) a)
            rw [Int32.add_assoc] at this
            exact this
      · have erpt : rpt B N p2 = (false, p2, [], []) := by unfold rpt; rw [if_neg h7]
        refine ⟨(false, p2, [], []), fun n c hn hc => ?_, fun n hn => ?_, fun h => ff_ h⟩
        · intro post acc f hf hl h1 h0
          refine wp_word' (fun post hh => sp_isSign hN hp hh) (fun e => absurd (e.symm.trans hsg) (by decide)) (fun _ => ?_)
          show wpX8_toNext _ (zI (N : Int)) B _ (zI (nx B N p : Int)) _ _
          rw [enx]
          refine sp_toNext hN (by omega) ?_
          rw [hq2]
          intro v6 e6
          rw [e6, zS]
          obtain ⟨n', en⟩ : ∃ n', n = n' + 1 := ⟨n - 1, by omega⟩
          rw [en]
          unfold wpX2_readSum_2
          rw [show (400 : Int32) = zI ((400 : Nat) : Int) from rfl, zN_le (by omega)]
          refine ⟨fun z => absurd z (by omega), fun _ => sp_part hN hs1.2 ?_⟩
          unfold wpX2_readSum_29
          exact ⟨fun z => absurd z h7, fun _ => h0 rfl _ _ _ _ _⟩
        · intro post q bg acc v hq hsk hv hl h1 h0
          show wpX11_readSum_9 post (zI (N : Int)) B (n + 1) (zI (q : Int)) bg (zI (acc.length : Int)) v
          unfold wpX11_readSum_9
          refine sr_sign hN hq (fun e => ?_) (fun e => ?_)
          · refine ⟨fun z => absurd z (by decide), fun _ => ?_⟩
            rw [hsk]
            refine sr_part (p := p2) hN _ (p + 1) _ acc v (by omega) hq2 hv (by omega) (fun z => ?_) (fun _ => ?_)
            · rw [erpt] at z; exact ff_ z
            · rw [erpt]
              intro q' s' v' hf'
              exact ⟨fun z => absurd rfl z, fun _ => h0 rfl _ _ _ hf'⟩
          · rw [hsk, hsg] at e; exact absurd e (by decide)
end
