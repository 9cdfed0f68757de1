-- ORBITS: how they are found
def ud {α : Type} (f : Nat → α) (k : Nat) (v : α) : Nat → α := fun x => if x = k then v else f x
theorem ud_s {α : Type} {f : Nat → α} {k : Nat} {v : α} : ud f k v k = v := if_pos rfl
theorem ud_n {α : Type} {f : Nat → α} {k x : Nat} {v : α} (h : x ≠ k) : ud f k v x = f x := if_neg h
abbrev OS : Type := (Nat → Option Nat) × (Nat → Nat) × Nat
def ent (o : Nat) (st : OS) (x : Nat) : OS := if st.1 x = none then (ud st.1 x (some o), ud st.2.1 st.2.2 x, st.2.2 + 1) else st
def entW (Ts : Nat → Nat → Nat) (o x : Nat) : Nat → OS → OS
  | 0, st => st
  | w + 1, st => ent o (entW Ts o x w st) (mv (Ts w) x)
def spr (Ts : Nat → Nat → Nat) (w o : Nat) : Nat → Nat → OS → OS
  | 0, _, st => st
  | f + 1, h, st => if h < st.2.2 then spr Ts w o f (h + 1) (entW Ts o (st.2.1 h) w st) else st
def fnd1 (Ts : Nat → Nat → Nat) (w s : Nat) (a : (Nat → Option Nat) × (Nat → Nat)) : (Nat → Option Nat) × (Nat → Nat) :=
  if a.1 s = none then ((spr Ts w (a.2 (bc s)) 257 0 (ent (a.2 (bc s)) (a.1, fun _ => 0, 0) s)).1, ud a.2 (bc s) (a.2 (bc s) + 1)) else a
def fndN (Ts : Nat → Nat → Nat) (w : Nat) : Nat → (Nat → Option Nat) × (Nat → Nat)
  | 0 => (fun _ => none, fun _ => 0)
  | s + 1 => fnd1 Ts w s (fndN Ts w s)
-- bits
theorem tb_shl {t x : Nat} : (1 <<< t).testBit x = decide (t = x) := by
  rw [Nat.shiftLeft_eq, Nat.one_mul, Nat.testBit_two_pow]
theorem bc_or {x t : Nat} (ht : t < 10) (h : x.testBit t = false) : bc (x ||| 1 <<< t) = bc x + 1 := by
  unfold bc
  have e : cN (fun p => (x ||| 1 <<< t).testBit p) 10 = cN (up (fun p => x.testBit p) t true) 10 := cN_ext fun p _ => by
    rw [Nat.testBit_or, tb_shl]
    by_cases e : t = p
    · subst e
      rw [up_s]
      simp
    · rw [up_n (fun h => e h.symm), decide_eq_false e, Bool.or_false]
  have e2 := cN_up (B := fun p => x.testBit p) (b := true) ht
  rw [e]
  have e3 : ((fun p => x.testBit p) t).toNat = 0 := by
    show (x.testBit t).toNat = 0
    rw [h]; rfl
  rw [e3] at e2
  have e4 : true.toNat = 1 := rfl
  omega
theorem mvN_bits {T : Nat → Nat} {s x : Nat} : ∀ {n : Nat}, (mvN T s n).testBit x = true → ∃ p, p < n ∧ s.testBit p = true ∧ T p = x
  | 0, h => by
    have h : (0 : Nat).testBit x = true := h
    rw [Nat.zero_testBit] at h
    cases h
  | n + 1, h => by
    unfold mvN at h
    split at h
    · next hb =>
      rw [Nat.testBit_or, Bool.or_eq_true] at h
      rcases h with h | h
      · obtain ⟨p, h1, h2, h3⟩ := mvN_bits h
        exact ⟨p, by omega, h2, h3⟩
      · rw [tb_shl] at h
        exact ⟨n, by omega, hb, of_decide_eq_true h⟩
    · obtain ⟨p, h1, h2, h3⟩ := mvN_bits h
      exact ⟨p, by omega, h2, h3⟩
theorem bc_mvN {T : Nat → Nat} {s b : Nat} (hb : b ≤ 10) : ∀ {n : Nat}, (∀ p, p < n → T p < b) → (∀ p q, p < n → q < n → T p = T q → p = q) → bc (mvN T s n) = cN (fun p => s.testBit p) n
  | 0, _, _ => by
    show bc 0 = 0
    decide
  | n + 1, h1, h2 => by
    have ih := bc_mvN (s := s) hb (fun p (hp : p < n) => h1 p (by omega)) (fun p q hp hq => h2 p q (by omega) (by omega))
    unfold mvN
    split
    · next hs =>
      have hf : (mvN T s n).testBit (T n) = false := by
        rw [Bool.eq_false_iff]
        intro hx
        obtain ⟨p, g1, _, g3⟩ := mvN_bits hx
        have := h2 p n (by omega) (by omega) g3
        omega
      rw [bc_or (by have := h1 n (by omega); omega) hf, ih, cN_t hs]
    · next hs =>
      rw [ih, cN_f (by simpa using hs)]
theorem mvN_ge {T : Nat → Nat} {s n : Nat} (hs : s < 2 ^ n) : ∀ k, mvN T s (n + k) = mvN T s n
  | 0 => rfl
  | k + 1 => by
    show (if s.testBit (n + k) = true then _ else mvN T s (n + k)) = _
    have : s.testBit (n + k) = false := Nat.testBit_lt_two_pow (Nat.lt_of_lt_of_le hs (Nat.pow_le_pow_right (by decide) (by omega)))
    rw [this, if_neg (by decide)]
    exact mvN_ge hs k
theorem mv_n {T : Nat → Nat} {s n : Nat} (hn : n ≤ 8) (hs : s < 2 ^ n) : mv T s = mvN T s n := by
  have := mvN_ge (T := T) hs (8 - n)
  have e : n + (8 - n) = 8 := by omega
  rw [e] at this
  exact this
theorem bc_n {s n : Nat} (hn : n ≤ 10) (hs : s < 2 ^ n) : bc s = cN (fun p => s.testBit p) n := by
  unfold bc
  have g : ∀ k, cN (fun p => s.testBit p) (n + k) = cN (fun p => s.testBit p) n := by
    intro k
    induction k with
    | zero => rfl
    | succ k ih =>
      have : s.testBit (n + k) = false := Nat.testBit_lt_two_pow (Nat.lt_of_lt_of_le hs (Nat.pow_le_pow_right (by decide) (by omega)))
      show cN (fun p => s.testBit p) (n + k) + (s.testBit (n + k)).toNat = _
      rw [ih, this]
      rfl
  have := g (10 - n)
  have e : n + (10 - n) = 10 := by omega
  rw [e] at this
  exact this
def okT (n : Nat) (T : Nat → Nat) : Prop := (∀ p, p < n → T p < n) ∧ ∀ p q, p < n → q < n → T p = T q → p = q
theorem mv_ok {T : Nat → Nat} {s n : Nat} (hn : n ≤ 8) (hT : okT n T) (hs : s < 2 ^ n) : mv T s < 2 ^ n ∧ bc (mv T s) = bc s := by
  rw [mv_n hn hs]
  exact ⟨mvN_lt hT.1, by rw [bc_mvN (show n ≤ 10 by omega) hT.1 hT.2, bc_n (by omega) hs]⟩
theorem bc_lt {s n : Nat} (hn : n ≤ 10) (hs : s < 2 ^ n) : bc s ≤ n := by
  rw [bc_n hn hs]
  exact cN_le _ _
-- the state of the search: bounds
def qB (st : OS) : Prop := st.2.2 + cN (fun x => (st.1 x).isNone) 256 ≤ 256
theorem ent_qB {o x : Nat} {st : OS} (hx : x < 256) (h : qB st) : qB (ent o st x) := by
  unfold ent
  split
  · next e =>
    unfold qB at h ⊢
    have e2 : cN (fun y => (ud st.1 x (some o) y).isNone) 256 = cN (up (fun y => (st.1 y).isNone) x false) 256 := cN_ext fun y _ => by
      by_cases e3 : y = x
      · subst e3; rw [ud_s, up_s]; rfl
      · rw [ud_n e3, up_n e3]
    have e4 := cN_up (B := fun y => (st.1 y).isNone) (b := false) hx
    have e5 : ((fun y => (st.1 y).isNone) x).toNat = 1 := by
      show ((st.1 x).isNone).toNat = 1
      rw [e]; rfl
    rw [e5] at e4
    have e6 : false.toNat = 0 := rfl
    show st.2.2 + 1 + cN (fun y => (ud st.1 x (some o) y).isNone) 256 ≤ 256
    rw [e2]
    omega
  · exact h
theorem ent_len {o x : Nat} {st : OS} : st.2.2 ≤ (ent o st x).2.2 := by
  unfold ent
  split
  · exact Nat.le_succ _
  · exact Nat.le_refl _
theorem ent_q {o x j : Nat} {st : OS} (hj : j < st.2.2) : (ent o st x).2.1 j = st.2.1 j := by
  unfold ent
  split
  · exact ud_n (by omega)
  · rfl
theorem entW_len {Ts : Nat → Nat → Nat} {o x : Nat} {st : OS} : ∀ (w : Nat), st.2.2 ≤ (entW Ts o x w st).2.2
  | 0 => Nat.le_refl _
  | w + 1 => Nat.le_trans (entW_len w) ent_len
theorem entW_q {Ts : Nat → Nat → Nat} {o x j : Nat} {st : OS} (hj : j < st.2.2) : ∀ (w : Nat), (entW Ts o x w st).2.1 j = st.2.1 j
  | 0 => rfl
  | w + 1 => by
    show (ent o (entW Ts o x w st) (mv (Ts w) x)).2.1 j = _
    rw [ent_q (Nat.lt_of_lt_of_le hj (entW_len w)), entW_q hj w]
theorem entW_qB {Ts : Nat → Nat → Nat} {o x : Nat} {st : OS} (h : qB st) : ∀ (w : Nat), (∀ i, i < w → mv (Ts i) x < 256) → qB (entW Ts o x w st)
  | 0, _ => h
  | w + 1, hw => ent_qB (hw w (by omega)) (entW_qB h w (fun i hi => hw i (by omega)))
theorem ent_qv {o x b : Nat} {st : OS} (hx : x < b) (h : ∀ j, j < st.2.2 → st.2.1 j < b) : ∀ j, j < (ent o st x).2.2 → (ent o st x).2.1 j < b := by
  unfold ent
  split
  · intro j hj
    by_cases e : j = st.2.2
    · subst e
      show ud st.2.1 st.2.2 x st.2.2 < b
      rw [ud_s]; exact hx
    · have hj : j < st.2.2 + 1 := hj
      show ud st.2.1 st.2.2 x j < b
      rw [ud_n e]
      exact h j (by omega)
  · exact h
theorem entW_qv {Ts : Nat → Nat → Nat} {o x b : Nat} {st : OS} (h : ∀ j, j < st.2.2 → st.2.1 j < b) : ∀ (w : Nat), (∀ i, i < w → mv (Ts i) x < b) → ∀ j, j < (entW Ts o x w st).2.2 → (entW Ts o x w st).2.1 j < b
  | 0, _ => h
  | w + 1, hw => ent_qv (hw w (by omega)) (entW_qv h w (fun i hi => hw i (by omega)))
theorem qB_0 {num : Nat → Option Nat} : qB (num, fun _ => 0, 0) := by
  unfold qB
  have := cN_le (fun x => (num x).isNone) 256
  show 0 + cN (fun x => (num x).isNone) 256 ≤ 256
  omega
-- what a search keeps
def qN (n k o : Nat) (n0 : Nat → Option Nat) (st : OS) : Prop := (∀ j, j < st.2.2 → st.2.1 j < 2 ^ n ∧ bc (st.2.1 j) = k) ∧ (∀ x, n0 x ≠ none → st.1 x = n0 x) ∧ ∀ x, n0 x = none → st.1 x ≠ none → st.1 x = some o ∧ x < 2 ^ n ∧ bc x = k
theorem ent_qN {n k o x : Nat} {n0 : Nat → Option Nat} {st : OS} (hx : x < 2 ^ n) (hk : bc x = k) (h : qN n k o n0 st) : qN n k o n0 (ent o st x) := by
  unfold ent
  split
  · next e =>
    refine ⟨fun j hj => ?_, fun y hy => ?_, fun y hy hz => ?_⟩
    · by_cases e2 : j = st.2.2
      · subst e2
        show ud st.2.1 st.2.2 x st.2.2 < _ ∧ bc (ud st.2.1 st.2.2 x st.2.2) = _
        rw [ud_s]; exact ⟨hx, hk⟩
      · show ud st.2.1 st.2.2 x j < _ ∧ bc (ud st.2.1 st.2.2 x j) = _
        rw [ud_n e2]
        have hj : j < st.2.2 + 1 := hj
        exact h.1 j (by omega)
    · have e3 := h.2.1 y hy
      by_cases e2 : y = x
      · subst e2; rw [e] at e3; exact absurd e3.symm hy
      · exact (ud_n e2).trans e3
    · by_cases e2 : y = x
      · subst e2; exact ⟨ud_s, hx, hk⟩
      · have e4 : ud st.1 x (some o) y = st.1 y := ud_n e2
        have hz : ud st.1 x (some o) y ≠ none := hz
        rw [e4] at hz
        show ud st.1 x (some o) y = _ ∧ _
        rw [e4]
        exact h.2.2 y hy hz
  · exact h
theorem entW_qN {Ts : Nat → Nat → Nat} {n k o x : Nat} {n0 : Nat → Option Nat} {st : OS} (h : qN n k o n0 st) : ∀ (w : Nat), (∀ i, i < w → mv (Ts i) x < 2 ^ n ∧ bc (mv (Ts i) x) = k) → qN n k o n0 (entW Ts o x w st)
  | 0, _ => h
  | w + 1, hw => ent_qN (hw w (by omega)).1 (hw w (by omega)).2 (entW_qN h w (fun i hi => hw i (by omega)))
theorem spr_qN {Ts : Nat → Nat → Nat} {n k o w : Nat} {n0 : Nat → Option Nat} (hn : n ≤ 8) (hT : ∀ i, i < w → okT n (Ts i)) : ∀ (f h : Nat) (st : OS), qN n k o n0 st → qN n k o n0 (spr Ts w o f h st)
  | 0, _, _, g => g
  | f + 1, h, st, g => by
    unfold spr
    split
    · next hh =>
      refine spr_qN hn hT f _ _ (entW_qN g w (fun i hi => ?_))
      have := g.1 h hh
      have g2 := mv_ok hn (hT i hi) this.1
      exact ⟨g2.1, g2.2.trans this.2⟩
    · exact g
theorem ent_has {o x y : Nat} {st : OS} (h : st.1 y ≠ none) : (ent o st x).1 y = st.1 y := by
  unfold ent
  split
  · next e =>
    refine ud_n (fun e2 => ?_)
    subst e2; exact h e
  · rfl
theorem entW_has {Ts : Nat → Nat → Nat} {o x y : Nat} {st : OS} (h : st.1 y ≠ none) : ∀ (w : Nat), (entW Ts o x w st).1 y = st.1 y
  | 0 => rfl
  | w + 1 => by
    have ih := entW_has (Ts := Ts) (o := o) (x := x) h w
    show (ent o (entW Ts o x w st) (mv (Ts w) x)).1 y = _
    rw [ent_has (by rw [ih]; exact h), ih]
theorem spr_has {Ts : Nat → Nat → Nat} {w o y : Nat} : ∀ (f h : Nat) (st : OS), st.1 y ≠ none → (spr Ts w o f h st).1 y = st.1 y
  | 0, _, _, _ => rfl
  | f + 1, h, st, g => by
    unfold spr
    split
    · have e := entW_has (Ts := Ts) (o := o) (x := st.2.1 h) g w
      rw [spr_has f _ _ (by rw [e]; exact g), e]
    · rfl
/-- what is found: numbers below the amounts, an own set for each number, no more than there are sets -/
def oF (n s : Nat) (a : (Nat → Option Nat) × (Nat → Nat)) : Prop := (∀ x o, a.1 x = some o → x < 2 ^ n ∧ o < a.2 (bc x)) ∧ (∀ x, x < s → a.1 x ≠ none) ∧ (∀ k o, o < a.2 k → ∃ x, x < 2 ^ n ∧ bc x = k ∧ a.1 x = some o) ∧ ∀ k, a.2 k ≤ cN (fun x => bc x == k) s
theorem fnd1_ok {Ts : Nat → Nat → Nat} {n w s : Nat} {a : (Nat → Option Nat) × (Nat → Nat)} (hn : n ≤ 8) (hT : ∀ i, i < w → okT n (Ts i)) (hs : s < 2 ^ n) (h : oF n s a) : oF n (s + 1) (fnd1 Ts w s a) := by
  unfold fnd1
  split
  · next e =>
    have hq : qN n (bc s) (a.2 (bc s)) a.1 (ent (a.2 (bc s)) (a.1, fun _ => 0, 0) s) := ent_qN hs rfl ⟨fun j hj => absurd hj (Nat.not_lt_zero j), fun _ _ => rfl, fun _ h1 h2 => absurd h1 h2⟩
    have hF := spr_qN hn hT 257 0 _ hq
    have hh : (spr Ts w (a.2 (bc s)) 257 0 (ent (a.2 (bc s)) (a.1, fun _ => 0, 0) s)).1 s = some (a.2 (bc s)) := by
      have e2 : (ent (a.2 (bc s)) (a.1, fun _ => 0, 0) s).1 s = some (a.2 (bc s)) := by
        unfold ent
        rw [if_pos (show (a.1, (fun _ => 0 : Nat → Nat), 0).1 s = none from e)]
        exact ud_s
      rw [spr_has 257 0 _ (by rw [e2]; exact fun h => by cases h), e2]
    generalize (spr Ts w (a.2 (bc s)) 257 0 (ent (a.2 (bc s)) (a.1, fun _ => 0, 0) s)) = st at hF hh
    obtain ⟨h1, h2, h3, h4⟩ := h
    refine ⟨fun x o hx => ?_, fun x hx => ?_, fun k o ho => ?_, fun k => ?_⟩
    · have hx : st.1 x = some o := hx
      show x < 2 ^ n ∧ o < ud a.2 (bc s) (a.2 (bc s) + 1) (bc x)
      by_cases e3 : a.1 x = none
      · obtain ⟨g1, g2, g3⟩ := hF.2.2 x e3 (by rw [hx]; exact fun h => by cases h)
        rw [hx] at g1
        rw [g3, ud_s, Option.some.inj g1]
        exact ⟨g2, Nat.lt_succ_self _⟩
      · have g1 := hF.2.1 x e3
        rw [hx] at g1
        have g2 := h1 x o g1.symm
        refine ⟨g2.1, ?_⟩
        by_cases e4 : bc x = bc s
        · rw [e4] at g2 ⊢
          rw [ud_s]; omega
        · rw [ud_n e4]; exact g2.2
    · show st.1 x ≠ none
      by_cases e3 : x = s
      · subst e3; rw [hh]; exact fun h => by cases h
      · have g := h2 x (by omega)
        rw [hF.2.1 x g]; exact g
    · have ho : o < ud a.2 (bc s) (a.2 (bc s) + 1) k := ho
      show ∃ x, x < 2 ^ n ∧ bc x = k ∧ st.1 x = some o
      have old : o < a.2 k → ∃ x, x < 2 ^ n ∧ bc x = k ∧ st.1 x = some o := by
        intro ho
        obtain ⟨x, g1, g2, g3⟩ := h3 k o ho
        exact ⟨x, g1, g2, by rw [hF.2.1 x (by rw [g3]; exact fun h => by cases h)]; exact g3⟩
      by_cases e4 : k = bc s
      · subst e4
        rw [ud_s] at ho
        by_cases e5 : o = a.2 (bc s)
        · subst e5; exact ⟨s, hs, rfl, hh⟩
        · exact old (by omega)
      · rw [ud_n e4] at ho
        exact old ho
    · show ud a.2 (bc s) (a.2 (bc s) + 1) k ≤ cN _ s + _
      have := h4 k
      by_cases e4 : k = bc s
      · subst e4
        rw [ud_s]
        have e5 : ((fun x => bc x == bc s) s) = true := beq_self_eq_true _
        rw [e5]
        exact Nat.succ_le_succ this
      · rw [ud_n e4]
        omega
  · next e =>
    obtain ⟨h1, h2, h3, h4⟩ := h
    refine ⟨h1, fun x hx => ?_, h3, fun k => Nat.le_trans (h4 k) (cN_mono (Nat.le_succ s))⟩
    by_cases e3 : x = s
    · subst e3; exact e
    · exact h2 x (by omega)
theorem fndN_ok {Ts : Nat → Nat → Nat} {n w : Nat} (hn : n ≤ 8) (hT : ∀ i, i < w → okT n (Ts i)) : ∀ (s : Nat), s ≤ 2 ^ n → oF n s (fndN Ts w s)
  | 0, _ => ⟨fun x o h => (by cases h), fun x h => absurd h (Nat.not_lt_zero x), fun k o h => absurd h (Nat.not_lt_zero o), fun k => Nat.le_refl 0⟩
  | s + 1, h => fnd1_ok hn hT (by omega) (fndN_ok hn hT s (by omega))
theorem amt_70 : ∀ k, k < 11 → cN (fun x => bc x == k) 256 ≤ 70 := by decide +kernel
