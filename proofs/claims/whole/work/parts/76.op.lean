-- THE START: so many steps of the machine; the first cell, which no step of the constructors looks into
def mm_st (d : Nat) (C : mm_C) (k : Nat) : Nat → mm_S → Option mm_S
  | 0, s => some s
  | n + 1, (pc, la, st, h) => match decode (mm_b k) pc with
    | .ok (i, q) => if mm_ln i q then match mm_rt1 k i st with
        | some _ => none
        | none => match mm_x d C k i q pc la st h with
          | some (pc', ls', st', h') => if h.1.length ≤ h'.1.length ∧ mm_sl h.1 ≤ mm_sl h'.1 then mm_st d C k n (pc', ls', st', h') else none
          | none => none
      else none
    | .error _ => none
def mm_hc0 : mm_H := ([(98, 0)], fun _ _ => none, fun _ _ => 0, fun _ _ => 0)
def opH (N : Nat) (xs : Nat → Int32) (h : mm_H) : mm_H := ((100, N) :: h.1.tail, h.2.1, fun a k => if a = 0 then xs k else h.2.2.1 a k, h.2.2.2)
def okH (h : mm_H) : Prop := h.1[0]? = some (98, 0) ∧ (∀ a c q : Nat, h.1[a]? = some (c, q) → c < 12 → q = mm_fn c) ∧ ∀ a k : Nat, (∀ c q : Nat, h.1[a]? = some (c, q) → q ≤ k ∨ 12 ≤ c ∧ c ≤ 102) → h.2.1 a k = none
theorem okH0 : okH mm_hc0 := by
  refine ⟨rfl, fun a c q h h2 => ?_, fun a k _ => rfl⟩
  cases a with
  | zero =>
    have h : some ((98, 0) : Nat × Nat) = some (c, q) := h
    cases h
    omega
  | succ a =>
    have h : (none : Option (Nat × Nat)) = some (c, q) := h
    cases h
section OP
variable {N : Nat} {xs : Nat → Int32} {o : Nat} {i : Instr} {n pc pc' : Nat} {la la' : mm_L} {st st' : List Value} {h h' : mm_H}
theorem op_0 (hk : okH h) : ∃ T, h.1 = (98, 0) :: T := by
  have := hk.1
  cases e : h.1 with
  | nil => rw [e] at this; cases this
  | cons x T =>
    rw [e] at this
    have : some x = some (98, 0) := this
    cases this
    exact ⟨T, rfl⟩
theorem op_at (hk : okH h) {a : Nat} (ha : a ≠ 0) : (opH N xs h).1[a]? = h.1[a]? := by
  obtain ⟨T, e⟩ := op_0 hk
  unfold opH
  rw [e]
  cases a with
  | zero => exact absurd rfl ha
  | succ a => rfl
theorem op_len (hk : okH h) : (opH N xs h).1.length = h.1.length := by
  obtain ⟨T, e⟩ := op_0 hk
  unfold opH
  rw [e]
  rfl
theorem op_sl (hk : okH h) : mm_sl (opH N xs h).1 = N + mm_sl h.1 := by
  obtain ⟨T, e⟩ := op_0 hk
  unfold opH
  rw [e]
  unfold mm_sl
  simp
theorem op_ne (hk : okH h) {a c q : Nat} (e : h.1[a]? = some (c, q)) (hc : c ≠ 98) : a ≠ 0 := by
  intro e0
  rw [e0, hk.1] at e
  cases e
  exact hc rfl
theorem op_i {a k : Nat} (ha : a ≠ 0) : (opH N xs h).2.2.1 a k = h.2.2.1 a k := if_neg ha
theorem op_u2 {a k : Nat} {v : Int32} (ha : a ≠ 0) : mm_u2 (opH N xs h).2.2.1 a k v = fun b j => if b = 0 then xs j else mm_u2 h.2.2.1 a k v b j := by
  funext b j
  unfold mm_u2 opH
  by_cases e : b = 0
  · simp only []
    rw [if_neg (by omega), if_pos e, if_pos e]
  · simp only [if_neg e]
theorem op_row {a : Nat} {g : Nat → Int32} (ha : a ≠ 0) : mm_row (opH N xs h).2.2.1 a g = fun b j => if b = 0 then xs j else mm_row h.2.2.1 a g b j := by
  funext b j
  unfold mm_row opH
  by_cases e : b = 0
  · simp only []
    rw [if_neg (by omega), if_pos e, if_pos e]
  · simp only [if_neg e]
/-- only numbers change -/
theorem op_wI (hk : okH h) (f : Nat → Nat → Int32) (g : Nat → Nat → Int64) : okH (h.1, h.2.1, f, g) := hk
theorem op_of {F : mm_H → Option mm_S} (hk : okH h) (e : ∀ g, F g = (F h).map fun s => (s.1, s.2.1, s.2.2.1, g)) (hx : F h = some (pc', la', st', h')) : okH h' ∧ F (opH N xs h) = some (pc', la', st', opH N xs h') := by
  have e1 := e h
  rw [hx] at e1
  have e1 : some (pc', la', st', h') = some (pc', la', st', h) := e1
  cases e1
  refine ⟨hk, ?_⟩
  rw [e, hx]
  rfl
set_option maxHeartbeats 4000000 in
theorem op_x1 (hk : okH h) (hx : mm_x1 o i n pc la st h = some (pc', la', st', h')) : okH h' ∧ mm_x1 o i n pc la st (opH N xs h) = some (pc', la', st', opH N xs h') := by
  refine op_of (F := mm_x1 o i n pc la st) hk (fun g => ?_) hx
  cases i <;> simp only [mm_x1] <;> repeat' (first | rfl | split)
set_option maxHeartbeats 4000000 in
theorem op_x2 (hk : okH h) (hx : mm_x2 i n pc la st h = some (pc', la', st', h')) : okH h' ∧ mm_x2 i n pc la st (opH N xs h) = some (pc', la', st', opH N xs h') := by
  refine op_of (F := mm_x2 i n pc la st) hk (fun g => ?_) hx
  cases i <;> simp only [mm_x2] <;> repeat' (first | rfl | split)
set_option maxHeartbeats 4000000 in
theorem op_x3 (hk : okH h) (hx : mm_x3 i n pc la st h = some (pc', la', st', h')) : okH h' ∧ mm_x3 i n pc la st (opH N xs h) = some (pc', la', st', opH N xs h') := by
  refine op_of (F := mm_x3 i n pc la st) hk (fun g => ?_) hx
  cases i <;> simp only [mm_x3] <;> repeat' (first | rfl | split)
theorem op_in1 (hk : okH h) {a t : Nat} {j : Int32} (ht : t ≠ 98) (e : mm_in1 h a t j = true) : a ≠ 0 ∧ mm_in1 (opH N xs h) a t j = true := by
  have e0 := e
  unfold mm_in1 at e
  split at e
  · next t' q e1 =>
    have h0 : a ≠ 0 := by
      refine op_ne hk e1 ?_
      intro e2
      subst e2
      rw [Bool.and_eq_true] at e
      exact ht (eq_of_beq e.1).symm
    refine ⟨h0, ?_⟩
    unfold mm_in1 at e0 ⊢
    rw [op_at hk h0]
    exact e0
  · cases e
set_option maxHeartbeats 4000000 in
theorem op_x4 (hk : okH h) (hx : mm_x4 o i n pc la st h = some (pc', la', st', h')) : okH h' ∧ mm_x4 o i n pc la st (opH N xs h) = some (pc', la', st', opH N xs h') := by
  cases i with
  | getfield j =>
    simp only [mm_x4] at hx ⊢
    split at hx
    · next c k a r hlf =>
      split at hx
      · next c' q e1 =>
        split at hx
        · next ec =>
          have hc := (mm_lf_ok hlf).1
          have h0 := op_ne hk e1 (by omega)
          simp only [op_at hk h0, e1]
          rw [if_pos ec]
          split at hx
          · next g1 =>
            cases hx
            rw [if_pos g1]
            exact ⟨hk, rfl⟩
          · next g1 =>
            split at hx
            · cases hx
            · next g2 =>
              cases hx
              rw [if_neg g1, if_neg g2, op_i h0]
              exact ⟨hk, rfl⟩
        · cases hx
      · cases hx
    · cases hx
  | arraylength =>
    simp only [mm_x4] at hx ⊢
    split at hx
    · next a r =>
      split at hx
      · next t q e1 =>
        split at hx
        · next g =>
          cases hx
          have h0 := op_ne hk e1 (by omega)
          simp only [op_at hk h0, e1]
          rw [if_pos g]
          exact ⟨hk, rfl⟩
        · cases hx
      · cases hx
    · cases hx
  | iaload =>
    simp only [mm_x4] at hx ⊢
    split at hx
    · next j a r =>
      split at hx
      · next g =>
        cases hx
        have g2 := op_in1 (N := N) (xs := xs) hk (by decide) g
        rw [if_pos g2.2, op_i g2.1]
        exact ⟨hk, rfl⟩
      · cases hx
    · cases hx
  | baload =>
    simp only [mm_x4] at hx ⊢
    split at hx
    · next j a r =>
      split at hx
      · next g =>
        cases hx
        have g2 := op_in1 (N := N) (xs := xs) hk (by decide) g
        rw [if_pos g2.2, op_i g2.1]
        exact ⟨hk, rfl⟩
      · cases hx
    · cases hx
  | laload =>
    simp only [mm_x4] at hx ⊢
    split at hx
    · next j a r =>
      split at hx
      · next g =>
        cases hx
        have g2 := op_in1 (N := N) (xs := xs) hk (by decide) g
        rw [if_pos g2.2]
        exact ⟨hk, rfl⟩
      · cases hx
    · cases hx
  | aaload =>
    simp only [mm_x4] at hx ⊢
    split at hx
    · next j a r =>
      split at hx
      · next t q e1 =>
        split at hx
        · next g =>
          cases hx
          have h0 := op_ne hk e1 (by omega)
          simp only [op_at hk h0, e1]
          rw [if_pos g]
          exact ⟨hk, rfl⟩
        · cases hx
      · cases hx
    · cases hx
  | _ => exact absurd hx (by simp [mm_x4])
/-- a place in range gets a cell's number -/
theorem op_ref (hk : okH h) {a c q f x : Nat} (e : h.1[a]? = some (c, q)) (hf : f < q) (hc : c < 12 ∨ 102 < c) : okH (h.1, mm_u2 h.2.1 a f (some x), h.2.2) := by
  refine ⟨hk.1, hk.2.1, fun b j hb => ?_⟩
  show mm_u2 h.2.1 a f (some x) b j = none
  unfold mm_u2
  by_cases g : b = a ∧ j = f
  · exfalso
    obtain ⟨g1, g2⟩ := g
    subst g1; subst g2
    have := hb c q e
    omega
  · rw [if_neg g]
    exact hk.2.2 b j hb
set_option maxHeartbeats 4000000 in
theorem op_x5 {k : Nat} (hk : okH h) (hx : mm_x5 k i n pc la st h = some (pc', la', st', h')) : okH h' ∧ mm_x5 k i n pc la st (opH N xs h) = some (pc', la', st', opH N xs h') := by
  cases i with
  | putfield j =>
    simp only [mm_x5] at hx ⊢
    split at hx
    · next c f x a r hlf =>
      split at hx
      · next c' q e1 =>
        split at hx
        · next g =>
          cases hx
          have hc := (mm_lf_ok hlf).1
          have h0 := op_ne hk e1 (by omega)
          simp only [op_at hk h0, e1]
          rw [if_pos g, op_u2 h0]
          exact ⟨hk, rfl⟩
        · cases hx
      · cases hx
    · next c f x a r hlf =>
      split at hx
      · next c' q e1 =>
        split at hx
        · next g =>
          cases hx
          have hc := mm_lf_ok hlf
          have h0 := op_ne hk e1 (by omega)
          simp only [op_at hk h0, e1]
          rw [if_pos g]
          refine ⟨op_ref hk e1 ?_ (by omega), rfl⟩
          have := hk.2.1 a c' q e1 (by omega)
          rw [this, g.1]
          exact hc.2.1
        · cases hx
      · cases hx
    · cases hx
  | iastore =>
    simp only [mm_x5] at hx ⊢
    split at hx
    · next x j a r =>
      split at hx
      · next g =>
        cases hx
        have g2 := op_in1 (N := N) (xs := xs) hk (by decide) g.1
        rw [if_pos ⟨g2.2, g.2⟩, op_u2 g2.1]
        exact ⟨hk, rfl⟩
      · cases hx
    · cases hx
  | bastore =>
    simp only [mm_x5] at hx ⊢
    split at hx
    · next x j a r =>
      split at hx
      · next g =>
        cases hx
        have g2 := op_in1 (N := N) (xs := xs) hk (by decide) g.1
        rw [if_pos ⟨g2.2, g.2⟩, op_u2 g2.1]
        exact ⟨hk, rfl⟩
      · cases hx
    · cases hx
  | lastore =>
    simp only [mm_x5] at hx ⊢
    split at hx
    · next x j a r =>
      split at hx
      · next g =>
        cases hx
        have g2 := op_in1 (N := N) (xs := xs) hk (by decide) g.1
        rw [if_pos ⟨g2.2, g.2⟩]
        exact ⟨hk, rfl⟩
      · cases hx
    · cases hx
  | aastore =>
    simp only [mm_x5] at hx ⊢
    split at hx
    · next x j a r =>
      split at hx
      · next t q c q2 e1 e2 =>
        split at hx
        · next g =>
          cases hx
          have h0 := op_ne hk e1 (by omega)
          have h1 := op_ne hk e2 (by omega)
          simp only [op_at hk h0, op_at hk h1, e1, e2]
          rw [if_pos g]
          exact ⟨op_ref hk e1 (by have := g.2; omega) (by have := g.1; omega), rfl⟩
        · cases hx
      · cases hx
    · cases hx
  | _ => exact absurd hx (by simp [mm_x5])

theorem op_pos (hk : okH h) : 0 < h.1.length := (List.getElem?_eq_some_iff.mp hk.1).1
theorem op_new (hk : okH h) (t q : Nat) : mm_new (opH N xs h) t q = opH N xs (mm_new h t q) := by
  have hl := op_len (N := N) (xs := xs) hk
  have hp := op_pos hk
  obtain ⟨T, e⟩ := op_0 hk
  unfold mm_new
  rw [hl]
  refine Prod.ext ?_ (Prod.ext rfl (Prod.ext ?_ rfl))
  · show (100, N) :: h.1.tail ++ [(t, q)] = (100, N) :: (h.1 ++ [(t, q)]).tail
    rw [e]
    rfl
  · exact op_row (by omega)
theorem op_new2 (hk : okH h) (t q r : Nat) : mm_new2 (opH N xs h) t q r = opH N xs (mm_new2 h t q r) := by
  have hl := op_len (N := N) (xs := xs) hk
  have hp := op_pos hk
  obtain ⟨T, e⟩ := op_0 hk
  unfold mm_new2
  rw [hl]
  refine Prod.ext ?_ (Prod.ext rfl (Prod.ext ?_ rfl))
  · show ((100, N) :: h.1.tail ++ [(t, q)]) ++ List.replicate q (t - 6, r) = (100, N) :: ((h.1 ++ [(t, q)]) ++ List.replicate q (t - 6, r)).tail
    rw [e]
    rfl
  · funext x j
    show (if h.1.length ≤ x then 0 else (if x = 0 then xs j else h.2.2.1 x j)) = if x = 0 then xs j else (if h.1.length ≤ x then 0 else h.2.2.1 x j)
    by_cases g : x = 0
    · rw [if_pos g, if_pos g, if_neg (by omega)]
    · rw [if_neg g, if_neg g]
theorem ok_new (hk : okH h) {t q : Nat} (ht : t < 12 → q = mm_fn t) : okH (mm_new h t q) := by
  have hp := op_pos hk
  refine ⟨?_, fun a c r e h12 => ?_, fun a k hb => ?_⟩
  · show (h.1 ++ [(t, q)])[0]? = _
    rw [List.getElem?_append_left hp]
    exact hk.1
  · have e : (h.1 ++ [(t, q)])[a]? = some (c, r) := e
    by_cases g : a < h.1.length
    · rw [List.getElem?_append_left g] at e
      exact hk.2.1 a c r e h12
    · rw [List.getElem?_append_right (by omega)] at e
      have g2 := (List.getElem?_eq_some_iff.mp e).1
      have g2 : a - h.1.length < 1 := g2
      rw [show a - h.1.length = 0 by omega] at e
      have e : some (t, q) = some (c, r) := e
      cases e
      exact ht h12
  · show mm_row h.2.1 h.1.length (fun _ => none) a k = none
    unfold mm_row
    by_cases g : a = h.1.length
    · rw [if_pos g]
    · rw [if_neg g]
      refine hk.2.2 a k fun c r e => hb c r ?_
      show (h.1 ++ [(t, q)])[a]? = _
      rw [List.getElem?_append_left (List.getElem?_eq_some_iff.mp e).1]
      exact e
theorem ok_new2 (hk : okH h) {t q r : Nat} (ht : 106 ≤ t) : okH (mm_new2 h t q r) := by
  have hp := op_pos hk
  have hl : (h.1 ++ [(t, q)]).length = h.1.length + 1 := by rw [List.length_append]; rfl
  refine ⟨?_, fun a c r2 e h12 => ?_, fun a k hb => ?_⟩
  · show ((h.1 ++ [(t, q)]) ++ List.replicate q (t - 6, r))[0]? = _
    rw [List.getElem?_append_left (by omega), List.getElem?_append_left hp]
    exact hk.1
  · have e : ((h.1 ++ [(t, q)]) ++ List.replicate q (t - 6, r))[a]? = some (c, r2) := e
    by_cases g1 : a < (h.1 ++ [(t, q)]).length
    · rw [List.getElem?_append_left g1] at e
      by_cases g : a < h.1.length
      · rw [List.getElem?_append_left g] at e
        exact hk.2.1 a c r2 e h12
      · rw [List.getElem?_append_right (by omega)] at e
        rw [show a - h.1.length = 0 by omega] at e
        have e : some (t, q) = some (c, r2) := e
        cases e
        omega
    · rw [List.getElem?_append_right (by omega)] at e
      have := List.mem_of_getElem? e
      have := List.eq_of_mem_replicate this
      cases this
      omega
  · show (if a = h.1.length then (if k < q then some (h.1.length + 1 + k) else none) else if h.1.length < a then none else h.2.1 a k) = none
    by_cases g : a = h.1.length
    · rw [if_pos g]
      have : q ≤ k ∨ 12 ≤ t ∧ t ≤ 102 := by
        refine hb t q ?_
        show ((h.1 ++ [(t, q)]) ++ List.replicate q (t - 6, r))[a]? = _
        rw [List.getElem?_append_left (by omega), List.getElem?_append_right (by omega), show a - h.1.length = 0 by omega]
        rfl
      rw [if_neg (by omega)]
    · rw [if_neg g]
      by_cases g2 : h.1.length < a
      · rw [if_pos g2]
      · rw [if_neg g2]
        refine hk.2.2 a k fun c r2 e => hb c r2 ?_
        show ((h.1 ++ [(t, q)]) ++ List.replicate q (t - 6, r))[a]? = _
        have := (List.getElem?_eq_some_iff.mp e).1
        rw [List.getElem?_append_left (by omega), List.getElem?_append_left this]
        exact e
set_option maxHeartbeats 4000000 in
theorem op_x6 (hk : okH h) (hx : mm_x6 o i n pc la st h = some (pc', la', st', h')) : okH h' ∧ mm_x6 o i n pc la st (opH N xs h) = some (pc', la', st', opH N xs h') := by
  cases i with
  | new j =>
    simp only [mm_x6] at hx ⊢
    split at hx
    · next c e =>
      split at hx
      · next g =>
        cases hx
        try simp only
        rw [if_pos g, op_len hk, op_new hk]
        exact ⟨ok_new hk (fun _ => rfl), rfl⟩
      · cases hx
    · cases hx
  | newarray t =>
    simp only [mm_x6] at hx ⊢
    split at hx
    · next x r =>
      split at hx
      · next g =>
        cases hx
        try simp only
        rw [if_pos g, op_len hk, op_new hk]
        refine ⟨ok_new hk (fun g2 => ?_), rfl⟩
        exfalso
        revert g2
        cases t <;> simp [mm_at]
      · cases hx
    · cases hx
  | anewarray j =>
    simp only [mm_x6] at hx ⊢
    split at hx
    · next c x r e =>
      split at hx
      · next g =>
        cases hx
        try simp only
        rw [if_pos g, op_len hk, op_new hk]
        refine ⟨ok_new hk (fun g2 => ?_), rfl⟩
        exfalso
        revert g2
        unfold mm_oa
        split
        · omega
        · split
          · omega
          · split <;> omega
      · cases hx
    · cases hx
  | multianewarray j dm =>
    simp only [mm_x6] at hx ⊢
    split at hx
    · next c x y r e =>
      split at hx
      · next g =>
        cases hx
        try simp only
        rw [if_pos g, op_len hk, op_new2 hk]
        exact ⟨ok_new2 hk g.2.1, rfl⟩
      · cases hx
    · cases hx
  | _ => exact absurd hx (by simp [mm_x6])
def opC (N : Nat) (xs : Nat → Int32) (C : mm_C) : Prop := ∀ k as h r h', okH h → C k as h = some (r, h') → okH h' ∧ C k as (opH N xs h) = some (r, opH N xs h')
theorem op_bk {C : mm_C} (hC : opC N xs C) {k : Nat} {as r : List Value} (hk : okH h) (hx : mm_bk n pc la r (C k as h) = some (pc', la', st', h')) : okH h' ∧ mm_bk n pc la r (C k as (opH N xs h)) = some (pc', la', st', opH N xs h') := by
  obtain ⟨v, e, g1, g2, g3⟩ := mm_bk_ok hx
  obtain ⟨k1, k2⟩ := hC _ _ _ _ _ hk e
  refine ⟨k1, ?_⟩
  rw [k2, g1, g2, g3]
  rfl
set_option maxHeartbeats 4000000 in
theorem op_ac (hk : okH h) (hx : mm_ac n pc la st h = some (pc', la', st', h')) : okH h' ∧ mm_ac n pc la st (opH N xs h) = some (pc', la', st', opH N xs h') := by
  simp only [mm_ac] at hx ⊢
  split at hx
  · next q dp a sp b r =>
    split at hx
    · next t0 n0 t1 n1 e0 e1 =>
      split at hx
      · next g =>
        have h0 := op_ne hk e0 (by omega)
        have h1 := op_ne hk e1 (by omega)
        simp only [op_at hk h0, op_at hk h1, e0, e1]
        rw [if_pos g]
        split at hx
        · next g2 =>
          cases hx
          rw [if_pos g2]
          refine ⟨hk, ?_⟩
          have eb : (opH N xs h).2.2.1 b = h.2.2.1 b := funext fun j => op_i h0
          have ea : (opH N xs h).2.2.1 a = h.2.2.1 a := funext fun j => op_i h1
          rw [eb, ea, op_row h1]
          rfl
        · next g2 =>
          cases hx
          rw [if_neg g2]
          exact ⟨hk, rfl⟩
      · cases hx
    · cases hx
  · cases hx
set_option maxHeartbeats 4000000 in
theorem op_x7 {d : Nat} {C : mm_C} (hC : opC N xs C) (hk : okH h) (hx : mm_x7 d C o i n pc la st h = some (pc', la', st', h')) : okH h' ∧ mm_x7 d C o i n pc la st (opH N xs h) = some (pc', la', st', opH N xs h') := by
  cases i with
  | invokevirtual j =>
    simp only [mm_x7] at hx ⊢
    split at hx
    · next k kd hlm =>
      split at hx
      · next hc =>
        try simp only
        rw [if_pos hc]
        split at hx
        · next as a r hp =>
          split at hx
          · next hc2 =>
            obtain ⟨q, e⟩ := mm_kA_ok rfl hc2.2.1
            have h0 := op_ne hk e (by omega)
            have ek : mm_kA (opH N xs h) a = mm_kA h a := by
              unfold mm_kA
              rw [op_at hk h0]
            try simp only
            rw [ek, if_pos hc2]
            exact op_bk hC hk hx
          · cases hx
        · cases hx
      · cases hx
    · cases hx
  | invokestatic j =>
    simp only [mm_x7] at hx ⊢
    split at hx
    · next k kd hlm =>
      split at hx
      · next hc =>
        try simp only
        rw [if_pos hc]
        split at hx
        · next hkd =>
          rw [if_pos hkd]
          split at hx
          · next as r hp =>
            split at hx
            · next hc2 =>
              try simp only
              rw [if_pos hc2]
              exact op_bk hC hk hx
            · cases hx
          · cases hx
        · next hkd =>
          rw [if_neg hkd]
          split at hx
          · next g4 => rw [if_pos g4]; exact op_ac hk hx
          · next g4 =>
            rw [if_neg g4]
            split at hx
            · next g6 =>
              rw [if_pos g6]
              split at hx
              · split at hx
                · next g =>
                  cases hx
                  try simp only
                  rw [if_pos g]
                  exact ⟨hk, rfl⟩
                · cases hx
              · cases hx
            · next g6 =>
              rw [if_neg g6]
              split at hx
              · next g7 =>
                rw [if_pos g7]
                split at hx
                · split at hx
                  · next g =>
                    cases hx
                    try simp only
                    rw [if_pos g]
                    exact ⟨hk, rfl⟩
                  · cases hx
                · cases hx
              · cases hx
      · cases hx
    · cases hx
  | invokespecial j =>
    simp only [mm_x7] at hx ⊢
    split at hx
    · next k kd hlm =>
      split at hx
      · next hc =>
        try simp only
        rw [if_pos hc]
        split at hx
        · next hkd =>
          rw [if_pos hkd]
          split at hx
          · next as a r hp =>
            split at hx
            · next hc2 =>
              try simp only
              rw [if_pos hc2]
              exact op_bk hC hk hx
            · cases hx
          · cases hx
        · next hkd =>
          rw [if_neg hkd]
          split at hx
          · next g5 =>
            rw [if_pos g5]
            split at hx
            · split at hx
              · next g =>
                cases hx
                try simp only
                rw [if_pos g]
                exact ⟨hk, rfl⟩
              · cases hx
            · cases hx
          · cases hx
      · cases hx
    · cases hx
  | _ => exact absurd hx (by simp [mm_x7])
theorem op_or {F G : mm_H → Option mm_S} (hF : F h = none → (∃ s, G h = some s) → ∀ g, F g = none) (h1 : ∀ pc' la' st' h', F h = some (pc', la', st', h') → okH h' ∧ F (opH N xs h) = some (pc', la', st', opH N xs h')) (h2 : ∀ pc' la' st' h', G h = some (pc', la', st', h') → okH h' ∧ G (opH N xs h) = some (pc', la', st', opH N xs h')) (hx : mm_or (F h) (G h) = some (pc', la', st', h')) : okH h' ∧ mm_or (F (opH N xs h)) (G (opH N xs h)) = some (pc', la', st', opH N xs h') := by
  cases e : F h with
  | some s =>
    rw [e] at hx
    have hx : some s = some (pc', la', st', h') := hx
    cases hx
    obtain ⟨k1, k2⟩ := h1 _ _ _ _ e
    refine ⟨k1, ?_⟩
    rw [k2]
    rfl
  | none =>
    rw [e] at hx
    have hx : G h = some (pc', la', st', h') := hx
    rw [hF e ⟨_, hx⟩]
    exact h2 _ _ _ _ hx
set_option maxHeartbeats 4000000 in
theorem op_n1 (g : mm_H) (e : mm_x1 o i n pc la st h = none) : mm_x1 o i n pc la st g = none := by
  have q : ∀ g, mm_x1 o i n pc la st g = (mm_x1 o i n pc la st h).map fun s => (s.1, s.2.1, s.2.2.1, g) := fun g => by
    cases i <;> simp only [mm_x1] <;> repeat' (first | rfl | split)
  rw [q, e]
  rfl
set_option maxHeartbeats 4000000 in
theorem op_n2 (g : mm_H) (e : mm_x2 i n pc la st h = none) : mm_x2 i n pc la st g = none := by
  have q : ∀ g, mm_x2 i n pc la st g = (mm_x2 i n pc la st h).map fun s => (s.1, s.2.1, s.2.2.1, g) := fun g => by
    cases i <;> simp only [mm_x2] <;> repeat' (first | rfl | split)
  rw [q, e]
  rfl
set_option maxHeartbeats 4000000 in
theorem op_n3 (g : mm_H) (e : mm_x3 i n pc la st h = none) : mm_x3 i n pc la st g = none := by
  have q : ∀ g, mm_x3 i n pc la st g = (mm_x3 i n pc la st h).map fun s => (s.1, s.2.1, s.2.2.1, g) := fun g => by
    cases i <;> simp only [mm_x3] <;> repeat' (first | rfl | split)
  rw [q, e]
  rfl
set_option maxHeartbeats 4000000 in
theorem op_n4 {d k : Nat} {C : mm_C} {s : mm_S} (g : mm_H) (e : mm_or (mm_x5 k i n pc la st h) (mm_or (mm_x6 o i n pc la st h) (mm_x7 d C o i n pc la st h)) = some s) : mm_x4 o i n pc la st g = none := by
  revert e
  cases i <;> first | (exact fun _ => rfl) | (exact fun e => absurd e (by simp [mm_x5, mm_x6, mm_x7, mm_or]))
set_option maxHeartbeats 4000000 in
theorem op_n5 {d k : Nat} {C : mm_C} {s : mm_S} (g : mm_H) (e : mm_or (mm_x6 o i n pc la st h) (mm_x7 d C o i n pc la st h) = some s) : mm_x5 k i n pc la st g = none := by
  revert e
  cases i <;> first | (exact fun _ => rfl) | (exact fun e => absurd e (by simp [mm_x6, mm_x7, mm_or]))
set_option maxHeartbeats 4000000 in
theorem op_n6 {d : Nat} {C : mm_C} {s : mm_S} (g : mm_H) (e : mm_x7 d C o i n pc la st h = some s) : mm_x6 o i n pc la st g = none := by
  revert e
  cases i <;> first | (exact fun _ => rfl) | (exact fun e => absurd e (by simp [mm_x7]))
theorem op_x {d k : Nat} {C : mm_C} (hC : opC N xs C) (hk : okH h) (hx : mm_x d C k i n pc la st h = some (pc', la', st', h')) : okH h' ∧ mm_x d C k i n pc la st (opH N xs h) = some (pc', la', st', opH N xs h') :=
  op_or (F := mm_x1 (mm_o k) i n pc la st) (G := fun h => mm_or (mm_x2 i n pc la st h) (mm_or (mm_x3 i n pc la st h) (mm_or (mm_x4 (mm_o k) i n pc la st h) (mm_or (mm_x5 k i n pc la st h) (mm_or (mm_x6 (mm_o k) i n pc la st h) (mm_x7 d C (mm_o k) i n pc la st h)))))) (fun e _ g => op_n1 g e) (fun _ _ _ _ => op_x1 hk) (fun _ _ _ _ =>
  op_or (F := mm_x2 i n pc la st) (G := fun h => mm_or (mm_x3 i n pc la st h) (mm_or (mm_x4 (mm_o k) i n pc la st h) (mm_or (mm_x5 k i n pc la st h) (mm_or (mm_x6 (mm_o k) i n pc la st h) (mm_x7 d C (mm_o k) i n pc la st h))))) (fun e _ g => op_n2 g e) (fun _ _ _ _ => op_x2 hk) (fun _ _ _ _ =>
  op_or (F := mm_x3 i n pc la st) (G := fun h => mm_or (mm_x4 (mm_o k) i n pc la st h) (mm_or (mm_x5 k i n pc la st h) (mm_or (mm_x6 (mm_o k) i n pc la st h) (mm_x7 d C (mm_o k) i n pc la st h)))) (fun e _ g => op_n3 g e) (fun _ _ _ _ => op_x3 hk) (fun _ _ _ _ =>
  op_or (F := mm_x4 (mm_o k) i n pc la st) (G := fun h => mm_or (mm_x5 k i n pc la st h) (mm_or (mm_x6 (mm_o k) i n pc la st h) (mm_x7 d C (mm_o k) i n pc la st h))) (fun _ ⟨_, e⟩ g => op_n4 g e) (fun _ _ _ _ => op_x4 hk) (fun _ _ _ _ =>
  op_or (F := mm_x5 k i n pc la st) (G := fun h => mm_or (mm_x6 (mm_o k) i n pc la st h) (mm_x7 d C (mm_o k) i n pc la st h)) (fun _ ⟨_, e⟩ g => op_n5 g e) (fun _ _ _ _ => op_x5 hk) (fun _ _ _ _ =>
  op_or (F := mm_x6 (mm_o k) i n pc la st) (G := fun h => mm_x7 d C (mm_o k) i n pc la st h) (fun _ ⟨_, e⟩ g => op_n6 g e) (fun _ _ _ _ => op_x6 hk) (fun _ _ _ _ => op_x7 hC hk)))))) hx
end OP
theorem op_run {N : Nat} {xs : Nat → Int32} {d : Nat} {C : mm_C} {k : Nat} (hC : opC N xs C) : ∀ (f pc : Nat) (la : mm_L) (st : List Value) (h : mm_H) (r : Option Value) (h9 : mm_H), okH h → mm_run d C k f pc la st h = some (r, h9) → okH h9 ∧ mm_run d C k f pc la st (opH N xs h) = some (r, opH N xs h9)
  | 0, _, _, _, _, _, _, _, hx => by cases hx
  | f + 1, pc, la, st, h, r, h9, hk, hx => by
    unfold mm_run at hx ⊢
    split at hx
    · next i n hd =>
      try rw [hd]
      try simp only
      split at hx
      · next hn =>
        rw [if_pos hn]
        split at hx
        · next r2 hr =>
          try rw [hr]
          cases hx
          exact ⟨hk, rfl⟩
        · next hr =>
          try rw [hr]
          try simp only
          split at hx
          · next pc' ls' st' h' hx1 =>
            obtain ⟨k1, k2⟩ := op_x (N := N) (xs := xs) hC hk hx1
            rw [k2]
            simp only
            split at hx
            · next hc =>
              rw [op_len hk, op_len k1, op_sl hk, op_sl k1, if_pos ⟨hc.1, Nat.add_le_add_left hc.2 N⟩]
              exact op_run hC f _ _ _ _ _ _ k1 hx
            · cases hx
          · cases hx
      · cases hx
    · cases hx
theorem op_call {N : Nat} {xs : Nat → Int32} {f : Nat} : ∀ d, opC N xs (mm_call d f)
  | 0 => fun _ _ _ _ _ _ hx => by cases hx
  | d + 1 => fun k as h r h' hk hx => by
    unfold mm_call at hx ⊢
    split at hx
    · next hc =>
      rw [if_pos hc]
      exact op_run (op_call d) f _ _ _ _ _ _ hk hx
    · cases hx
theorem op_st {N : Nat} {xs : Nat → Int32} {d : Nat} {C : mm_C} {k : Nat} (hC : opC N xs C) : ∀ (n pc : Nat) (la : mm_L) (st : List Value) (h : mm_H) (pc' : Nat) (la' : mm_L) (st' : List Value) (h' : mm_H), okH h → mm_st d C k n (pc, la, st, h) = some (pc', la', st', h') → okH h' ∧ mm_st d C k n (pc, la, st, opH N xs h) = some (pc', la', st', opH N xs h')
  | 0, pc, la, st, h, pc', la', st', h', hk, hx => by
    cases hx
    exact ⟨hk, rfl⟩
  | n + 1, pc, la, st, h, pc9, la9, st9, h9, hk, hx => by
    unfold mm_st at hx ⊢
    split at hx
    · next i q hd =>
      try rw [hd]
      try simp only
      split at hx
      · next hn =>
        rw [if_pos hn]
        split at hx
        · cases hx
        · next hr =>
          try rw [hr]
          try simp only
          split at hx
          · next pc' ls' st' h' hx1 =>
            obtain ⟨k1, k2⟩ := op_x (N := N) (xs := xs) hC hk hx1
            rw [k2]
            simp only
            split at hx
            · next hc =>
              rw [op_len hk, op_len k1, op_sl hk, op_sl k1, if_pos ⟨hc.1, Nat.add_le_add_left hc.2 N⟩]
              exact op_st hC n _ _ _ _ _ _ _ _ k1 hx
            · cases hx
          · cases hx
      · cases hx
    · cases hx
/-- steps, then a run -/
theorem st_run {d : Nat} {C : mm_C} {k : Nat} {x : Option Value × mm_H} {f : Nat} : ∀ (n pc : Nat) (la : mm_L) (st : List Value) (h : mm_H) (pc' : Nat) (la' : mm_L) (st' : List Value) (h' : mm_H), mm_st d C k n (pc, la, st, h) = some (pc', la', st', h') → mm_run d C k f pc' la' st' h' = some x → mm_run d C k (f + n) pc la st h = some x
  | 0, pc, la, st, h, pc', la', st', h', hx, hr => by
    cases hx
    exact hr
  | n + 1, pc, la, st, h, pc9, la9, st9, h9, hx, hr9 => by
    show mm_run d C k (f + n + 1) pc la st h = some x
    unfold mm_st at hx
    unfold mm_run
    split at hx
    · next i q hd =>
      try rw [hd]
      try simp only
      split at hx
      · next hn =>
        rw [if_pos hn]
        split at hx
        · cases hx
        · next hr =>
          try rw [hr]
          try simp only
          split at hx
          · next pc' ls' st' h' hx1 =>
            rw [hx1]
            simp only
            split at hx
            · next hc =>
              rw [if_pos hc]
              exact st_run n _ _ _ _ _ _ _ _ hx hr9
            · cases hx
          · cases hx
      · cases hx
    · cases hx
/-- more room: the same steps -/
theorem st_le {d d' : Nat} {C C' : mm_C} {k : Nat} (hd : d ≤ d') (hC : mm_le C C') : ∀ (n : Nat) (s : mm_S) (s' : mm_S), mm_st d C k n s = some s' → mm_st d' C' k n s = some s'
  | 0, _, _, hx => hx
  | n + 1, (pc, la, st, h), s', hx => by
    unfold mm_st at hx ⊢
    split at hx
    · next i q hdc =>
      try rw [hdc]
      try simp only
      split at hx
      · next hn =>
        rw [if_pos hn]
        split at hx
        · cases hx
        · next hr =>
          try rw [hr]
          try simp only
          split at hx
          · next pc' ls' st' h' hx1 =>
            rw [mm_x_le hd hC hx1]
            simp only
            split at hx
            · next hc => rw [if_pos hc]; exact st_le hd hC n _ _ hx
            · cases hx
          · cases hx
      · cases hx
    · cases hx
