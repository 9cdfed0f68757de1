-- locals may be forgotten; the shapes of the objects
def mm_ls (a b : mm_L) : Prop := a.length = b.length ∧ ∀ i v, mm_get a i = some v → mm_get b i = some v
theorem mm_get_set : ∀ (l : mm_L) (k i : Nat) (v : Value), k < l.length → mm_get (mm_set l k v) i = if i = k then some v else if i + 1 = k then mm_clr (mm_get l i) else mm_get l i
  | [], _, _, _, h => by cases h
  | _ :: t, 0, 0, v, _ => rfl
  | _ :: t, 0, i + 1, v, _ => by
    rw [if_neg (by omega), if_neg (by omega)]
    rfl
  | a :: t, 1, 0, v, _ => by
    rw [if_neg (by omega), if_pos rfl]
    rfl
  | a :: t, 1, i + 1, v, h => by
    have ih := mm_get_set t 0 i v (Nat.lt_of_succ_lt_succ h)
    show mm_get (mm_set t 0 v) i = _
    rw [ih]
    by_cases e : i = 0
    · subst e; rfl
    · rw [if_neg e, if_neg (by omega), if_neg (by omega), if_neg (by omega)]
      rfl
  | a :: t, n + 2, 0, v, _ => by
    rw [if_neg (by omega), if_neg (by omega)]
    rfl
  | a :: t, n + 2, i + 1, v, h => by
    have ih := mm_get_set t (n + 1) i v (Nat.lt_of_succ_lt_succ h)
    show mm_get (mm_set t (n + 1) v) i = _
    rw [ih]
    by_cases e : i = n + 1
    · rw [if_pos e, if_pos (by omega)]
    · rw [if_neg e, if_neg (show ¬ i + 1 = n + 2 by omega)]
      by_cases e2 : i + 1 = n + 1
      · rw [if_pos e2, if_pos (by omega)]
        rfl
      · rw [if_neg e2, if_neg (by omega)]
        rfl
theorem mm_clr_of {a : Option Value} {w : Value} (h : mm_clr a = some w) : mm_clr (some w) = some w := by
  cases a with
  | none => cases h
  | some x => cases x <;> first | (cases h; done) | (cases h; rfl)
theorem mm_put_ls {a b a' : mm_L} {k : Nat} {v : Value} (h : mm_ls a b) (hp : mm_put a k v = some a') : ∃ b', mm_put b k v = some b' ∧ mm_ls a' b' := by
  unfold mm_put at hp ⊢
  split at hp
  · next hk =>
    cases hp
    rw [if_pos (by rw [← h.1]; exact hk)]
    refine ⟨_, rfl, by rw [mm_set_len, mm_set_len]; exact h.1, fun i w hw => ?_⟩
    rw [mm_get_set _ _ _ _ hk] at hw
    rw [mm_get_set _ _ _ _ (by rw [← h.1]; exact hk)]
    split at hw
    · next e => rw [if_pos e]; exact hw
    · next e =>
      rw [if_neg e]
      split at hw
      · next e2 =>
        rw [if_pos e2, h.2 i w (mm_clr_some hw).1]
        exact mm_clr_of hw
      · next e2 => rw [if_neg e2]; exact h.2 i w hw
  · cases hp
set_option maxHeartbeats 4000000 in
theorem mm_x1_ls {o n pc : Nat} {i : Instr} {a b : mm_L} {st : List Value} {h : mm_H} {pc' : Nat} {a' : mm_L} {st' : List Value} {h' : mm_H} (hl : mm_ls a b) (hx : mm_x1 o i n pc a st h = some (pc', a', st', h')) : ∃ b', mm_x1 o i n pc b st h = some (pc', b', st', h') ∧ mm_ls a' b' := by
  have put : ∀ {k : Nat} {v : Value} {r : List Value} {e : Nat}, (match mm_put a k v with | some l => some (e, l, r, h) | none => none) = some (pc', a', st', h') → ∃ b', (match mm_put b k v with | some l => some (e, l, r, h) | none => none) = some (pc', b', st', h') ∧ mm_ls a' b' := by
    intro k v r e hx
    cases hp : mm_put a k v with
    | none => rw [hp] at hx; cases hx
    | some l =>
      rw [hp] at hx
      cases hx
      obtain ⟨b', h1, h2⟩ := mm_put_ls hl hp
      exact ⟨b', by rw [h1], h2⟩
  have get : ∀ {k : Nat} {f : Value → Option mm_S} {g : mm_L → Value → Option mm_S}, True := fun {_ _ _} => trivial
  cases i with
  | iload_n k | iload k | lload_n k | lload k =>
    simp only [mm_x1] at hx ⊢
    split at hx
    · next x hg =>
      cases hx
      exact ⟨b, by rw [hl.2 _ _ hg], hl⟩
    · cases hx
  | aload_n k | aload k =>
    simp only [mm_x1] at hx ⊢
    split at hx
    · next x hg =>
      cases hx
      exact ⟨b, by rw [hl.2 _ _ hg], hl⟩
    · next hg =>
      cases hx
      exact ⟨b, by rw [hl.2 _ _ hg], hl⟩
    · cases hx
  | istore_n k | istore k =>
    simp only [mm_x1] at hx ⊢
    split at hx
    · exact put hx
    · cases hx
  | astore_n k | astore k =>
    simp only [mm_x1] at hx ⊢
    split at hx
    · exact put hx
    · exact put hx
    · cases hx
  | iinc k v =>
    simp only [mm_x1] at hx ⊢
    split at hx
    · next x hg =>
      rw [hl.2 _ _ hg]
      exact put hx
    · cases hx
  | _ =>
    simp only [mm_x1] at hx ⊢
    first
      | (cases hx; done)
      | (cases hx; exact ⟨b, rfl, hl⟩)
      | (split at hx <;> first | (cases hx; done) | (cases hx; exact ⟨b, rfl, hl⟩) | (cases hx; exact ⟨b, by simp [*], hl⟩))
set_option maxHeartbeats 4000000 in
theorem mm_xr_ls {d k n pc : Nat} {C : mm_C} {i : Instr} {a b : mm_L} {st : List Value} {h : mm_H} (o : Nat) :
    (mm_x2 i n pc b st h = (mm_x2 i n pc a st h).map (fun s => (s.1, b, s.2.2))) ∧ (mm_x3 i n pc b st h = (mm_x3 i n pc a st h).map (fun s => (s.1, b, s.2.2))) ∧ (mm_x4 o i n pc b st h = (mm_x4 o i n pc a st h).map (fun s => (s.1, b, s.2.2))) ∧ (mm_x5 k i n pc b st h = (mm_x5 k i n pc a st h).map (fun s => (s.1, b, s.2.2))) ∧ (mm_x6 o i n pc b st h = (mm_x6 o i n pc a st h).map (fun s => (s.1, b, s.2.2))) ∧ (mm_x7 d C o i n pc b st h = (mm_x7 d C o i n pc a st h).map (fun s => (s.1, b, s.2.2))) := by
  have bk : ∀ {n pc : Nat} {r : List Value} (x : Option (Option Value × mm_H)), mm_bk n pc b r x = (mm_bk n pc a r x).map (fun s => (s.1, b, s.2.2)) := by
    intro n pc r x
    cases x <;> rfl
  refine ⟨?_, ?_, ?_, ?_, ?_, ?_⟩
  · cases i <;> simp only [mm_x2] <;> first | rfl | (split <;> first | rfl | (split <;> rfl))
  · cases i <;> simp only [mm_x3] <;> repeat' (first | rfl | split)
  · cases i <;> simp only [mm_x4] <;> repeat' (first | rfl | split)
  · cases i <;> simp only [mm_x5] <;> repeat' (first | rfl | split)
  · cases i <;> simp only [mm_x6] <;> repeat' (first | rfl | split)
  · cases i <;> simp only [mm_x7, mm_ac] <;> repeat' (first | rfl | exact bk _ | split)
set_option maxHeartbeats 4000000 in
theorem mm_x1_alone {d k o n pc : Nat} {C : mm_C} {i : Instr} {a b : mm_L} {st : List Value} {h : mm_H} {y : mm_S} (h1 : mm_x1 o i n pc b st h = some y) : mm_x2 i n pc a st h = none ∧ mm_x3 i n pc a st h = none ∧ mm_x4 o i n pc a st h = none ∧ mm_x5 k i n pc a st h = none ∧ mm_x6 o i n pc a st h = none ∧ mm_x7 d C o i n pc a st h = none := by
  cases i <;> first | exact ⟨rfl, rfl, rfl, rfl, rfl, rfl⟩ | (simp [mm_x1] at h1; done)
theorem mm_or_map {α β : Type} {x y : Option α} {f : α → β} {x' y' : Option β} (hx : x' = x.map f) (hy : y' = y.map f) : mm_or x' y' = (mm_or x y).map f := by
  subst hx; subst hy
  cases x <;> rfl
theorem mm_x_ls {d k n pc : Nat} {C : mm_C} {i : Instr} {a b : mm_L} {st : List Value} {h : mm_H} {pc' : Nat} {a' : mm_L} {st' : List Value} {h' : mm_H} (hl : mm_ls a b) (hx : mm_x d C k i n pc a st h = some (pc', a', st', h')) : ∃ b', mm_x d C k i n pc b st h = some (pc', b', st', h') ∧ mm_ls a' b' := by
  unfold mm_x at hx ⊢
  cases h1 : mm_x1 (mm_o k) i n pc a st h with
  | some y =>
    rw [h1] at hx
    have hx : some y = some (pc', a', st', h') := hx
    cases hx
    obtain ⟨b', g1, g2⟩ := mm_x1_ls hl h1
    exact ⟨b', by rw [g1]; rfl, g2⟩
  | none =>
    rw [h1] at hx
    cases h2 : mm_x1 (mm_o k) i n pc b st h with
    | some y =>
      obtain ⟨e2, e3, e4, e5, e6, e7⟩ := mm_x1_alone (d := d) (k := k) (C := C) (a := a) h2
      rw [e2, e3, e4, e5, e6, e7] at hx
      cases hx
    | none =>
      obtain ⟨e2, e3, e4, e5, e6, e7⟩ := mm_xr_ls (d := d) (k := k) (n := n) (pc := pc) (C := C) (i := i) (a := a) (b := b) (st := st) (h := h) (mm_o k)
      have e := mm_or_map e2 (mm_or_map e3 (mm_or_map e4 (mm_or_map e5 (mm_or_map e6 e7))))
      have hx : mm_or (mm_x2 i n pc a st h) (mm_or (mm_x3 i n pc a st h) (mm_or (mm_x4 (mm_o k) i n pc a st h) (mm_or (mm_x5 k i n pc a st h) (mm_or (mm_x6 (mm_o k) i n pc a st h) (mm_x7 d C (mm_o k) i n pc a st h))))) = some (pc', a', st', h') := hx
      rw [hx] at e
      have ha : a' = a := by
        have e9 := mm_or_map (mm_xr_ls (d := d) (k := k) (n := n) (pc := pc) (C := C) (i := i) (a := a) (b := a) (st := st) (h := h) (mm_o k)).1 (mm_or_map (mm_xr_ls (d := d) (k := k) (n := n) (pc := pc) (C := C) (i := i) (a := a) (b := a) (st := st) (h := h) (mm_o k)).2.1 (mm_or_map (mm_xr_ls (d := d) (k := k) (n := n) (pc := pc) (C := C) (i := i) (a := a) (b := a) (st := st) (h := h) (mm_o k)).2.2.1 (mm_or_map (mm_xr_ls (d := d) (k := k) (n := n) (pc := pc) (C := C) (i := i) (a := a) (b := a) (st := st) (h := h) (mm_o k)).2.2.2.1 (mm_or_map (mm_xr_ls (d := d) (k := k) (n := n) (pc := pc) (C := C) (i := i) (a := a) (b := a) (st := st) (h := h) (mm_o k)).2.2.2.2.1 (mm_xr_ls (d := d) (k := k) (n := n) (pc := pc) (C := C) (i := i) (a := a) (b := a) (st := st) (h := h) (mm_o k)).2.2.2.2.2))))
        rw [hx] at e9
        have e8 := congrArg (fun s => s.2.1) (Option.some.inj e9)
        exact e8
      subst ha
      exact ⟨b, e, hl⟩
theorem mm_run_ls {d k : Nat} {C : mm_C} : ∀ (f pc : Nat) (a b : mm_L) (st : List Value) (h : mm_H) (x : Option Value × mm_H), mm_ls a b → mm_run d C k f pc a st h = some x → mm_run d C k f pc b st h = some x
  | 0, _, _, _, _, _, _, _, hx => by cases hx
  | f + 1, pc, a, b, st, h, x, hl, hx => by
    unfold mm_run at hx ⊢
    split at hx
    · next i n hdc =>
      try rw [hdc]
      try simp only
      split at hx
      · next hn =>
        rw [if_pos hn]
        split at hx
        · next r hr => (try rw [hr]); exact hx
        · next hr =>
          try rw [hr]
          try simp only
          split at hx
          · next pc' ls' st' h' hx1 =>
            obtain ⟨b', g1, g2⟩ := mm_x_ls hl hx1
            rw [g1]
            simp only
            split at hx
            · next hc => rw [if_pos hc]; exact mm_run_ls f _ _ _ _ _ _ g2 hx
            · cases hx
          · cases hx
      · cases hx
    · cases hx
theorem wp_for {d sn k pc : Nat} {a b : mm_L} {st : List Value} {m : mm_Mem} {Q : Option Value → mm_Mem → Prop} (hl : mm_ls a b) (hw : mm_wp d sn k pc a st m Q) : mm_wp d sn k pc b st m Q := by
  obtain ⟨f, r, m', h1, h2⟩ := hw
  exact ⟨f, r, m', mm_run_ls _ _ _ _ _ _ _ hl h1, h2⟩
theorem mm_ls_nil : mm_ls [] [] := ⟨rfl, fun _ _ h => h⟩
theorem mm_ls_k {a b : mm_L} {x : Option Value} (h : mm_ls a b) : mm_ls (x :: a) (x :: b) := ⟨congrArg (· + 1) h.1, fun i v hg => by
  cases i with
  | zero => exact hg
  | succ i => exact h.2 i v hg⟩
theorem mm_ls_f {a b : mm_L} {x : Option Value} (h : mm_ls a b) : mm_ls (none :: a) (x :: b) := ⟨congrArg (· + 1) h.1, fun i v hg => by
  cases i with
  | zero => cases hg
  | succ i => exact h.2 i v hg⟩
-- shapes of objects and rows
def shZ (a : Nat) : Prop := a ≠ 0 ∧ ∀ sn, (mm_M0 sn)[a]? = some (101, 256)
def shB (a : Nat) : Prop := mm_R0 a 2 = some (a + 1) ∧ (∀ sn, (mm_M0 sn)[a]? = some (0, 3)) ∧ shZ (a + 1)
def shY (a : Nat) : Prop := mm_R0 a 2 = some (a + 1) ∧ (∀ sn, (mm_M0 sn)[a]? = some (9, 3)) ∧ (∀ sn, (mm_M0 sn)[a + 1]? = some (100, 8))
def shT (a : Nat) : Prop := mm_R0 a 2 = some (a + 1) ∧ (∀ sn, (mm_M0 sn)[a]? = some (7, 3)) ∧ (∀ sn, (mm_M0 sn)[a + 1]? = some (102, 60))
def shG (a : Nat) : Prop := a ≠ 0 ∧ ∀ sn, (mm_M0 sn)[a]? = some (100, 48)
def shQ (a : Nat) : Prop := (∀ sn, (mm_M0 sn)[a]? = some (107, 5)) ∧ ∀ i, i < 5 → mm_R0 a i = some (a + 1 + i) ∧ shZ (a + 1 + i)
def shS (a : Nat) : Prop := (∀ sn, (mm_M0 sn)[a]? = some (6, 6)) ∧ (mm_R0 a 3 = some (a + 1) ∧ shB (a + 1)) ∧ (mm_R0 a 4 = some (a + 3) ∧ (∀ sn, (mm_M0 sn)[a + 3]? = some (103, 4)) ∧ ∀ i, i < 4 → mm_R0 (a + 3) i = some (a + 4 + 2 * i) ∧ shY (a + 4 + 2 * i)) ∧ (mm_R0 a 5 = some (a + 12) ∧ (∀ sn, (mm_M0 sn)[a + 12]? = some (104, 4)) ∧ ∀ i, i < 4 → mm_R0 (a + 12) i = some (a + 13 + 2 * i) ∧ shB (a + 13 + 2 * i))
theorem mm_M0_s (sn a : Nat) : (mm_M0 sn)[a + 1]? = mm_M1[a]? := rfl
theorem shZ_of {a : Nat} (h : mm_M1[a]? = some (101, 256)) : shZ (a + 1) := ⟨by omega, fun _ => h⟩
theorem shB_of {a : Nat} (h : mm_R0 (a + 1) 2 = some (a + 2) ∧ mm_M1[a]? = some (0, 3) ∧ mm_M1[a + 1]? = some (101, 256)) : shB (a + 1) := ⟨h.1, fun _ => h.2.1, shZ_of h.2.2⟩
theorem shY_of {a : Nat} (h : mm_R0 (a + 1) 2 = some (a + 2) ∧ mm_M1[a]? = some (9, 3) ∧ mm_M1[a + 1]? = some (100, 8)) : shY (a + 1) := ⟨h.1, fun _ => h.2.1, fun _ => h.2.2⟩
theorem shT_of {a : Nat} (h : mm_R0 (a + 1) 2 = some (a + 2) ∧ mm_M1[a]? = some (7, 3) ∧ mm_M1[a + 1]? = some (102, 60)) : shT (a + 1) := ⟨h.1, fun _ => h.2.1, fun _ => h.2.2⟩
def shS_c (a : Nat) : Prop := mm_M1[a]? = some (6, 6) ∧ (mm_R0 (a + 1) 3 = some (a + 2) ∧ (mm_R0 (a + 2) 2 = some (a + 3) ∧ mm_M1[a + 1]? = some (0, 3) ∧ mm_M1[a + 2]? = some (101, 256))) ∧ (mm_R0 (a + 1) 4 = some (a + 4) ∧ mm_M1[a + 3]? = some (103, 4) ∧ ∀ i, i < 4 → mm_R0 (a + 4) i = some (a + 5 + 2 * i) ∧ (mm_R0 (a + 5 + 2 * i) 2 = some (a + 6 + 2 * i) ∧ mm_M1[a + 4 + 2 * i]? = some (9, 3) ∧ mm_M1[a + 5 + 2 * i]? = some (100, 8))) ∧ (mm_R0 (a + 1) 5 = some (a + 13) ∧ mm_M1[a + 12]? = some (104, 4) ∧ ∀ i, i < 4 → mm_R0 (a + 13) i = some (a + 14 + 2 * i) ∧ (mm_R0 (a + 14 + 2 * i) 2 = some (a + 15 + 2 * i) ∧ mm_M1[a + 13 + 2 * i]? = some (0, 3) ∧ mm_M1[a + 14 + 2 * i]? = some (101, 256)))
theorem shS_of {a : Nat} (h : shS_c a) : shS (a + 1) := by
  obtain ⟨h1, ⟨h2, h3⟩, ⟨h4, h5, h6⟩, h7, h8, h9⟩ := h
  refine ⟨fun _ => h1, ⟨h2, shB_of h3⟩, ⟨h4, fun _ => h5, fun i hi => ?_⟩, h7, fun _ => h8, fun i hi => ?_⟩
  · obtain ⟨g1, g2, g3, g4⟩ := h6 i hi
    have e : a + 1 + 4 + 2 * i = (a + 4 + 2 * i) + 1 := by omega
    have e2 : a + 1 + 3 = a + 4 := rfl
    rw [e, e2]
    refine ⟨by rw [g1]; congr 1 <;> omega, shY_of ⟨?_, g3, ?_⟩⟩
    · have e3 : a + 4 + 2 * i + 1 = a + 5 + 2 * i := by omega
      rw [e3, g2]
      congr 1
      omega
    · have e3 : a + 4 + 2 * i + 1 = a + 5 + 2 * i := by omega
      rw [e3]
      exact g4
  · obtain ⟨g1, g2, g3, g4⟩ := h9 i hi
    have e : a + 1 + 13 + 2 * i = (a + 13 + 2 * i) + 1 := by omega
    have e2 : a + 1 + 12 = a + 13 := rfl
    rw [e, e2]
    refine ⟨by rw [g1]; congr 1 <;> omega, shB_of ⟨?_, g3, ?_⟩⟩
    · have e3 : a + 13 + 2 * i + 1 = a + 14 + 2 * i := by omega
      rw [e3, g2]
      congr 1
      omega
    · have e3 : a + 13 + 2 * i + 1 = a + 14 + 2 * i := by omega
      rw [e3]
      exact g4
theorem shS_2 : shS 2 := shS_of (by unfold shS_c; decide +kernel)
theorem shS_23 : shS 23 := shS_of (by unfold shS_c; decide +kernel)
theorem shB_78 : shB 78 := shB_of (by decide +kernel)
theorem shB_80 : shB 80 := shB_of (by decide +kernel)
theorem shT_i : ∀ i, i < 6 → mm_R0 46 i = some (47 + 2 * i) ∧ shT (47 + 2 * i) := fun i hi => by
  have h : ∀ i, i < 6 → mm_R0 46 i = some (47 + 2 * i) ∧ (mm_R0 (46 + 2 * i + 1) 2 = some (46 + 2 * i + 2) ∧ mm_M1[46 + 2 * i]? = some (7, 3) ∧ mm_M1[46 + 2 * i + 1]? = some (102, 60)) := by decide +kernel
  have e : 47 + 2 * i = (46 + 2 * i) + 1 := by omega
  refine ⟨(h i hi).1, ?_⟩
  rw [e]
  exact shT_of (h i hi).2
theorem shQ_of (a : Nat) (h : mm_M1[a]? = some (107, 5) ∧ ∀ i, i < 5 → mm_R0 (a + 1) i = some (a + 2 + i) ∧ mm_M1[a + 1 + i]? = some (101, 256)) : shQ (a + 1) := ⟨fun _ => h.1, fun i hi => by
  have e : a + 1 + 1 + i = (a + 1 + i) + 1 := by omega
  rw [e]
  refine ⟨by rw [(h.2 i hi).1]; congr 1 <;> omega, shZ_of (h.2 i hi).2⟩⟩
theorem shQ_85 : shQ 85 := shQ_of 84 (by decide +kernel)
theorem shQ_91 : shQ 91 := shQ_of 90 (by decide +kernel)
theorem shG_83 : shG 83 := ⟨by decide, fun _ => rfl⟩
theorem shG_84 : shG 84 := ⟨by decide, fun _ => rfl⟩
theorem mm_meet : ∀ i, i < 70 → mm_R0 102 i = some (103 + i) ∧ ∀ sn, (mm_M0 sn)[103 + i]? = some (100, 70) := fun i hi => by
  have h : ∀ i, i < 70 → mm_R0 102 i = some (103 + i) ∧ mm_M1[102 + i]? = some (100, 70) := by decide +kernel
  have e : 103 + i = (102 + i) + 1 := by omega
  refine ⟨(h i hi).1, fun sn => ?_⟩
  rw [e]
  exact (h i hi).2
theorem mm_sols : ∀ i, i < 24 → mm_R0 176 i = some (177 + i) ∧ shZ (177 + i) := fun i hi => by
  have h : ∀ i, i < 24 → mm_R0 176 i = some (177 + i) ∧ mm_M1[176 + i]? = some (101, 256) := by decide +kernel
  have e : 177 + i = (176 + i) + 1 := by omega
  refine ⟨(h i hi).1, ?_⟩
  rw [e]
  exact shZ_of (h i hi).2
theorem mm_items : ∀ i, i < 6 → mm_R0 204 i = some (205 + i) ∧ ∀ sn, (mm_M0 sn)[205 + i]? = some (102, 60) := fun i hi => by
  have h : ∀ i, i < 6 → mm_R0 204 i = some (205 + i) ∧ mm_M1[204 + i]? = some (102, 60) := by decide +kernel
  have e : 205 + i = (204 + i) + 1 := by omega
  refine ⟨(h i hi).1, fun sn => ?_⟩
  rw [e]
  exact (h i hi).2
