-- THE SHAPE of the heap behind the constructors; rules of the abstract machine over it
def mm_M1 : List (Nat × Nat) := [(10, 12), (6, 6), (0, 3), (101, 256), (103, 4), (9, 3), (100, 8), (9, 3), (100, 8), (9, 3), (100, 8), (9, 3), (100, 8), (104, 4), (0, 3), (101, 256), (0, 3), (101, 256), (0, 3), (101, 256), (0, 3), (101, 256), (6, 6), (0, 3), (101, 256), (103, 4), (9, 3), (100, 8), (9, 3), (100, 8), (9, 3), (100, 8), (9, 3), (100, 8), (104, 4), (0, 3), (101, 256), (0, 3), (101, 256), (0, 3), (101, 256), (0, 3), (101, 256), (8, 2), (100, 100), (105, 6), (7, 3), (102, 60), (7, 3), (102, 60), (7, 3), (102, 60), (7, 3), (102, 60), (7, 3), (102, 60), (7, 3), (102, 60), (5, 3), (100, 256), (100, 9), (100, 256), (2, 3), (100, 500), (100, 1024), (1, 12), (100, 980), (100, 70), (100, 70), (100, 70), (100, 14), (100, 24), (4, 1), (100, 256), (3, 5), (101, 70), (100, 8), (0, 3), (101, 256), (0, 3), (101, 256), (11, 25), (100, 48), (100, 48), (107, 5), (101, 256), (101, 256), (101, 256), (101, 256), (101, 256), (107, 5), (101, 256), (101, 256), (101, 256), (101, 256), (101, 256), (100, 8), (100, 500), (100, 256), (100, 9), (100, 256), (106, 70), (100, 70), (100, 70), (100, 70), (100, 70), (100, 70), (100, 70), (100, 70), (100, 70), (100, 70), (100, 70), (100, 70), (100, 70), (100, 70), (100, 70), (100, 70), (100, 70), (100, 70), (100, 70), (100, 70), (100, 70), (100, 70), (100, 70), (100, 70), (100, 70), (100, 70), (100, 70), (100, 70), (100, 70), (100, 70), (100, 70), (100, 70), (100, 70), (100, 70), (100, 70), (100, 70), (100, 70), (100, 70), (100, 70), (100, 70), (100, 70), (100, 70), (100, 70), (100, 70), (100, 70), (100, 70), (100, 70), (100, 70), (100, 70), (100, 70), (100, 70), (100, 70), (100, 70), (100, 70), (100, 70), (100, 70), (100, 70), (100, 70), (100, 70), (100, 70), (100, 70), (100, 70), (100, 70), (100, 70), (100, 70), (100, 70), (100, 70), (100, 70), (100, 70), (100, 70), (100, 70), (100, 70), (101, 256), (100, 8), (107, 24), (101, 256), (101, 256), (101, 256), (101, 256), (101, 256), (101, 256), (101, 256), (101, 256), (101, 256), (101, 256), (101, 256), (101, 256), (101, 256), (101, 256), (101, 256), (101, 256), (101, 256), (101, 256), (101, 256), (101, 256), (101, 256), (101, 256), (101, 256), (101, 256), (100, 100), (100, 6), (100, 6), (108, 6), (102, 60), (102, 60), (102, 60), (102, 60), (102, 60), (102, 60), (102, 60)]
def mm_M0 (sn : Nat) : List (Nat × Nat) := (100, sn) :: mm_M1
def mm_R1t : List (Nat × List (Option Nat)) := [(1, [some 2, some 23, none, some 44, some 46, some 59, some 63, some 66, some 73, some 75, some 78, some 80]), (2, [none, none, none, some 3, some 5, some 14]), (3, [none, none, some 4]), (5, [some 6, some 8, some 10, some 12]), (6, [none, none, some 7]), (8, [none, none, some 9]), (10, [none, none, some 11]), (12, [none, none, some 13]), (14, [some 15, some 17, some 19, some 21]), (15, [none, none, some 16]), (17, [none, none, some 18]), (19, [none, none, some 20]), (21, [none, none, some 22]), (23, [none, none, none, some 24, some 26, some 35]), (24, [none, none, some 25]), (26, [some 27, some 29, some 31, some 33]), (27, [none, none, some 28]), (29, [none, none, some 30]), (31, [none, none, some 32]), (33, [none, none, some 34]), (35, [some 36, some 38, some 40, some 42]), (36, [none, none, some 37]), (38, [none, none, some 39]), (40, [none, none, some 41]), (42, [none, none, some 43]), (44, [none, some 45]), (46, [some 47, some 49, some 51, some 53, some 55, some 57]), (47, [none, none, some 48]), (49, [none, none, some 50]), (51, [none, none, some 52]), (53, [none, none, some 54]), (55, [none, none, some 56]), (57, [none, none, some 58]), (59, [some 60, some 61, some 62]), (63, [some 64, some 65]), (66, [some 67, some 68, some 69, some 70, some 71, some 72]), (73, [some 74]), (75, [some 76, some 77]), (78, [none, none, some 79]), (80, [none, none, some 81]), (82, [some 83, some 84, some 85, some 91, none, some 97, some 98, some 99, some 100, some 101, some 102, some 173, some 174, some 175, some 176, some 201, none, none, none, none, none, some 202, some 203, some 204, some 211]), (85, [some 86, some 87, some 88, some 89, some 90]), (91, [some 92, some 93, some 94, some 95, some 96]), (102, [some 103, some 104, some 105, some 106, some 107, some 108, some 109, some 110, some 111, some 112, some 113, some 114, some 115, some 116, some 117, some 118, some 119, some 120, some 121, some 122, some 123, some 124, some 125, some 126, some 127, some 128, some 129, some 130, some 131, some 132, some 133, some 134, some 135, some 136, some 137, some 138, some 139, some 140, some 141, some 142, some 143, some 144, some 145, some 146, some 147, some 148, some 149, some 150, some 151, some 152, some 153, some 154, some 155, some 156, some 157, some 158, some 159, some 160, some 161, some 162, some 163, some 164, some 165, some 166, some 167, some 168, some 169, some 170, some 171, some 172]), (176, [some 177, some 178, some 179, some 180, some 181, some 182, some 183, some 184, some 185, some 186, some 187, some 188, some 189, some 190, some 191, some 192, some 193, some 194, some 195, some 196, some 197, some 198, some 199, some 200]), (204, [some 205, some 206, some 207, some 208, some 209, some 210])]
def mm_R0 (a k : Nat) : Option Nat := match mm_R1t.find? (fun e => e.1 == a) with
  | some e => e.2.getD k none
  | none => none
abbrev mm_Mem : Type := (Nat → Nat → Int32) × (Nat → Nat → Int64)
def mm_hp (sn : Nat) (m : mm_Mem) : mm_H := (mm_M0 sn, mm_R0, m.1, m.2)
def mm_wp (d sn k pc : Nat) (la : mm_L) (st : List Value) (m : mm_Mem) (Q : Option Value → mm_Mem → Prop) : Prop := ∃ f r m', mm_run d (mm_call d f) k f pc la st (mm_hp sn m) = some (r, mm_hp sn m') ∧ Q r m'
def mm_sp (d sn k : Nat) (as : List Value) (m : mm_Mem) (Q : Option Value → mm_Mem → Prop) : Prop := ∃ f r m', mm_call d f k as (mm_hp sn m) = some (r, mm_hp sn m') ∧ Q r m'
def qI (P : Int32 → mm_Mem → Prop) : Option Value → mm_Mem → Prop := fun r m => ∃ x, r = some (.int x) ∧ P x m
def qL (P : Int64 → mm_Mem → Prop) : Option Value → mm_Mem → Prop := fun r m => ∃ x, r = some (.long x) ∧ P x m
def qV (P : mm_Mem → Prop) : Option Value → mm_Mem → Prop := fun r m => r = none ∧ P m
def qR (P : Option Nat → mm_Mem → Prop) : Option Value → mm_Mem → Prop := fun r m => ∃ x, r = some (va_rf x) ∧ P x m
-- more room, more steps: the same answer
def mm_le (C C' : mm_C) : Prop := ∀ k as h x, C k as h = some x → C' k as h = some x
theorem mm_bk_le {n pc : Nat} {ls : mm_L} {r : List Value} {x x' : Option (Option Value × mm_H)} {y : mm_S} (h : ∀ z, x = some z → x' = some z) (hy : mm_bk n pc ls r x = some y) : mm_bk n pc ls r x' = some y := by
  cases x with
  | none => cases hy
  | some z => rw [h z rfl]; exact hy
set_option maxHeartbeats 4000000 in
theorem mm_x7_le {d d' : Nat} {C C' : mm_C} {o : Nat} {i : Instr} {n pc : Nat} {la : mm_L} {st : List Value} {h : mm_H} {y : mm_S} (hd : d ≤ d') (hC : mm_le C C') (hx : mm_x7 d C o i n pc la st h = some y) : mm_x7 d' C' o i n pc la st h = some y := by
  cases i with
  | invokevirtual j =>
    simp only [mm_x7] at hx ⊢
    split at hx
    · next k kd hlm =>
      split at hx
      · next hc =>
        try simp only
        rw [if_pos ⟨hc.1, by omega⟩]
        split at hx
        · next as a r hp =>
          split at hx
          · next hc2 =>
            try simp only
            rw [if_pos hc2]
            exact mm_bk_le (hC _ _ _) hx
          · cases hx
        · cases hx
      · cases hx
    · cases hx
  | invokestatic j =>
    simp only [mm_x7] at hx ⊢
    split at hx
    · next k kd hlm =>
      split at hx
      · next hc =>
        try simp only
        rw [if_pos (show d' ≠ 0 by omega)]
        split at hx
        · next hk =>
          rw [if_pos hk]
          split at hx
          · next as r hp =>
            split at hx
            · next hc2 =>
              try simp only
              rw [if_pos hc2]
              exact mm_bk_le (hC _ _ _) hx
            · cases hx
          · cases hx
        · next hk => rw [if_neg hk]; exact hx
      · cases hx
    · cases hx
  | invokespecial j =>
    simp only [mm_x7] at hx ⊢
    split at hx
    · next k kd hlm =>
      split at hx
      · next hc =>
        try simp only
        rw [if_pos (show d' ≠ 0 by omega)]
        split at hx
        · next hk =>
          rw [if_pos hk]
          split at hx
          · next as a r hp =>
            split at hx
            · next hc2 =>
              try simp only
              rw [if_pos hc2]
              exact mm_bk_le (hC _ _ _) hx
            · cases hx
          · cases hx
        · next hk => rw [if_neg hk]; exact hx
      · cases hx
    · cases hx
  | _ => exact absurd hx (by simp [mm_x7])
theorem mm_or_le {α : Type} {a b b' : Option α} {y : α} (h : ∀ z, b = some z → b' = some z) (hy : mm_or a b = some y) : mm_or a b' = some y := by
  cases a with
  | some z => exact hy
  | none => exact h y hy
theorem mm_x_le {d d' : Nat} {C C' : mm_C} {k : Nat} {i : Instr} {n pc : Nat} {la : mm_L} {st : List Value} {h : mm_H} {y : mm_S} (hd : d ≤ d') (hC : mm_le C C') (hx : mm_x d C k i n pc la st h = some y) : mm_x d' C' k i n pc la st h = some y :=
  mm_or_le (fun _ h => mm_or_le (fun _ h => mm_or_le (fun _ h => mm_or_le (fun _ h => mm_or_le (fun _ h => mm_or_le (fun _ h => mm_x7_le hd hC h) h) h) h) h) h) hx
theorem mm_run_le {d d' : Nat} {C C' : mm_C} {k : Nat} (hd : d ≤ d') (hC : mm_le C C') : ∀ (f f' pc : Nat) (la : mm_L) (st : List Value) (h : mm_H) (x : Option Value × mm_H), f ≤ f' → mm_run d C k f pc la st h = some x → mm_run d' C' k f' pc la st h = some x
  | 0, _, _, _, _, _, _, _, hx => by cases hx
  | f + 1, 0, _, _, _, _, _, hf, _ => by omega
  | f + 1, f' + 1, pc, la, st, h, x, hf, hx => by
    unfold mm_run at hx ⊢
    split at hx
    · next i n hdc =>
      try rw [hdc]
      try simp only
      split at hx
      · next hn =>
        rw [if_pos hn]
        split at hx
        · next r hr => (try rw [hr]); exact hx
        · next hr =>
          try rw [hr]
          try simp only
          split at hx
          · next pc' ls' st' h' hx1 =>
            rw [mm_x_le hd hC hx1]
            simp only
            split at hx
            · next hc => rw [if_pos hc]; exact mm_run_le hd hC f f' _ _ _ _ _ (by omega) hx
            · cases hx
          · cases hx
      · cases hx
    · cases hx
theorem mm_call_le : ∀ (d d' f f' : Nat), d ≤ d' → f ≤ f' → mm_le (mm_call d f) (mm_call d' f')
  | 0, _, _, _, _, _ => fun _ _ _ _ h => by cases h
  | d + 1, 0, _, _, hd, _ => by omega
  | d + 1, d' + 1, f, f', hd, hf => fun k as h x hx => by
    unfold mm_call at hx ⊢
    split at hx
    · next hc =>
      rw [if_pos hc]
      exact mm_run_le (by omega) (mm_call_le d d' f f' (by omega) hf) f f' _ _ _ _ _ hf hx
    · cases hx
theorem mm_sp.up {d d' sn k : Nat} {as : List Value} {m : mm_Mem} {Q : Option Value → mm_Mem → Prop} (h : mm_sp d sn k as m Q) (hd : d ≤ d') : mm_sp d' sn k as m Q := by
  obtain ⟨f, r, m', h1, h2⟩ := h
  exact ⟨f, r, m', mm_call_le d d' f f hd (Nat.le_refl _) _ _ _ _ h1, h2⟩
theorem mm_sp.to {d sn k : Nat} {as : List Value} {m : mm_Mem} {Q Q' : Option Value → mm_Mem → Prop} (h : mm_sp d sn k as m Q) (hq : ∀ r m', Q r m' → Q' r m') : mm_sp d sn k as m Q' := by
  obtain ⟨f, r, m', h1, h2⟩ := h
  exact ⟨f, r, m', h1, hq r m' h2⟩
theorem mm_sp.I {d sn k : Nat} {as : List Value} {m : mm_Mem} {P P' : Int32 → mm_Mem → Prop} (h : mm_sp d sn k as m (qI P)) {d' : Nat} (hd : d ≤ d') (hq : ∀ x m', P x m' → P' x m') : mm_sp d' sn k as m (qI P') := (h.up hd).to fun r m' ⟨x, h1, h2⟩ => ⟨x, h1, hq x m' h2⟩
theorem mm_sp.L {d sn k : Nat} {as : List Value} {m : mm_Mem} {P P' : Int64 → mm_Mem → Prop} (h : mm_sp d sn k as m (qL P)) {d' : Nat} (hd : d ≤ d') (hq : ∀ x m', P x m' → P' x m') : mm_sp d' sn k as m (qL P') := (h.up hd).to fun r m' ⟨x, h1, h2⟩ => ⟨x, h1, hq x m' h2⟩
theorem mm_sp.V {d sn k : Nat} {as : List Value} {m : mm_Mem} {P P' : mm_Mem → Prop} (h : mm_sp d sn k as m (qV P)) {d' : Nat} (hd : d ≤ d') (hq : ∀ m', P m' → P' m') : mm_sp d' sn k as m (qV P') := (h.up hd).to fun r m' ⟨h1, h2⟩ => ⟨h1, hq m' h2⟩
theorem mm_sp.R {d sn k : Nat} {as : List Value} {m : mm_Mem} {P P' : Option Nat → mm_Mem → Prop} (h : mm_sp d sn k as m (qR P)) {d' : Nat} (hd : d ≤ d') (hq : ∀ x m', P x m' → P' x m') : mm_sp d' sn k as m (qR P') := (h.up hd).to fun r m' ⟨x, h1, h2⟩ => ⟨x, h1, hq x m' h2⟩
section WP
variable {d sn k pc pc' o i t n j c : Nat} {cc : ByteArray} {la la' : mm_L} {st st' r : List Value} {m m' : mm_Mem} {Q : Option Value → mm_Mem → Prop}
/-- a method from its entry -/
theorem wp_in {as : List Value} (h : ((mm_ex as).length ≤ mm_nL k ∧ mm_kd k < 3 ∧ k < 232) ∧ mm_pad (mm_nL k) (mm_ex as) = la) (hw : mm_wp d sn k 0 la [] m Q) : mm_sp (d + 1) sn k as m Q := by
  obtain ⟨f, r, m', h1, h2⟩ := hw
  obtain ⟨hc, rfl⟩ := h
  refine ⟨f, r, m', ?_, h2⟩
  show (if _ then _ else none) = _
  rw [if_pos hc]
  exact h1
theorem wp_x {i : Instr} (hb : mm_b k = cc) (hd : decode cc pc = .ok (i, n)) (hn : mm_ln i n = true) (hr : mm_rt1 k i st = none) (hx : ∀ C, mm_x d C k i n pc la st (mm_hp sn m) = some (pc', la', st', mm_hp sn m')) (hw : mm_wp d sn k pc' la' st' m' Q) : mm_wp d sn k pc la st m Q := by
  subst hb
  obtain ⟨f, r, m2, h1, h2⟩ := hw
  refine ⟨f + 1, r, m2, ?_, h2⟩
  show (match decode (mm_b k) pc with | .ok (i, n) => _ | .error _ => none) = _
  rw [hd]
  simp only
  rw [if_pos hn, hr]
  simp only
  rw [hx]
  simp only
  rw [if_pos ⟨Nat.le_refl _, Nat.le_refl _⟩]
  exact mm_run_le (Nat.le_refl _) (mm_call_le d d f (f + 1) (Nat.le_refl _) (Nat.le_succ f)) f f _ _ _ _ _ (Nat.le_refl _) h1
theorem wp_ret {i : Instr} {v : Option Value} (hb : mm_b k = cc) (hd : decode cc pc = .ok (i, n)) (hn : mm_ln i n = true) (hr : mm_rt1 k i st = some v) (hq : Q v m) : mm_wp d sn k pc la st m Q := by
  subst hb
  refine ⟨1, v, m, ?_, hq⟩
  show (match decode (mm_b k) pc with | .ok (i, n) => _ | .error _ => none) = _
  rw [hd]
  simp only
  rw [if_pos hn, hr]
/-- a call: its own run, then the rest -/
theorem wp_c {i : Instr} {k' : Nat} {as : List Value} (hb : mm_b k = cc) (hd : decode cc pc = .ok (i, n)) (hn : mm_ln i n = true) (hr : mm_rt1 k i st = none) (hx : ∀ C, d ≠ 0 → mm_x d C k i n pc la st (mm_hp sn m) = mm_bk n pc la r (C k' as (mm_hp sn m))) (hs : mm_sp d sn k' as m (fun v m' => mm_wp d sn k (pc + n) la (v.toList ++ r) m' Q)) : mm_wp d sn k pc la st m Q := by
  subst hb
  obtain ⟨f1, v, m1, h1, f2, r2, m2, h2, h3⟩ := hs
  have hd0 : d ≠ 0 := fun e => by subst e; cases h1
  refine ⟨f1 + f2 + 1, r2, m2, ?_, h3⟩
  show (match decode (mm_b k) pc with | .ok (i, n) => _ | .error _ => none) = _
  rw [hd]
  simp only
  rw [if_pos hn, hr]
  simp only
  rw [hx _ hd0, mm_call_le d d f1 (f1 + f2 + 1) (Nat.le_refl _) (by omega) _ _ _ _ h1]
  simp only [mm_bk]
  rw [if_pos ⟨Nat.le_refl _, Nat.le_refl _⟩]
  exact mm_run_le (Nat.le_refl _) (mm_call_le d d f2 (f1 + f2 + 1) (Nat.le_refl _) (by omega)) f2 (f1 + f2) _ _ _ _ _ (by omega) h2
theorem wp_iconst (hb : mm_b k = cc) {v : Int} {x : Int32} (hv : Int32.ofInt v = x) (hd : decode cc pc = .ok (.iconst v, 1)) (hw : mm_wp d sn k (pc + 1) la (.int x :: st) m Q) : mm_wp d sn k pc la st m Q := wp_x hb hd rfl rfl (fun _ => by subst hv; rfl) hw
theorem wp_bipush (hb : mm_b k = cc) {v : Int} {x : Int32} (hv : (Int8.ofInt v).toInt32 = x) (hd : decode cc pc = .ok (.bipush v, 2)) (hw : mm_wp d sn k (pc + 2) la (.int x :: st) m Q) : mm_wp d sn k pc la st m Q := wp_x hb hd rfl rfl (fun _ => by subst hv; rfl) hw
theorem wp_sipush (hb : mm_b k = cc) {v : Int} {x : Int32} (hv : (Int16.ofInt v).toInt32 = x) (hd : decode cc pc = .ok (.sipush v, 3)) (hw : mm_wp d sn k (pc + 3) la (.int x :: st) m Q) : mm_wp d sn k pc la st m Q := wp_x hb hd rfl rfl (fun _ => by subst hv; rfl) hw
theorem wp_lconst (hb : mm_b k = cc) {v : Fin 2} {x : Int64} (hv : Int64.ofNat (v : Nat) = x) (hd : decode cc pc = .ok (.lconst v, 1)) (hw : mm_wp d sn k (pc + 1) la (.long x :: st) m Q) : mm_wp d sn k pc la st m Q := wp_x hb hd rfl rfl (fun _ => by subst hv; rfl) hw
theorem wp_null (hb : mm_b k = cc) (hd : decode cc pc = .ok (.aconst_null, 1)) (hw : mm_wp d sn k (pc + 1) la (.null :: st) m Q) : mm_wp d sn k pc la st m Q := wp_x hb hd rfl rfl (fun _ => rfl) hw
theorem wp_ldc (hb : mm_b k = cc) {x} (ho : mm_o k = o) (hv : mm_ki o j = some x) (hd : decode cc pc = .ok (.ldc j, 2)) (hw : mm_wp d sn k (pc + 2) la (.int x :: st) m Q) : mm_wp d sn k pc la st m Q := wp_x hb hd rfl rfl (fun C => by subst ho; unfold mm_x mm_x1; simp only [hv]; rfl) hw
theorem wp_ldcw (hb : mm_b k = cc) {x} (ho : mm_o k = o) (hv : mm_ki o j = some x) (hd : decode cc pc = .ok (.ldc_w j, 3)) (hw : mm_wp d sn k (pc + 3) la (.int x :: st) m Q) : mm_wp d sn k pc la st m Q := wp_x hb hd rfl rfl (fun C => by subst ho; unfold mm_x mm_x1; simp only [hv]; rfl) hw
theorem wp_ldc2 (hb : mm_b k = cc) {x} (ho : mm_o k = o) (hv : mm_kl o j = some x) (hd : decode cc pc = .ok (.ldc2_w j, 3)) (hw : mm_wp d sn k (pc + 3) la (.long x :: st) m Q) : mm_wp d sn k pc la st m Q := wp_x hb hd rfl rfl (fun C => by subst ho; unfold mm_x mm_x1; simp only [hv]; rfl) hw
theorem wp_iload_n (hb : mm_b k = cc) {v : Fin 4} {x} (hl : mm_get la v = some (.int x)) (hd : decode cc pc = .ok (.iload_n v, 1)) (hw : mm_wp d sn k (pc + 1) la (.int x :: st) m Q) : mm_wp d sn k pc la st m Q := wp_x hb hd rfl rfl (fun C => by unfold mm_x mm_x1; simp only [hl]; rfl) hw
theorem wp_iload (hb : mm_b k = cc) {v : Nat} {x} (hl : mm_get la v = some (.int x)) (hd : decode cc pc = .ok (.iload v, 2)) (hw : mm_wp d sn k (pc + 2) la (.int x :: st) m Q) : mm_wp d sn k pc la st m Q := wp_x hb hd rfl rfl (fun C => by unfold mm_x mm_x1; simp only [hl]; rfl) hw
theorem wp_lload_n (hb : mm_b k = cc) {v : Fin 4} {x} (hl : mm_get la v = some (.long x)) (hd : decode cc pc = .ok (.lload_n v, 1)) (hw : mm_wp d sn k (pc + 1) la (.long x :: st) m Q) : mm_wp d sn k pc la st m Q := wp_x hb hd rfl rfl (fun C => by unfold mm_x mm_x1; simp only [hl]; rfl) hw
theorem wp_lload (hb : mm_b k = cc) {v : Nat} {x} (hl : mm_get la v = some (.long x)) (hd : decode cc pc = .ok (.lload v, 2)) (hw : mm_wp d sn k (pc + 2) la (.long x :: st) m Q) : mm_wp d sn k pc la st m Q := wp_x hb hd rfl rfl (fun C => by unfold mm_x mm_x1; simp only [hl]; rfl) hw
theorem wp_aload_n (hb : mm_b k = cc) {v : Fin 4} {x} (hl : mm_get la v = some (.ref x)) (hd : decode cc pc = .ok (.aload_n v, 1)) (hw : mm_wp d sn k (pc + 1) la (.ref x :: st) m Q) : mm_wp d sn k pc la st m Q := wp_x hb hd rfl rfl (fun C => by unfold mm_x mm_x1; simp only [hl]; rfl) hw
theorem wp_aload (hb : mm_b k = cc) {v : Nat} {x} (hl : mm_get la v = some (.ref x)) (hd : decode cc pc = .ok (.aload v, 2)) (hw : mm_wp d sn k (pc + 2) la (.ref x :: st) m Q) : mm_wp d sn k pc la st m Q := wp_x hb hd rfl rfl (fun C => by unfold mm_x mm_x1; simp only [hl]; rfl) hw
theorem wp_aload_nN (hb : mm_b k = cc) {v : Fin 4} (hl : mm_get la v = some .null) (hd : decode cc pc = .ok (.aload_n v, 1)) (hw : mm_wp d sn k (pc + 1) la (.null :: st) m Q) : mm_wp d sn k pc la st m Q := wp_x hb hd rfl rfl (fun C => by unfold mm_x mm_x1; simp only [hl]; rfl) hw
theorem wp_aloadN (hb : mm_b k = cc) {v : Nat} (hl : mm_get la v = some .null) (hd : decode cc pc = .ok (.aload v, 2)) (hw : mm_wp d sn k (pc + 2) la (.null :: st) m Q) : mm_wp d sn k pc la st m Q := wp_x hb hd rfl rfl (fun C => by unfold mm_x mm_x1; simp only [hl]; rfl) hw
theorem wp_astore_nN (hb : mm_b k = cc) {v : Fin 4} (hl : mm_put la v .null = some la') (hd : decode cc pc = .ok (.astore_n v, 1)) (hw : mm_wp d sn k (pc + 1) la' st m Q) : mm_wp d sn k pc la (.null :: st) m Q := wp_x hb hd rfl rfl (fun C => by unfold mm_x mm_x1; simp only [hl]; rfl) hw
theorem wp_astoreN (hb : mm_b k = cc) {v : Nat} (hl : mm_put la v .null = some la') (hd : decode cc pc = .ok (.astore v, 2)) (hw : mm_wp d sn k (pc + 2) la' st m Q) : mm_wp d sn k pc la (.null :: st) m Q := wp_x hb hd rfl rfl (fun C => by unfold mm_x mm_x1; simp only [hl]; rfl) hw
theorem wp_istore_n (hb : mm_b k = cc) {v : Fin 4} {x} (hl : mm_put la v (.int x) = some la') (hd : decode cc pc = .ok (.istore_n v, 1)) (hw : mm_wp d sn k (pc + 1) la' st m Q) : mm_wp d sn k pc la (.int x :: st) m Q := wp_x hb hd rfl rfl (fun C => by unfold mm_x mm_x1; simp only [hl]; rfl) hw
theorem wp_istore (hb : mm_b k = cc) {v : Nat} {x} (hl : mm_put la v (.int x) = some la') (hd : decode cc pc = .ok (.istore v, 2)) (hw : mm_wp d sn k (pc + 2) la' st m Q) : mm_wp d sn k pc la (.int x :: st) m Q := wp_x hb hd rfl rfl (fun C => by unfold mm_x mm_x1; simp only [hl]; rfl) hw
theorem wp_astore_n (hb : mm_b k = cc) {v : Fin 4} {x} (hl : mm_put la v (.ref x) = some la') (hd : decode cc pc = .ok (.astore_n v, 1)) (hw : mm_wp d sn k (pc + 1) la' st m Q) : mm_wp d sn k pc la (.ref x :: st) m Q := wp_x hb hd rfl rfl (fun C => by unfold mm_x mm_x1; simp only [hl]; rfl) hw
theorem wp_astore (hb : mm_b k = cc) {v : Nat} {x} (hl : mm_put la v (.ref x) = some la') (hd : decode cc pc = .ok (.astore v, 2)) (hw : mm_wp d sn k (pc + 2) la' st m Q) : mm_wp d sn k pc la (.ref x :: st) m Q := wp_x hb hd rfl rfl (fun C => by unfold mm_x mm_x1; simp only [hl]; rfl) hw
theorem wp_iinc (hb : mm_b k = cc) {v : Nat} {w : Int} {x y : Int32} (hg : mm_get la v = some (.int x)) (hy : x + Int32.ofInt w = y) (hl : mm_put la v (.int y) = some la') (hd : decode cc pc = .ok (.iinc v w, 3)) (hw : mm_wp d sn k (pc + 3) la' st m Q) : mm_wp d sn k pc la st m Q := wp_x hb hd rfl rfl (fun C => by subst hy; unfold mm_x mm_x1; simp only [hg, hl]; rfl) hw
theorem wp_dupI (hb : mm_b k = cc) {x : Int32} (hd : decode cc pc = .ok (.dup, 1)) (hw : mm_wp d sn k (pc + 1) la (.int x :: .int x :: st) m Q) : mm_wp d sn k pc la (.int x :: st) m Q := wp_x hb hd rfl rfl (fun _ => rfl) hw
theorem wp_dupR (hb : mm_b k = cc) {x : Nat} (hd : decode cc pc = .ok (.dup, 1)) (hw : mm_wp d sn k (pc + 1) la (.ref x :: .ref x :: st) m Q) : mm_wp d sn k pc la (.ref x :: st) m Q := wp_x hb hd rfl rfl (fun _ => rfl) hw
theorem wp_dup2 (hb : mm_b k = cc) {x : Int32} {y : Nat} (hd : decode cc pc = .ok (.dup2, 1)) (hw : mm_wp d sn k (pc + 1) la (.int x :: .ref y :: .int x :: .ref y :: st) m Q) : mm_wp d sn k pc la (.int x :: .ref y :: st) m Q := wp_x hb hd rfl rfl (fun _ => rfl) hw
theorem wp_dup_x1 (hb : mm_b k = cc) {x : Int32} {y : Nat} (hd : decode cc pc = .ok (.dup_x1, 1)) (hw : mm_wp d sn k (pc + 1) la (.int x :: .ref y :: .int x :: st) m Q) : mm_wp d sn k pc la (.int x :: .ref y :: st) m Q := wp_x hb hd rfl rfl (fun _ => rfl) hw
theorem wp_pop (hb : mm_b k = cc) {x : Int32} (hd : decode cc pc = .ok (.pop, 1)) (hw : mm_wp d sn k (pc + 1) la st m Q) : mm_wp d sn k pc la (.int x :: st) m Q := wp_x hb hd rfl rfl (fun _ => rfl) hw
theorem wp_iadd (hb : mm_b k = cc) {x y : Int32} (hd : decode cc pc = .ok (.iadd, 1)) (hw : mm_wp d sn k (pc + 1) la (.int (x + y) :: st) m Q) : mm_wp d sn k pc la (.int y :: .int x :: st) m Q := wp_x hb hd rfl rfl (fun _ => rfl) hw
theorem wp_isub (hb : mm_b k = cc) {x y : Int32} (hd : decode cc pc = .ok (.isub, 1)) (hw : mm_wp d sn k (pc + 1) la (.int (x - y) :: st) m Q) : mm_wp d sn k pc la (.int y :: .int x :: st) m Q := wp_x hb hd rfl rfl (fun _ => rfl) hw
theorem wp_imul (hb : mm_b k = cc) {x y : Int32} (hd : decode cc pc = .ok (.imul, 1)) (hw : mm_wp d sn k (pc + 1) la (.int (x * y) :: st) m Q) : mm_wp d sn k pc la (.int y :: .int x :: st) m Q := wp_x hb hd rfl rfl (fun _ => rfl) hw
theorem wp_iand (hb : mm_b k = cc) {x y : Int32} (hd : decode cc pc = .ok (.iand, 1)) (hw : mm_wp d sn k (pc + 1) la (.int (x &&& y) :: st) m Q) : mm_wp d sn k pc la (.int y :: .int x :: st) m Q := wp_x hb hd rfl rfl (fun _ => rfl) hw
theorem wp_ior (hb : mm_b k = cc) {x y : Int32} (hd : decode cc pc = .ok (.ior, 1)) (hw : mm_wp d sn k (pc + 1) la (.int (x ||| y) :: st) m Q) : mm_wp d sn k pc la (.int y :: .int x :: st) m Q := wp_x hb hd rfl rfl (fun _ => rfl) hw
theorem wp_ixor (hb : mm_b k = cc) {x y : Int32} (hd : decode cc pc = .ok (.ixor, 1)) (hw : mm_wp d sn k (pc + 1) la (.int (x ^^^ y) :: st) m Q) : mm_wp d sn k pc la (.int y :: .int x :: st) m Q := wp_x hb hd rfl rfl (fun _ => rfl) hw
theorem wp_ishl (hb : mm_b k = cc) {x y : Int32} (hd : decode cc pc = .ok (.ishl, 1)) (hw : mm_wp d sn k (pc + 1) la (.int (mm_shl x y) :: st) m Q) : mm_wp d sn k pc la (.int y :: .int x :: st) m Q := wp_x hb hd rfl rfl (fun _ => rfl) hw
theorem wp_ishr (hb : mm_b k = cc) {x y : Int32} (hd : decode cc pc = .ok (.ishr, 1)) (hw : mm_wp d sn k (pc + 1) la (.int (mm_shr x y) :: st) m Q) : mm_wp d sn k pc la (.int y :: .int x :: st) m Q := wp_x hb hd rfl rfl (fun _ => rfl) hw
theorem wp_iushr (hb : mm_b k = cc) {x y : Int32} (hd : decode cc pc = .ok (.iushr, 1)) (hw : mm_wp d sn k (pc + 1) la (.int (mm_ushr x y) :: st) m Q) : mm_wp d sn k pc la (.int y :: .int x :: st) m Q := wp_x hb hd rfl rfl (fun _ => rfl) hw
theorem wp_idiv (hb : mm_b k = cc) {x y : Int32} (hne : ¬ y = 0) (hd : decode cc pc = .ok (.idiv, 1)) (hw : mm_wp d sn k (pc + 1) la (.int (x / y) :: st) m Q) : mm_wp d sn k pc la (.int y :: .int x :: st) m Q := wp_x hb hd rfl rfl (fun C => by unfold mm_x mm_x1 mm_x2; simp only [mm_or]; rw [if_neg hne]) hw
theorem wp_irem (hb : mm_b k = cc) {x y : Int32} (hne : ¬ y = 0) (hd : decode cc pc = .ok (.irem, 1)) (hw : mm_wp d sn k (pc + 1) la (.int (mm_rem x y) :: st) m Q) : mm_wp d sn k pc la (.int y :: .int x :: st) m Q := wp_x hb hd rfl rfl (fun C => by unfold mm_x mm_x1 mm_x2; simp only [mm_or]; rw [if_neg hne]) hw
theorem wp_land (hb : mm_b k = cc) {x y : Int64} (hd : decode cc pc = .ok (.land, 1)) (hw : mm_wp d sn k (pc + 1) la (.long (x &&& y) :: st) m Q) : mm_wp d sn k pc la (.long y :: .long x :: st) m Q := wp_x hb hd rfl rfl (fun _ => rfl) hw
theorem wp_lor (hb : mm_b k = cc) {x y : Int64} (hd : decode cc pc = .ok (.lor, 1)) (hw : mm_wp d sn k (pc + 1) la (.long (x ||| y) :: st) m Q) : mm_wp d sn k pc la (.long y :: .long x :: st) m Q := wp_x hb hd rfl rfl (fun _ => rfl) hw
theorem wp_lshl (hb : mm_b k = cc) {x : Int64} {y : Int32} (hd : decode cc pc = .ok (.lshl, 1)) (hw : mm_wp d sn k (pc + 1) la (.long (mm_lshl x y) :: st) m Q) : mm_wp d sn k pc la (.int y :: .long x :: st) m Q := wp_x hb hd rfl rfl (fun _ => rfl) hw
theorem wp_lcmp (hb : mm_b k = cc) {x y : Int64} (hd : decode cc pc = .ok (.lcmp, 1)) (hw : mm_wp d sn k (pc + 1) la (.int (lg_cmp x y) :: st) m Q) : mm_wp d sn k pc la (.long y :: .long x :: st) m Q := wp_x hb hd rfl rfl (fun _ => rfl) hw
theorem wp_i2l (hb : mm_b k = cc) {x : Int32} (hd : decode cc pc = .ok (.i2l, 1)) (hw : mm_wp d sn k (pc + 1) la (.long x.toInt64 :: st) m Q) : mm_wp d sn k pc la (.int x :: st) m Q := wp_x hb hd rfl rfl (fun _ => rfl) hw
theorem wp_l2i (hb : mm_b k = cc) {x : Int64} (hd : decode cc pc = .ok (.l2i, 1)) (hw : mm_wp d sn k (pc + 1) la (.int x.toInt32 :: st) m Q) : mm_wp d sn k pc la (.long x :: st) m Q := wp_x hb hd rfl rfl (fun _ => rfl) hw
theorem wp_i2b (hb : mm_b k = cc) {x : Int32} (hd : decode cc pc = .ok (.i2b, 1)) (hw : mm_wp d sn k (pc + 1) la (.int x.toInt8.toInt32 :: st) m Q) : mm_wp d sn k pc la (.int x :: st) m Q := wp_x hb hd rfl rfl (fun _ => rfl) hw
theorem wp_i2s (hb : mm_b k = cc) {x : Int32} (hd : decode cc pc = .ok (.i2s, 1)) (hw : mm_wp d sn k (pc + 1) la (.int x.toInt16.toInt32 :: st) m Q) : mm_wp d sn k pc la (.int x :: st) m Q := wp_x hb hd rfl rfl (fun _ => rfl) hw
theorem wp_goto (hb : mm_b k = cc) {off : Int} (ht : mm_ok pc off = true ∧ mm_tg pc off = t) (hd : decode cc pc = .ok (.goto off, 3)) (hw : mm_wp d sn k t la st m Q) : mm_wp d sn k pc la st m Q := wp_x hb hd rfl rfl (fun C => by unfold mm_x mm_x1 mm_x2 mm_x3; simp only [mm_or]; rw [if_pos ht.1, ht.2]) hw
theorem wp_if_eq (hb : mm_b k = cc) {off : Int} {x y : Int32} (ht : mm_ok pc off = true ∧ mm_tg pc off = t) (hd : decode cc pc = .ok (.ifCond .eq off, 3)) (hw : (x = 0 → mm_wp d sn k t la st m Q) ∧ (¬ (x = 0) → mm_wp d sn k (pc + 3) la st m Q)) : mm_wp d sn k pc la (.int x :: st) m Q := by
  by_cases q : x = 0
  · exact wp_x hb hd rfl rfl (fun C => by unfold mm_x mm_x1 mm_x2 mm_x3; simp only [mm_or]; rw [if_pos ht.1, ht.2, if_pos (by simpa [mm_cmp] using q)]) (hw.1 q)
  · exact wp_x hb hd rfl rfl (fun C => by unfold mm_x mm_x1 mm_x2 mm_x3; simp only [mm_or]; rw [if_pos ht.1, if_neg (by simpa [mm_cmp] using q)]) (hw.2 q)
theorem wp_icmp_eq (hb : mm_b k = cc) {off : Int} {x y : Int32} (ht : mm_ok pc off = true ∧ mm_tg pc off = t) (hd : decode cc pc = .ok (.if_icmp .eq off, 3)) (hw : (x = y → mm_wp d sn k t la st m Q) ∧ (¬ (x = y) → mm_wp d sn k (pc + 3) la st m Q)) : mm_wp d sn k pc la (.int y :: .int x :: st) m Q := by
  by_cases q : x = y
  · exact wp_x hb hd rfl rfl (fun C => by unfold mm_x mm_x1 mm_x2 mm_x3; simp only [mm_or]; rw [if_pos ht.1, ht.2, if_pos (by simpa [mm_cmp] using q)]) (hw.1 q)
  · exact wp_x hb hd rfl rfl (fun C => by unfold mm_x mm_x1 mm_x2 mm_x3; simp only [mm_or]; rw [if_pos ht.1, if_neg (by simpa [mm_cmp] using q)]) (hw.2 q)
theorem wp_if_ne (hb : mm_b k = cc) {off : Int} {x y : Int32} (ht : mm_ok pc off = true ∧ mm_tg pc off = t) (hd : decode cc pc = .ok (.ifCond .ne off, 3)) (hw : (¬ x = 0 → mm_wp d sn k t la st m Q) ∧ (¬ (¬ x = 0) → mm_wp d sn k (pc + 3) la st m Q)) : mm_wp d sn k pc la (.int x :: st) m Q := by
  by_cases q : ¬ x = 0
  · exact wp_x hb hd rfl rfl (fun C => by unfold mm_x mm_x1 mm_x2 mm_x3; simp only [mm_or]; rw [if_pos ht.1, ht.2, if_pos (by simpa [mm_cmp] using q)]) (hw.1 q)
  · exact wp_x hb hd rfl rfl (fun C => by unfold mm_x mm_x1 mm_x2 mm_x3; simp only [mm_or]; rw [if_pos ht.1, if_neg (by simpa [mm_cmp] using q)]) (hw.2 q)
theorem wp_icmp_ne (hb : mm_b k = cc) {off : Int} {x y : Int32} (ht : mm_ok pc off = true ∧ mm_tg pc off = t) (hd : decode cc pc = .ok (.if_icmp .ne off, 3)) (hw : (¬ x = y → mm_wp d sn k t la st m Q) ∧ (¬ (¬ x = y) → mm_wp d sn k (pc + 3) la st m Q)) : mm_wp d sn k pc la (.int y :: .int x :: st) m Q := by
  by_cases q : ¬ x = y
  · exact wp_x hb hd rfl rfl (fun C => by unfold mm_x mm_x1 mm_x2 mm_x3; simp only [mm_or]; rw [if_pos ht.1, ht.2, if_pos (by simpa [mm_cmp] using q)]) (hw.1 q)
  · exact wp_x hb hd rfl rfl (fun C => by unfold mm_x mm_x1 mm_x2 mm_x3; simp only [mm_or]; rw [if_pos ht.1, if_neg (by simpa [mm_cmp] using q)]) (hw.2 q)
theorem wp_if_lt (hb : mm_b k = cc) {off : Int} {x y : Int32} (ht : mm_ok pc off = true ∧ mm_tg pc off = t) (hd : decode cc pc = .ok (.ifCond .lt off, 3)) (hw : (x < 0 → mm_wp d sn k t la st m Q) ∧ (¬ (x < 0) → mm_wp d sn k (pc + 3) la st m Q)) : mm_wp d sn k pc la (.int x :: st) m Q := by
  by_cases q : x < 0
  · exact wp_x hb hd rfl rfl (fun C => by unfold mm_x mm_x1 mm_x2 mm_x3; simp only [mm_or]; rw [if_pos ht.1, ht.2, if_pos (by simpa [mm_cmp] using q)]) (hw.1 q)
  · exact wp_x hb hd rfl rfl (fun C => by unfold mm_x mm_x1 mm_x2 mm_x3; simp only [mm_or]; rw [if_pos ht.1, if_neg (by simpa [mm_cmp] using q)]) (hw.2 q)
theorem wp_icmp_lt (hb : mm_b k = cc) {off : Int} {x y : Int32} (ht : mm_ok pc off = true ∧ mm_tg pc off = t) (hd : decode cc pc = .ok (.if_icmp .lt off, 3)) (hw : (x < y → mm_wp d sn k t la st m Q) ∧ (¬ (x < y) → mm_wp d sn k (pc + 3) la st m Q)) : mm_wp d sn k pc la (.int y :: .int x :: st) m Q := by
  by_cases q : x < y
  · exact wp_x hb hd rfl rfl (fun C => by unfold mm_x mm_x1 mm_x2 mm_x3; simp only [mm_or]; rw [if_pos ht.1, ht.2, if_pos (by simpa [mm_cmp] using q)]) (hw.1 q)
  · exact wp_x hb hd rfl rfl (fun C => by unfold mm_x mm_x1 mm_x2 mm_x3; simp only [mm_or]; rw [if_pos ht.1, if_neg (by simpa [mm_cmp] using q)]) (hw.2 q)
theorem wp_if_ge (hb : mm_b k = cc) {off : Int} {x y : Int32} (ht : mm_ok pc off = true ∧ mm_tg pc off = t) (hd : decode cc pc = .ok (.ifCond .ge off, 3)) (hw : (0 ≤ x → mm_wp d sn k t la st m Q) ∧ (¬ (0 ≤ x) → mm_wp d sn k (pc + 3) la st m Q)) : mm_wp d sn k pc la (.int x :: st) m Q := by
  by_cases q : 0 ≤ x
  · exact wp_x hb hd rfl rfl (fun C => by unfold mm_x mm_x1 mm_x2 mm_x3; simp only [mm_or]; rw [if_pos ht.1, ht.2, if_pos (by simpa [mm_cmp] using q)]) (hw.1 q)
  · exact wp_x hb hd rfl rfl (fun C => by unfold mm_x mm_x1 mm_x2 mm_x3; simp only [mm_or]; rw [if_pos ht.1, if_neg (by simpa [mm_cmp] using q)]) (hw.2 q)
theorem wp_icmp_ge (hb : mm_b k = cc) {off : Int} {x y : Int32} (ht : mm_ok pc off = true ∧ mm_tg pc off = t) (hd : decode cc pc = .ok (.if_icmp .ge off, 3)) (hw : (y ≤ x → mm_wp d sn k t la st m Q) ∧ (¬ (y ≤ x) → mm_wp d sn k (pc + 3) la st m Q)) : mm_wp d sn k pc la (.int y :: .int x :: st) m Q := by
  by_cases q : y ≤ x
  · exact wp_x hb hd rfl rfl (fun C => by unfold mm_x mm_x1 mm_x2 mm_x3; simp only [mm_or]; rw [if_pos ht.1, ht.2, if_pos (by simpa [mm_cmp] using q)]) (hw.1 q)
  · exact wp_x hb hd rfl rfl (fun C => by unfold mm_x mm_x1 mm_x2 mm_x3; simp only [mm_or]; rw [if_pos ht.1, if_neg (by simpa [mm_cmp] using q)]) (hw.2 q)
theorem wp_if_gt (hb : mm_b k = cc) {off : Int} {x y : Int32} (ht : mm_ok pc off = true ∧ mm_tg pc off = t) (hd : decode cc pc = .ok (.ifCond .gt off, 3)) (hw : (0 < x → mm_wp d sn k t la st m Q) ∧ (¬ (0 < x) → mm_wp d sn k (pc + 3) la st m Q)) : mm_wp d sn k pc la (.int x :: st) m Q := by
  by_cases q : 0 < x
  · exact wp_x hb hd rfl rfl (fun C => by unfold mm_x mm_x1 mm_x2 mm_x3; simp only [mm_or]; rw [if_pos ht.1, ht.2, if_pos (by simpa [mm_cmp] using q)]) (hw.1 q)
  · exact wp_x hb hd rfl rfl (fun C => by unfold mm_x mm_x1 mm_x2 mm_x3; simp only [mm_or]; rw [if_pos ht.1, if_neg (by simpa [mm_cmp] using q)]) (hw.2 q)
theorem wp_icmp_gt (hb : mm_b k = cc) {off : Int} {x y : Int32} (ht : mm_ok pc off = true ∧ mm_tg pc off = t) (hd : decode cc pc = .ok (.if_icmp .gt off, 3)) (hw : (y < x → mm_wp d sn k t la st m Q) ∧ (¬ (y < x) → mm_wp d sn k (pc + 3) la st m Q)) : mm_wp d sn k pc la (.int y :: .int x :: st) m Q := by
  by_cases q : y < x
  · exact wp_x hb hd rfl rfl (fun C => by unfold mm_x mm_x1 mm_x2 mm_x3; simp only [mm_or]; rw [if_pos ht.1, ht.2, if_pos (by simpa [mm_cmp] using q)]) (hw.1 q)
  · exact wp_x hb hd rfl rfl (fun C => by unfold mm_x mm_x1 mm_x2 mm_x3; simp only [mm_or]; rw [if_pos ht.1, if_neg (by simpa [mm_cmp] using q)]) (hw.2 q)
theorem wp_if_le (hb : mm_b k = cc) {off : Int} {x y : Int32} (ht : mm_ok pc off = true ∧ mm_tg pc off = t) (hd : decode cc pc = .ok (.ifCond .le off, 3)) (hw : (x ≤ 0 → mm_wp d sn k t la st m Q) ∧ (¬ (x ≤ 0) → mm_wp d sn k (pc + 3) la st m Q)) : mm_wp d sn k pc la (.int x :: st) m Q := by
  by_cases q : x ≤ 0
  · exact wp_x hb hd rfl rfl (fun C => by unfold mm_x mm_x1 mm_x2 mm_x3; simp only [mm_or]; rw [if_pos ht.1, ht.2, if_pos (by simpa [mm_cmp] using q)]) (hw.1 q)
  · exact wp_x hb hd rfl rfl (fun C => by unfold mm_x mm_x1 mm_x2 mm_x3; simp only [mm_or]; rw [if_pos ht.1, if_neg (by simpa [mm_cmp] using q)]) (hw.2 q)
theorem wp_icmp_le (hb : mm_b k = cc) {off : Int} {x y : Int32} (ht : mm_ok pc off = true ∧ mm_tg pc off = t) (hd : decode cc pc = .ok (.if_icmp .le off, 3)) (hw : (x ≤ y → mm_wp d sn k t la st m Q) ∧ (¬ (x ≤ y) → mm_wp d sn k (pc + 3) la st m Q)) : mm_wp d sn k pc la (.int y :: .int x :: st) m Q := by
  by_cases q : x ≤ y
  · exact wp_x hb hd rfl rfl (fun C => by unfold mm_x mm_x1 mm_x2 mm_x3; simp only [mm_or]; rw [if_pos ht.1, ht.2, if_pos (by simpa [mm_cmp] using q)]) (hw.1 q)
  · exact wp_x hb hd rfl rfl (fun C => by unfold mm_x mm_x1 mm_x2 mm_x3; simp only [mm_or]; rw [if_pos ht.1, if_neg (by simpa [mm_cmp] using q)]) (hw.2 q)
theorem wp_ifnullN (hb : mm_b k = cc) {off : Int} (ht : mm_ok pc off = true ∧ mm_tg pc off = t) (hd : decode cc pc = .ok (.ifnull off, 3)) (hw : mm_wp d sn k t la st m Q) : mm_wp d sn k pc la (.null :: st) m Q := wp_x hb hd rfl rfl (fun C => by unfold mm_x mm_x1 mm_x2 mm_x3; simp only [mm_or]; rw [if_pos ht.1, ht.2]) hw
theorem wp_ifnull (hb : mm_b k = cc) {off : Int} {x : Nat} (hd : decode cc pc = .ok (.ifnull off, 3)) (hw : mm_wp d sn k (pc + 3) la st m Q) : mm_wp d sn k pc la (.ref x :: st) m Q := wp_x hb hd rfl rfl (fun C => rfl) hw
theorem wp_ifnonnull (hb : mm_b k = cc) {off : Int} {x : Nat} (ht : mm_ok pc off = true ∧ mm_tg pc off = t) (hd : decode cc pc = .ok (.ifnonnull off, 3)) (hw : mm_wp d sn k t la st m Q) : mm_wp d sn k pc la (.ref x :: st) m Q := wp_x hb hd rfl rfl (fun C => by unfold mm_x mm_x1 mm_x2 mm_x3; simp only [mm_or]; rw [if_pos ht.1, ht.2]) hw
theorem wp_ifnonnullN (hb : mm_b k = cc) {off : Int} (hd : decode cc pc = .ok (.ifnonnull off, 3)) (hw : mm_wp d sn k (pc + 3) la st m Q) : mm_wp d sn k pc la (.null :: st) m Q := wp_x hb hd rfl rfl (fun C => rfl) hw
theorem wp_tabO (hb : mm_b k = cc) {df lo hi : Int} {offs : Array Int} {x : Int32} (hc : x.toInt < lo ∨ hi < x.toInt) (ht : mm_ok pc df = true ∧ mm_tg pc df = t) (hd : decode cc pc = .ok (.tableswitch df lo hi offs, n)) (hw : mm_wp d sn k t la st m Q) : mm_wp d sn k pc la (.int x :: st) m Q := wp_x hb hd rfl rfl (fun C => by unfold mm_x mm_x1 mm_x2 mm_x3; simp only [mm_or]; rw [if_pos hc, if_pos ht.1, ht.2]) hw
theorem wp_tabI (hb : mm_b k = cc) {df lo hi off : Int} {offs : Array Int} {x : Int32} (hc : ¬ (x.toInt < lo ∨ hi < x.toInt)) (ho : offs[(x.toInt - lo).toNat]? = some off) (ht : mm_ok pc off = true ∧ mm_tg pc off = t) (hd : decode cc pc = .ok (.tableswitch df lo hi offs, n)) (hw : mm_wp d sn k t la st m Q) : mm_wp d sn k pc la (.int x :: st) m Q := wp_x hb hd rfl rfl (fun C => by unfold mm_x mm_x1 mm_x2 mm_x3; simp only [mm_or]; rw [if_neg hc, ho]; simp only; rw [if_pos ht.1, ht.2]) hw
theorem wp_lsw (hb : mm_b k = cc) {df off : Int} {ps : Array (Int × Int)} {x : Int32} (hp : (ps.toList.zip (ps.toList.drop 1)).all (fun (a, next) => a.1 < next.1) = true) (ho : Op.lookupswitch.offset ps.toList df x.toInt = off) (ht : mm_ok pc off = true ∧ mm_tg pc off = t) (hd : decode cc pc = .ok (.lookupswitch df ps, n)) (hw : mm_wp d sn k t la st m Q) : mm_wp d sn k pc la (.int x :: st) m Q := wp_x hb hd rfl rfl (fun C => by subst ho; unfold mm_x mm_x1 mm_x2 mm_x3; simp only [mm_or]; rw [if_pos ⟨hp, ht.1⟩, ht.2]) hw
theorem wp_getI (hb : mm_b k = cc) {a f N : Nat} (ho : mm_o k = o) (hf : mm_lf o j = some (c, f)) (hk : mm_fk c f ≠ 2 ∧ mm_fk c f ≠ 9) (hM : (mm_M0 sn)[a]? = some (c, N)) (hd : decode cc pc = .ok (.getfield j, 3)) (hw : mm_wp d sn k (pc + 3) la (.int (m.1 a f) :: st) m Q) : mm_wp d sn k pc la (.ref a :: st) m Q := wp_x hb hd rfl rfl (fun C => by
  subst ho
  have hM : (mm_hp sn m).1[a]? = some (c, N) := hM
  unfold mm_x mm_x1 mm_x2 mm_x3 mm_x4
  simp only [mm_or, hf, hM]
  rw [if_pos trivial, if_neg hk.1, if_neg hk.2]
  rfl) hw
theorem wp_getR (hb : mm_b k = cc) {a f N y : Nat} (ho : mm_o k = o) (hf : mm_lf o j = some (c, f)) (hk : mm_fk c f = 2) (hM : (mm_M0 sn)[a]? = some (c, N)) (hR : mm_R0 a f = some y) (hd : decode cc pc = .ok (.getfield j, 3)) (hw : mm_wp d sn k (pc + 3) la (.ref y :: st) m Q) : mm_wp d sn k pc la (.ref a :: st) m Q := wp_x hb hd rfl rfl (fun C => by
  subst ho
  have hM : (mm_hp sn m).1[a]? = some (c, N) := hM
  have hR : (mm_hp sn m).2.1 a f = some y := hR
  unfold mm_x mm_x1 mm_x2 mm_x3 mm_x4
  simp only [mm_or, hf, hM]
  rw [if_pos trivial, if_pos hk, hR]
  rfl) hw
theorem wp_alen (hb : mm_b k = cc) {a N : Nat} {x : Int32} (hM : (mm_M0 sn)[a]? = some (t, N)) (h1 : 100 ≤ t ∧ t ≤ 108) (hx : Int32.ofNat N = x) (hd : decode cc pc = .ok (.arraylength, 1)) (hw : mm_wp d sn k (pc + 1) la (.int x :: st) m Q) : mm_wp d sn k pc la (.ref a :: st) m Q := wp_x hb hd rfl rfl (fun C => by
  subst hx
  have hM : (mm_hp sn m).1[a]? = some (t, N) := hM
  unfold mm_x mm_x1 mm_x2 mm_x3 mm_x4
  simp only [mm_or, hM]
  rw [if_pos h1]) hw
theorem mm_in1_of {a N : Nat} {x : Int32} (hM : (mm_M0 sn)[a]? = some (t, N)) (h : vp_in x N) : mm_in1 (mm_hp sn m) a t x = true := by
  have hM : (mm_hp sn m).1[a]? = some (t, N) := hM
  unfold mm_in1
  rw [hM]
  simp only [beq_self_eq_true, Bool.true_and, Bool.not_eq_true', decide_eq_false_iff_not]
  exact h
theorem wp_iaload (hb : mm_b k = cc) {a N q : Nat} {x : Int32} (hq : x.toNatClampNeg = q) (hM : (mm_M0 sn)[a]? = some (100, N)) (hi : vp_in x N) (hd : decode cc pc = .ok (.iaload, 1)) (hw : mm_wp d sn k (pc + 1) la (.int (m.1 a q) :: st) m Q) : mm_wp d sn k pc la (.int x :: .ref a :: st) m Q := wp_x hb hd rfl rfl (fun C => by subst hq; unfold mm_x mm_x1 mm_x2 mm_x3 mm_x4; simp only [mm_or]; rw [if_pos (mm_in1_of hM hi)]; rfl) hw
theorem wp_baload (hb : mm_b k = cc) {a N q : Nat} {x : Int32} (hq : x.toNatClampNeg = q) (hM : (mm_M0 sn)[a]? = some (101, N)) (hi : vp_in x N) (hd : decode cc pc = .ok (.baload, 1)) (hw : mm_wp d sn k (pc + 1) la (.int (m.1 a q) :: st) m Q) : mm_wp d sn k pc la (.int x :: .ref a :: st) m Q := wp_x hb hd rfl rfl (fun C => by subst hq; unfold mm_x mm_x1 mm_x2 mm_x3 mm_x4; simp only [mm_or]; rw [if_pos (mm_in1_of hM hi)]; rfl) hw
theorem wp_laload (hb : mm_b k = cc) {a N q : Nat} {x : Int32} (hq : x.toNatClampNeg = q) (hM : (mm_M0 sn)[a]? = some (102, N)) (hi : vp_in x N) (hd : decode cc pc = .ok (.laload, 1)) (hw : mm_wp d sn k (pc + 1) la (.long (m.2 a q) :: st) m Q) : mm_wp d sn k pc la (.int x :: .ref a :: st) m Q := wp_x hb hd rfl rfl (fun C => by subst hq; unfold mm_x mm_x1 mm_x2 mm_x3 mm_x4; simp only [mm_or]; rw [if_pos (mm_in1_of hM hi)]; rfl) hw
theorem wp_aaload (hb : mm_b k = cc) {a N y : Nat} {x : Int32} (hM : (mm_M0 sn)[a]? = some (t, N)) (h1 : 103 ≤ t ∧ t ≤ 108) (hi : vp_in x N) (hR : mm_R0 a x.toNatClampNeg = some y) (hd : decode cc pc = .ok (.aaload, 1)) (hw : mm_wp d sn k (pc + 1) la (.ref y :: st) m Q) : mm_wp d sn k pc la (.int x :: .ref a :: st) m Q := wp_x hb hd rfl rfl (fun C => by
  have hM : (mm_hp sn m).1[a]? = some (t, N) := hM
  have hR : (mm_hp sn m).2.1 a x.toNatClampNeg = some y := hR
  unfold mm_x mm_x1 mm_x2 mm_x3 mm_x4
  simp only [mm_or, hM]
  rw [if_pos ⟨h1.1, h1.2, hi⟩, hR]
  rfl) hw
theorem wp_putI (hb : mm_b k = cc) {a f N : Nat} {x : Int32} (ho : mm_o k = o) (hf : mm_lf o j = some (c, f)) (hk : mm_fk c f = 0 ∧ mm_ff c f = false) (hM : (mm_M0 sn)[a]? = some (c, N)) (hd : decode cc pc = .ok (.putfield j, 3)) (hw : mm_wp d sn k (pc + 3) la st (mm_u2 m.1 a f x, m.2) Q) : mm_wp d sn k pc la (.int x :: .ref a :: st) m Q := wp_x hb hd rfl rfl (fun C => by
  subst ho
  have hM : (mm_hp sn m).1[a]? = some (c, N) := hM
  unfold mm_x mm_x1 mm_x2 mm_x3 mm_x4 mm_x5
  simp only [mm_or, hf, hM]
  rw [if_pos ⟨trivial, Or.inl hk.1, hk.2⟩]
  rfl) hw
theorem wp_putZ (hb : mm_b k = cc) {a f N : Nat} {x : Int32} (ho : mm_o k = o) (hf : mm_lf o j = some (c, f)) (hk : mm_fk c f = 1 ∧ mm_ff c f = false) (hx : x = 0 ∨ x = 1) (hM : (mm_M0 sn)[a]? = some (c, N)) (hd : decode cc pc = .ok (.putfield j, 3)) (hw : mm_wp d sn k (pc + 3) la st (mm_u2 m.1 a f x, m.2) Q) : mm_wp d sn k pc la (.int x :: .ref a :: st) m Q := wp_x hb hd rfl rfl (fun C => by
  subst ho
  have hM : (mm_hp sn m).1[a]? = some (c, N) := hM
  unfold mm_x mm_x1 mm_x2 mm_x3 mm_x4 mm_x5
  simp only [mm_or, hf, hM]
  rw [if_pos ⟨trivial, Or.inr ⟨hk.1, hx⟩, hk.2⟩]
  rfl) hw
theorem wp_iastore (hb : mm_b k = cc) {a N q : Nat} {x : Int32} {v} (hq : x.toNatClampNeg = q) (hM : (mm_M0 sn)[a]? = some (100, N)) (h0 : a ≠ 0) (hi : vp_in x N) (hd : decode cc pc = .ok (.iastore, 1)) (hw : mm_wp d sn k (pc + 1) la st (mm_u2 m.1 a q v, m.2) Q) : mm_wp d sn k pc la (.int v :: .int x :: .ref a :: st) m Q := wp_x hb hd rfl rfl (fun C => by subst hq; unfold mm_x mm_x1 mm_x2 mm_x3 mm_x4 mm_x5; simp only [mm_or]; rw [if_pos ⟨mm_in1_of hM hi, h0⟩]; rfl) hw
theorem wp_bastore (hb : mm_b k = cc) {a N q : Nat} {x : Int32} {v} (hq : x.toNatClampNeg = q) (hM : (mm_M0 sn)[a]? = some (101, N)) (h0 : a ≠ 0) (hi : vp_in x N) (hd : decode cc pc = .ok (.bastore, 1)) (hw : mm_wp d sn k (pc + 1) la st (mm_u2 m.1 a q (vp_nar .boolean v), m.2) Q) : mm_wp d sn k pc la (.int v :: .int x :: .ref a :: st) m Q := wp_x hb hd rfl rfl (fun C => by subst hq; unfold mm_x mm_x1 mm_x2 mm_x3 mm_x4 mm_x5; simp only [mm_or]; rw [if_pos ⟨mm_in1_of hM hi, h0⟩]; rfl) hw
theorem wp_lastore (hb : mm_b k = cc) {a N q : Nat} {x : Int32} {v} (hq : x.toNatClampNeg = q) (hM : (mm_M0 sn)[a]? = some (102, N)) (h0 : a ≠ 0) (hi : vp_in x N) (hd : decode cc pc = .ok (.lastore, 1)) (hw : mm_wp d sn k (pc + 1) la st (m.1, mm_u2 m.2 a q v) Q) : mm_wp d sn k pc la (.long v :: .int x :: .ref a :: st) m Q := wp_x hb hd rfl rfl (fun C => by subst hq; unfold mm_x mm_x1 mm_x2 mm_x3 mm_x4 mm_x5; simp only [mm_or]; rw [if_pos ⟨mm_in1_of hM hi, h0⟩]; rfl) hw
theorem wp_callV (hb : mm_b k = cc) {k' a N : Nat} {as r : List Value} (ho : mm_o k = o) (hl : mm_lm o j = some (k', 0)) (hp : mm_pop (mm_np k') st = some (as, .ref a :: r)) (hM : (mm_M0 sn)[a]? = some (c, N)) (hc : c = mm_o k' ∧ c < 12) (hr : mm_cat r ≤ 8) (hd : decode cc pc = .ok (.invokevirtual j, 3)) (hs : mm_sp d sn k' (.ref a :: as) m (fun v m' => mm_wp d sn k (pc + 3) la (v.toList ++ r) m' Q)) : mm_wp d sn k pc la st m Q := wp_c (n := 3) (r := r) hb hd rfl rfl (fun C h0 => by
  subst ho
  have hA : mm_kA (mm_hp sn m) a = c := by
    have hM : (mm_hp sn m).1[a]? = some (c, N) := hM
    unfold mm_kA
    rw [hM]
  unfold mm_x mm_x1 mm_x2 mm_x3 mm_x4 mm_x5 mm_x6 mm_x7
  simp only [mm_or, hl, hp]
  rw [if_pos ⟨trivial, h0⟩, if_pos ⟨hA.trans hc.1, by rw [hA]; exact hc.2, hr⟩]) hs
theorem wp_callS (hb : mm_b k = cc) {k' kd : Nat} {as r : List Value} (ho : mm_o k = o) (hl : mm_lm o j = some (k', kd)) (hk : kd = 1 ∨ kd = 3) (hp : mm_pop (mm_np k') st = some (as, r)) (hr : mm_cat r ≤ 8) (hd : decode cc pc = .ok (.invokestatic j, 3)) (hs : mm_sp d sn k' as m (fun v m' => mm_wp d sn k (pc + 3) la (v.toList ++ r) m' Q)) : mm_wp d sn k pc la st m Q := wp_c (n := 3) (r := r) hb hd rfl rfl (fun C h0 => by
  subst ho
  unfold mm_x mm_x1 mm_x2 mm_x3 mm_x4 mm_x5 mm_x6 mm_x7
  simp only [mm_or, hl, hp]
  rw [if_pos h0, if_pos hk, if_pos hr]) hs
theorem wp_max (hb : mm_b k = cc) {k' : Nat} {x y : Int32} (ho : mm_o k = o) (hl : mm_lm o j = some (k', 6)) (hr : mm_cat st ≤ 8) (h0 : d ≠ 0) (hd : decode cc pc = .ok (.invokestatic j, 3)) (hw : mm_wp d sn k (pc + 3) la (.int (if x < y then y else x) :: st) m Q) : mm_wp d sn k pc la (.int y :: .int x :: st) m Q := wp_x hb hd rfl rfl (fun C => by
  subst ho
  unfold mm_x mm_x1 mm_x2 mm_x3 mm_x4 mm_x5 mm_x6 mm_x7
  simp only [mm_or, hl]
  rw [if_pos h0, if_neg (by decide), if_neg (by decide), if_pos trivial, if_pos hr]) hw
theorem wp_min (hb : mm_b k = cc) {k' : Nat} {x y : Int32} (ho : mm_o k = o) (hl : mm_lm o j = some (k', 7)) (hr : mm_cat st ≤ 8) (h0 : d ≠ 0) (hd : decode cc pc = .ok (.invokestatic j, 3)) (hw : mm_wp d sn k (pc + 3) la (.int (if y < x then y else x) :: st) m Q) : mm_wp d sn k pc la (.int y :: .int x :: st) m Q := wp_x hb hd rfl rfl (fun C => by
  subst ho
  unfold mm_x mm_x1 mm_x2 mm_x3 mm_x4 mm_x5 mm_x6 mm_x7
  simp only [mm_or, hl]
  rw [if_pos h0, if_neg (by decide), if_neg (by decide), if_neg (by decide), if_pos trivial, if_pos hr]) hw
theorem wp_copyI (hb : mm_b k = cc) {k' a b n0 n1 : Nat} {q dp sp : Int32} (ho : mm_o k = o) (hl : mm_lm o j = some (k', 4)) (hr : mm_cat st ≤ 8) (h0 : d ≠ 0) (hM0 : (mm_M0 sn)[b]? = some (100, n0)) (hM1 : (mm_M0 sn)[a]? = some (100, n1)) (hz : a ≠ 0 ∧ b ≠ 0) (hc : ¬ sp < 0 ∧ ¬ dp < 0 ∧ ¬ q < 0 ∧ sp.toNatClampNeg + q.toNatClampNeg ≤ n0 ∧ dp.toNatClampNeg + q.toNatClampNeg ≤ n1) (hd : decode cc pc = .ok (.invokestatic j, 3)) (hw : mm_wp d sn k (pc + 3) la st (mm_row m.1 a (va_cpy (m.1 b) (m.1 a) sp.toNatClampNeg dp.toNatClampNeg q.toNatClampNeg), m.2) Q) : mm_wp d sn k pc la (.int q :: .int dp :: .ref a :: .int sp :: .ref b :: st) m Q := wp_x hb hd rfl rfl (fun C => by
  subst ho
  have hM0 : (mm_hp sn m).1[b]? = some (100, n0) := hM0
  have hM1 : (mm_hp sn m).1[a]? = some (100, n1) := hM1
  unfold mm_x mm_x1 mm_x2 mm_x3 mm_x4 mm_x5 mm_x6 mm_x7 mm_ac
  simp only [mm_or, hl, hM0, hM1]
  rw [if_pos h0, if_neg (by decide), if_pos trivial, if_pos ⟨Or.inl trivial, trivial, hz.1, hz.2, hc.1, hc.2.1, hc.2.2.1, hc.2.2.2.1, hc.2.2.2.2, hr⟩, if_pos trivial]
  rfl) hw
theorem wp_copyL (hb : mm_b k = cc) {k' a b n0 n1 : Nat} {q dp sp : Int32} (ho : mm_o k = o) (hl : mm_lm o j = some (k', 4)) (hr : mm_cat st ≤ 8) (h0 : d ≠ 0) (hM0 : (mm_M0 sn)[b]? = some (102, n0)) (hM1 : (mm_M0 sn)[a]? = some (102, n1)) (hz : a ≠ 0 ∧ b ≠ 0) (hc : ¬ sp < 0 ∧ ¬ dp < 0 ∧ ¬ q < 0 ∧ sp.toNatClampNeg + q.toNatClampNeg ≤ n0 ∧ dp.toNatClampNeg + q.toNatClampNeg ≤ n1) (hd : decode cc pc = .ok (.invokestatic j, 3)) (hw : mm_wp d sn k (pc + 3) la st (m.1, mm_row m.2 a (va_cpy (m.2 b) (m.2 a) sp.toNatClampNeg dp.toNatClampNeg q.toNatClampNeg)) Q) : mm_wp d sn k pc la (.int q :: .int dp :: .ref a :: .int sp :: .ref b :: st) m Q := wp_x hb hd rfl rfl (fun C => by
  subst ho
  have hM0 : (mm_hp sn m).1[b]? = some (102, n0) := hM0
  have hM1 : (mm_hp sn m).1[a]? = some (102, n1) := hM1
  unfold mm_x mm_x1 mm_x2 mm_x3 mm_x4 mm_x5 mm_x6 mm_x7 mm_ac
  simp only [mm_or, hl, hM0, hM1]
  rw [if_pos h0, if_neg (by decide), if_pos trivial, if_pos ⟨Or.inr trivial, trivial, hz.1, hz.2, hc.1, hc.2.1, hc.2.2.1, hc.2.2.2.1, hc.2.2.2.2, hr⟩, if_neg (by decide)]
  rfl) hw
theorem wp_retI {P : Int32 → mm_Mem → Prop} {x : Int32} (hb : mm_b k = cc) (hr : mm_rt k = some .int) (hd : decode cc pc = .ok (.ireturn, 1)) (h : P x m) : mm_wp d sn k pc la [.int x] m (qI P) := wp_ret (v := some (.int x)) hb hd rfl (by unfold mm_rt1; simp only; rw [if_pos (Or.inl hr)]) ⟨x, rfl, h⟩
theorem wp_retZ {P : Int32 → mm_Mem → Prop} {x : Int32} (hb : mm_b k = cc) (hr : mm_rt k = some .boolean) (hx : x = 0 ∨ x = 1) (hd : decode cc pc = .ok (.ireturn, 1)) (h : P x m) : mm_wp d sn k pc la [.int x] m (qI P) := wp_ret (v := some (.int x)) hb hd rfl (by unfold mm_rt1; simp only; rw [if_pos (Or.inr ⟨hr, hx⟩)]) ⟨x, rfl, h⟩
theorem wp_retL {P : Int64 → mm_Mem → Prop} {x : Int64} (hb : mm_b k = cc) (hr : mm_rt k = some .long) (hd : decode cc pc = .ok (.lreturn, 1)) (h : P x m) : mm_wp d sn k pc la [.long x] m (qL P) := wp_ret (v := some (.long x)) hb hd rfl (by unfold mm_rt1; simp only; rw [if_pos hr]) ⟨x, rfl, h⟩
theorem wp_retV {P : mm_Mem → Prop} (hb : mm_b k = cc) (hr : mm_rt k = none) (hd : decode cc pc = .ok (.return_, 1)) (h : P m) : mm_wp d sn k pc la [] m (qV P) := wp_ret (v := none) hb hd rfl (by unfold mm_rt1; simp only; rw [if_pos hr]) ⟨rfl, h⟩
theorem wp_retR {P : Option Nat → mm_Mem → Prop} {x : Nat} {s : String} (hb : mm_b k = cc) (hr : mm_rt k = some (.object s)) (hd : decode cc pc = .ok (.areturn, 1)) (h : P (some x) m) : mm_wp d sn k pc la [.ref x] m (qR P) := wp_ret (v := some (.ref x)) hb hd rfl (by unfold mm_rt1; simp only [hr]) ⟨some x, rfl, h⟩
theorem wp_retN {P : Option Nat → mm_Mem → Prop} {s : String} (hb : mm_b k = cc) (hr : mm_rt k = some (.object s)) (hd : decode cc pc = .ok (.areturn, 1)) (h : P none m) : mm_wp d sn k pc la [.null] m (qR P) := wp_ret (v := some .null) hb hd rfl (by unfold mm_rt1; simp only [hr]) ⟨none, rfl, h⟩
-- answers of a call, by kind
theorem sp_cI {k' : Nat} {as r : List Value} (h : mm_sp d sn k' as m (qI fun x m' => mm_wp d sn k pc la (.int x :: r) m' Q)) : mm_sp d sn k' as m (fun v m' => mm_wp d sn k pc la (v.toList ++ r) m' Q) := h.to fun _ _ ⟨x, e, h⟩ => by subst e; exact h
theorem sp_cL {k' : Nat} {as r : List Value} (h : mm_sp d sn k' as m (qL fun x m' => mm_wp d sn k pc la (.long x :: r) m' Q)) : mm_sp d sn k' as m (fun v m' => mm_wp d sn k pc la (v.toList ++ r) m' Q) := h.to fun _ _ ⟨x, e, h⟩ => by subst e; exact h
theorem sp_cV {k' : Nat} {as r : List Value} (h : mm_sp d sn k' as m (qV fun m' => mm_wp d sn k pc la r m' Q)) : mm_sp d sn k' as m (fun v m' => mm_wp d sn k pc la (v.toList ++ r) m' Q) := h.to fun _ _ ⟨e, h⟩ => by subst e; exact h
theorem sp_cR {k' : Nat} {as r : List Value} (h : mm_sp d sn k' as m (qR fun x m' => (x = none → mm_wp d sn k pc la (.null :: r) m' Q) ∧ (∀ a, x = some a → mm_wp d sn k pc la (.ref a :: r) m' Q))) : mm_sp d sn k' as m (fun v m' => mm_wp d sn k pc la (v.toList ++ r) m' Q) := h.to fun _ _ ⟨x, e, h⟩ => by
  subst e
  cases x with
  | none => exact h.1 rfl
  | some a => exact h.2 a rfl
end WP
