-- WAYS: how they come to be
theorem e_vT {c : Prop} {T U : Prop} (h : c) (t : T) : (c → T) ∧ (¬ c → U) := ⟨fun _ => t, fun n => absurd h n⟩
theorem e_vF {c : Prop} {T U : Prop} (h : ¬ c) (u : U) : (c → T) ∧ (¬ c → U) := ⟨fun n => absurd n h, fun _ => u⟩
theorem s_modulo {d sn a b : Nat} {m : mm_Mem} {P : Int32 → mm_Mem → Prop} (ha : a < 2147483648) (h0 : 0 < b) (hb : b < 2147483648) (h : P (nI (a % b)) m) : mm_sp (d + 1) sn kX10_modulo [.int (nI a), .int (nI b)] m (qI P) := by
  refine v_X10_modulo ?_
  simp (disch := omega) only [e_le, e_lt, e_eq, e_lt0, e_0le, e_le0, e_0lt, e_eq0, e_m1, e_m5, e_m1l, e_m5l, e_m1e, e_add, e_dec, e_sub, e_mul, e_div, e_rem, e_and, e_or, e_shl, e_shr, e_vin, e_nar, e_nar0, e_nar1, e_cl, e_b0, e_b00, e_b1, e_bt, e_andn, e_xor, Bool.not_eq_false, Bool.not_eq_true, Classical.not_not, not_false_eq_true, not_true_eq_false, true_implies, false_implies, true_and, and_true]
  exact ⟨fun _ => ⟨by omega, h⟩, fun c => by omega⟩
def swp (p x y : Nat) : Nat := if p = x then y else if p = y then x else p
theorem s_swapped {d sn p x y : Nat} {m : mm_Mem} {P : Int32 → mm_Mem → Prop} (hp : p < 2147483648) (hx : x < 2147483648) (hy : y < 2147483648) (h : P (nI (swp p x y)) m) : mm_sp (d + 1) sn kX9_swapped [.int (nI p), .int (nI x), .int (nI y)] m (qI P) := by
  refine v_X9_swapped ?_
  unfold swp at h
  simp (disch := omega) only [e_le, e_lt, e_eq, e_lt0, e_0le, e_le0, e_0lt, e_eq0, e_m1, e_m5, e_m1l, e_m5l, e_m1e, e_add, e_dec, e_sub, e_mul, e_div, e_rem, e_and, e_or, e_shl, e_shr, e_vin, e_nar, e_nar0, e_nar1, e_cl, e_b0, e_b00, e_b1, e_bt, e_andn, e_xor, Bool.not_eq_false, Bool.not_eq_true, Classical.not_not, not_false_eq_true, not_true_eq_false, true_implies, false_implies, true_and, and_true]
  refine ⟨fun e => ⟨fun e2 => ?_, fun e2 => ?_⟩, fun e => ?_⟩
  · rw [if_neg e, if_neg e2] at h; exact h
  · rw [if_neg e, if_pos e2] at h; exact h
  · rw [if_pos e] at h; exact h
def tk (k f n p : Nat) : Nat := if k = 0 then (p + f) % n else if k = 1 then (f + n - p) % n else if k = 2 then p * f % n else if k = 3 then swp p (f % n) ((f + 1) % n) else if p = n - 1 then p else (p + f) % (n - 1)
theorem tk_lt {k f n p : Nat} (hn : 2 ≤ n) (hp : p < n) : tk k f n p < n := by
  unfold tk
  have h1 : (p + f) % (n - 1) < n - 1 := Nat.mod_lt _ (by omega)
  split
  · exact Nat.mod_lt _ (by omega)
  split
  · exact Nat.mod_lt _ (by omega)
  split
  · exact Nat.mod_lt _ (by omega)
  split
  · unfold swp
    have h2 : f % n < n := Nat.mod_lt _ (by omega)
    have h3 : (f + 1) % n < n := Nat.mod_lt _ (by omega)
    split
    · exact h3
    split
    · exact h2
    · exact hp
  split
  · exact hp
  · omega
theorem s_targetByKind {d sn a k f n p : Nat} {m : mm_Mem} {P : Int32 → mm_Mem → Prop} (ha : shY a) (hk0 : m.1 a 0 = nI k) (hf0 : m.1 a 1 = nI f) (hk : k < 5) (hf : f < 100) (hn : 2 ≤ n ∧ n < 100) (hp : p < n) (h : P (nI (tk k f n p)) m) : mm_sp (d + 2) sn kX9_targetByKind [.ref a, .int (nI p), .int (nI n)] m (qI P) := by
  refine v_X9_targetByKind ha ?_
  unfold tk at h
  rw [hk0, hf0]
  have hm : p * f < 100 * 100 := Nat.mul_lt_mul'' (by omega) hf
  have h2 : f % n < n := Nat.mod_lt _ (by omega)
  have h3 : (f + 1) % n < n := Nat.mod_lt _ (by omega)
  simp (disch := omega) only [e_le, e_lt, e_eq, e_lt0, e_0le, e_le0, e_0lt, e_eq0, e_m1, e_m5, e_m1l, e_m5l, e_m1e, e_add, e_dec, e_sub, e_mul, e_div, e_rem, e_and, e_or, e_shl, e_shr, e_vin, e_nar, e_nar0, e_nar1, e_cl, e_b0, e_b00, e_b1, e_bt, e_andn, e_xor, Bool.not_eq_false, Bool.not_eq_true, Classical.not_not, not_false_eq_true, not_true_eq_false, true_implies, false_implies, true_and, and_true]
  refine ⟨fun e => ?_, fun e => ?_, fun e => ?_, fun e => ?_, fun e => ?_, fun _ _ _ _ _ => by omega⟩
  · rw [if_pos e] at h
    exact s_modulo (by omega) (by omega) (by omega) h
  · rw [if_neg (by omega), if_pos e] at h
    exact s_modulo (by omega) (by omega) (by omega) h
  · rw [if_neg (by omega), if_neg (by omega), if_pos e] at h
    exact s_modulo (by omega) (by omega) (by omega) h
  · rw [if_neg (by omega), if_neg (by omega), if_neg (by omega), if_pos e] at h
    refine s_modulo (by omega) (by omega) (by omega) ?_
    rw [hf0, e_add]
    refine s_modulo (by omega) (by omega) (by omega) ?_
    exact s_swapped (by omega) (by omega) (by omega) h
  · rw [if_neg (by omega), if_neg (by omega), if_neg (by omega), if_neg (by omega)] at h
    refine ⟨fun e2 => ?_, fun e2 => ?_⟩
    · rw [if_neg e2] at h
      exact s_modulo (by omega) (by omega) (by omega) h
    · rw [if_pos e2] at h
      exact h
theorem s_becomeKind {d sn a k f n : Nat} {m : mm_Mem} {P : mm_Mem → Prop} (ha : shY a) (hk : k < 5) (hf : f < 100) (hn : 2 ≤ n ∧ n < 100) (h : ∀ m', fr [a, a + 1] m m' → rY a k f (fun p => if p < n then tk k f n p else p) m' → P m') : mm_sp (d + 3) sn kX9_becomeKind [.ref a, .int (nI k), .int (nI f), .int (nI n)] m (qV P) := by
  refine v_X9_becomeKind ha ?_
  intro m1 e1 m2 e2
  refine lp_up (W := fun i => ∀ m3, fr [a, a + 1] m m3 → m3.1 a 0 = nI k → m3.1 a 1 = nI f → (∀ p, p < i → m3.1 (a + 1) p = nI (if p < n then tk k f n p else p)) → mm_wp (d + 2) sn kX9_becomeKind 13 [some (.ref a), none, none, some (.int (nI n)), some (.int (nI i))] [] m3 (qV P)) (Nat.zero_le 8) ?_ ?_ m2 ?_ ?_ ?_ ?_
  · intro m3 hf h1 h2 h3
    refine v_X9_becomeKind_13 ha ?_
    simp (disch := omega) only [e_le, e_lt, e_eq, e_lt0, e_0le, e_le0, e_0lt, e_eq0, e_m1, e_m5, e_m1l, e_m5l, e_m1e, e_add, e_dec, e_sub, e_mul, e_div, e_rem, e_and, e_or, e_shl, e_shr, e_vin, e_nar, e_nar0, e_nar1, e_cl, e_b0, e_b00, e_b1, e_bt, e_andn, e_xor, Bool.not_eq_false, Bool.not_eq_true, Classical.not_not, not_false_eq_true, not_true_eq_false, true_implies, false_implies, true_and, and_true]
    exact ⟨fun _ => h m3 hf ⟨h1, h2, h3⟩, fun c => by omega⟩
  · intro i _ hi ih m3 hfr h1 h2 h3
    refine v_X9_becomeKind_13 ha ?_
    have key : ∀ x, x = nI (if i < n then tk k f n i else i) → mm_wp (d + 2) sn kX9_becomeKind 13 [some (.ref a), none, none, some (.int (nI n)), some (.int (nI (i + 1)))] [] (mm_u2 m3.1 (a + 1) i x, m3.2) (qV P) := by
      intro x hx
      refine ih _ (hfr.trans (fr_u2 (by simp))) ((u2_rj (by omega)).trans h1) ((u2_rj (by omega)).trans h2) ?_
      intro p hp
      by_cases e : p = i
      · subst e; exact u2_s.trans hx
      · exact (u2_j e).trans (h3 p (by omega))
    simp (disch := omega) only [e_le, e_lt, e_eq, e_lt0, e_0le, e_le0, e_0lt, e_eq0, e_m1, e_m5, e_m1l, e_m5l, e_m1e, e_add, e_dec, e_sub, e_mul, e_div, e_rem, e_and, e_or, e_shl, e_shr, e_vin, e_nar, e_nar0, e_nar1, e_cl, e_b0, e_b00, e_b1, e_bt, e_andn, e_xor, Bool.not_eq_false, Bool.not_eq_true, Classical.not_not, not_false_eq_true, not_true_eq_false, true_implies, false_implies, true_and, and_true]
    refine ⟨fun c => by omega, fun _ => ⟨fun c => ⟨hi, fun m4 e4 => ?_⟩, fun c => ?_⟩⟩
    · subst e4
      exact key _ (by rw [if_neg (by omega)])
    · refine s_targetByKind ha h1 h2 hk hf hn (by omega) ⟨hi, fun m4 e4 => ?_⟩
      subst e4
      exact key _ (by rw [if_pos (by omega)])
  · subst e1; subst e2
    exact (fr_u2 (by simp)).trans (fr_u2 (m := (_, _)) (by simp))
  · subst e1; subst e2
    exact (u2_j (by omega)).trans u2_s
  · subst e1; subst e2
    exact u2_s
  · intro s hs; omega
def hd (n D p : Nat) : Nat := if p < n then D / 10 ^ (n - 1 - p) % 10 - 1 else p
theorem lp_down {W : Nat → Prop} (h0 : W 0) (st : ∀ i, W i → W (i + 1)) : ∀ n, W n
  | 0 => h0
  | n + 1 => st n (lp_down h0 st n)
theorem s_becomeByHand {d sn a D n : Nat} {m : mm_Mem} {P : mm_Mem → Prop} (ha : shY a) (hD : D < 2147483648) (hn : n ≤ 8) (hd1 : ∀ i, i < n → 1 ≤ D / 10 ^ i % 10) (h : ∀ m', fr [a, a + 1] m m' → rY a 5 0 (hd n D) m' → P m') : mm_sp (d + 1) sn kX9_becomeByHand [.ref a, .int (nI D), .int (nI n)] m (qV P) := by
  refine v_X9_becomeByHand ha ?_
  intro m1 e1 m2 e2
  have W := lp_down (W := fun i => i ≤ 8 → ∀ m3, fr [a, a + 1] m m3 → m3.1 a 0 = nI 5 → m3.1 a 1 = nI 0 → (∀ p, i ≤ p → p < 8 → m3.1 (a + 1) p = nI (hd n D p)) → mm_wp d sn kX9_becomeByHand 21 [some (.ref a), none, some (.int (nI n)), some (.int (nI (D / 10 ^ (n - i)))), some (.int (nI i + (-1)))] [] m3 (qV P)) ?_ ?_ 8 (Nat.le_refl 8) m2 ?_ ?_ ?_ ?_
  · have e3 : nI 8 - nI 1 = nI 8 + (-1) := by decide
    rw [e3]
    have e4 : n - 8 = 0 := by omega
    rw [e4, Nat.pow_zero, Nat.div_one] at W
    exact W
  · intro _ m3 hf h1 h2 h3
    refine v_X9_becomeByHand_21 ha ?_
    rw [e_dec0]
    simp (disch := omega) only [e_le, e_lt, e_eq, e_lt0, e_0le, e_le0, e_0lt, e_eq0, e_m1, e_m5, e_m1l, e_m5l, e_m1e, e_add, e_dec, e_sub, e_mul, e_div, e_rem, e_and, e_or, e_shl, e_shr, e_vin, e_nar, e_nar0, e_nar1, e_cl, e_b0, e_b00, e_b1, e_bt, e_andn, e_xor, Bool.not_eq_false, Bool.not_eq_true, Classical.not_not, not_false_eq_true, not_true_eq_false, true_implies, false_implies, true_and, and_true]
    exact h m3 hf ⟨h1, h2, fun p hp => h3 p (by omega) hp⟩
  · intro i ih hi m3 hf h1 h2 h3
    have e3 : nI (i + 1) + (-1) = nI i := e_dec (by omega)
    rw [e3]
    refine v_X9_becomeByHand_21 ha ?_
    have hq : D / 10 ^ (n - (i + 1)) ≤ D := Nat.div_le_self _ _
    have key : ∀ x, x = nI (hd n D i) → mm_wp d sn kX9_becomeByHand 21 [some (.ref a), none, some (.int (nI n)), some (.int (nI (D / 10 ^ (n - i)))), some (.int (nI i + (-1)))] [] (mm_u2 m3.1 (a + 1) i x, m3.2) (qV P) := by
      intro x hx
      refine ih (by omega) _ (hf.trans (fr_u2 (by simp))) ((u2_rj (by omega)).trans h1) ((u2_rj (by omega)).trans h2) ?_
      intro p hp hp8
      by_cases e : p = i
      · subst e; exact u2_s.trans hx
      · exact (u2_j e).trans (h3 p (by omega) hp8)
    simp (disch := omega) only [e_lt0, e_le, e_vin, e_cl, e_rem, e_div, false_implies, not_false_eq_true, true_implies, true_and]
    refine ⟨fun c => ⟨by omega, fun m4 e4 => ⟨fun _ => ?_, fun c2 => by omega⟩⟩, fun c => ⟨by omega, fun m4 e4 => ⟨fun c2 => by omega, fun _ => ?_⟩⟩⟩
    · subst e4
      have := key (nI i) (by unfold hd; rw [if_neg (by omega)])
      have e5 : n - (i + 1) = n - i := by omega
      rw [e5]
      exact this
    · subst e4
      have e5 : n - 1 - i = n - (i + 1) := by omega
      have e6 := hd1 (n - (i + 1)) (by omega)
      have := key (nI (D / 10 ^ (n - (i + 1)) % 10) - nI 1) (by unfold hd; rw [if_pos (by omega), e5, e_sub e6])
      have e7 : D / 10 ^ (n - i) = D / 10 ^ (n - (i + 1)) / 10 := by
        rw [Nat.div_div_eq_div_mul, ← Nat.pow_succ]
        congr 2
        omega
      rw [e7] at this
      exact this
  · subst e1; subst e2
    exact (fr_u2 (by simp)).trans (fr_u2 (m := (_, _)) (by simp))
  · subst e1; subst e2
    exact (u2_j (by omega)).trans u2_s
  · subst e1; subst e2
    exact u2_s
  · intro p h1 h2; omega
