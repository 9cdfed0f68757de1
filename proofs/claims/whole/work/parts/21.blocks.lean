-- BLOCKS: what the methods do
def rB (a K : Nat) (B : Nat → Bool) (m : mm_Mem) : Prop := m.1 a 0 = nI K ∧ m.1 a 1 = nI (cN B 256) ∧ rZ (m.1 (a + 1)) B 256
theorem fr_rB {X : List Nat} {m m' : mm_Mem} {a K : Nat} {B : Nat → Bool} (h : fr X m m') (h1 : a ∉ X) (h2 : a + 1 ∉ X) (hB : rB a K B m) : rB a K B m' := by
  unfold rB
  rw [h.i h1, h.i h2]
  exact hB
theorem rB_ext {a K : Nat} {B C : Nat → Bool} {m : mm_Mem} (h : ∀ s, s < 256 → B s = C s) (hB : rB a K B m) : rB a K C m :=
  ⟨hB.1, by rw [hB.2.1, cN_ext h], fun s hs => by rw [hB.2.2 s hs, h s hs]⟩
theorem s_has {d sn a s : Nat} {m : mm_Mem} {P : Int32 → mm_Mem → Prop} {B : Nat → Bool} (ha : shB a) (hB : rZ (m.1 (a + 1)) B 256) (hs : s < 256) (h : P (nI (B s).toNat) m) : mm_sp (d + 1) sn kX0_has [.ref a, .int (nI s)] m (qI P) := by
  refine v_X0_has ha ?_
  have hb := hB s hs
  simp (disch := omega) only [e_le, e_lt, e_eq, e_lt0, e_0le, e_le0, e_0lt, e_eq0, e_m1, e_m5, e_m1l, e_m5l, e_m1e, e_add, e_dec, e_sub, e_mul, e_div, e_rem, e_and, e_or, e_shl, e_shr, e_vin, e_nar, e_nar0, e_nar1, e_cl, e_b0, e_b00, e_b1, e_bt, e_andn, e_xor, Bool.not_eq_false, Bool.not_eq_true, Classical.not_not, not_false_eq_true, not_true_eq_false, true_implies, false_implies, true_and, and_true, hb]
  refine ⟨fun c => by omega, fun _ => ⟨hs, fun e => ?_, fun e => ?_⟩⟩
  · rw [e] at h; exact h
  · rw [e] at h; exact h
theorem s_put {d sn a s K : Nat} {b : Bool} {m : mm_Mem} {P : mm_Mem → Prop} {B : Nat → Bool} (ha : shB a) (hB : rB a K B m) (hs : s < 256) (h : ∀ m', fr [a, a + 1] m m' → rB a K (up B s b) m' → P m') : mm_sp (d + 1) sn kX0_put [.ref a, .int (nI s), .int (nI b.toNat)] m (qV P) := by
  refine v_X0_put ha ?_
  have hb := hB.2.2 s hs
  have h1 := cN_up (b := b) (B := B) hs
  have hl := cN_le B 256
  have hl2 := cN_le (up B s b) 256
  have key : ∀ (x : Int32), x = nI (cN (up B s b) 256) → P (mm_u2 (mm_u2 m.1 (a + 1) s (nI b.toNat)) a 1 x, m.2) := by
    intro x hx
    refine h _ ((fr_u2 (by simp)).trans (fr_u2 (m := (_, _)) (by simp))) ⟨?_, ?_, ?_⟩
    · show mm_u2 _ a 1 x a 0 = _
      rw [u2_j (by omega), u2_rj (by omega)]
      exact hB.1
    · show mm_u2 _ a 1 x a 1 = _
      rw [u2_s]
      exact hx
    · intro t ht
      show mm_u2 _ a 1 x (a + 1) t = _
      rw [u2_rj (by omega)]
      by_cases e : t = s
      · subst e; rw [u2_s, up_s]
      · rw [u2_j e, up_n e]; exact hB.2.2 t ht
  simp (disch := omega) only [e_le, e_lt, e_eq, e_lt0, e_0le, e_le0, e_0lt, e_eq0, e_m1, e_m5, e_m1l, e_m5l, e_m1e, e_add, e_dec, e_sub, e_mul, e_div, e_rem, e_and, e_or, e_shl, e_shr, e_vin, e_nar, e_nar0, e_nar1, e_cl, e_b0, e_b00, e_b1, e_bt, e_andn, e_xor, Bool.not_eq_false, Bool.not_eq_true, Classical.not_not, not_false_eq_true, not_true_eq_false, true_implies, false_implies, true_and, and_true, hb]
  refine ⟨fun c => by omega, fun _ => ⟨hs, fun e => ⟨hs, fun m1 e1 => ?_⟩, fun e => ?_⟩⟩
  · subst e1
    refine ⟨fun c m2 e2 => ?_, fun c m2 e2 => ?_⟩
    · subst e2
      refine key _ ?_
      show mm_u2 _ (a + 1) s _ a 1 + _ = _
      rw [u2_rj (by omega), hB.2.1]
      cases b with
      | true => exact absurd c (by decide)
      | false =>
        cases hs' : B s with
        | false => rw [hs'] at e; exact absurd rfl e
        | true =>
          rw [hs'] at h1
          have h1 : cN (up B s false) 256 + 1 = cN B 256 + 0 := h1
          rw [e_dec (by omega)]
          exact congrArg nI (by omega)
    · subst e2
      refine key _ ?_
      show mm_u2 _ (a + 1) s _ a 1 + _ = _
      rw [u2_rj (by omega), hB.2.1]
      cases b with
      | false => exact absurd c (by decide)
      | true =>
        cases hs' : B s with
        | true => rw [hs'] at e; exact absurd rfl e
        | false =>
          rw [hs'] at h1
          have h1 : cN (up B s true) 256 + 0 = cN B 256 + 1 := h1
          rw [e_add]
          exact congrArg nI (by omega)
  · have e : B s = b := by
      revert e
      cases B s <;> cases b <;> first | (intro _; rfl) | (intro e; exact absurd e (by decide))
    refine h m fr.refl ?_
    rw [← e, up_same]
    exact hB
theorem s_becomeEmpty {d sn a K : Nat} {m : mm_Mem} {P : mm_Mem → Prop} (ha : shB a) (h : ∀ m', fr [a, a + 1] m m' → rB a K (fun _ => false) m' → P m') : mm_sp (d + 1) sn kX0_becomeEmpty [.ref a, .int (nI K)] m (qV P) := by
  refine v_X0_becomeEmpty ha ?_
  intro m1 e1 m2 e2
  refine lp_up (W := fun i => ∀ m3, fr [a, a + 1] m m3 → m3.1 a 0 = nI K → m3.1 a 1 = nI 0 → (∀ s, s < i → m3.1 (a + 1) s = nI 0) → mm_wp d sn kX0_becomeEmpty 12 [some (.ref a), none, some (.int (nI i))] [] m3 (qV P)) (Nat.zero_le 256) ?_ ?_ m2 ?_ ?_ ?_ ?_
  · intro m3 hf h1 h2 h3
    refine v_X0_becomeEmpty_12 ha ?_
    simp (disch := omega) only [e_le, e_lt, e_eq, e_lt0, e_0le, e_le0, e_0lt, e_eq0, e_m1, e_m5, e_m1l, e_m5l, e_m1e, e_add, e_dec, e_sub, e_mul, e_div, e_rem, e_and, e_or, e_shl, e_shr, e_vin, e_nar, e_nar0, e_nar1, e_cl, e_b0, e_b00, e_b1, e_bt, e_andn, e_xor, Bool.not_eq_false, Bool.not_eq_true, Classical.not_not, not_false_eq_true, not_true_eq_false, true_implies, false_implies, true_and, and_true]
    refine ⟨fun _ => h m3 hf ⟨h1, ?_, h3⟩, fun c => by omega⟩
    rw [h2, cN_none (fun _ _ => rfl)]
  · intro i _ hi ih m3 hf h1 h2 h3
    refine v_X0_becomeEmpty_12 ha ?_
    simp (disch := omega) only [e_le, e_lt, e_eq, e_lt0, e_0le, e_le0, e_0lt, e_eq0, e_m1, e_m5, e_m1l, e_m5l, e_m1e, e_add, e_dec, e_sub, e_mul, e_div, e_rem, e_and, e_or, e_shl, e_shr, e_vin, e_nar, e_nar0, e_nar1, e_cl, e_b0, e_b00, e_b1, e_bt, e_andn, e_xor, Bool.not_eq_false, Bool.not_eq_true, Classical.not_not, not_false_eq_true, not_true_eq_false, true_implies, false_implies, true_and, and_true]
    refine ⟨fun c => by omega, fun _ => ⟨hi, fun m4 e4 => ?_⟩⟩
    subst e4
    refine ih _ (hf.trans (fr_u2 (by simp))) ?_ ?_ ?_
    · exact (u2_rj (by omega)).trans h1
    · exact (u2_rj (by omega)).trans h2
    · intro s hs
      by_cases e : s = i
      · subst e; exact u2_s
      · exact (u2_j e).trans (h3 s (by omega))
  · subst e1; subst e2
    exact (fr_u2 (by simp)).trans (fr_u2 (m := (_, _)) (by simp))
  · subst e1; subst e2
    exact (u2_j (by omega)).trans u2_s
  · subst e1; subst e2
    exact u2_s
  · intro s hs; omega
theorem s_copyFrom {d sn a b K : Nat} {m : mm_Mem} {P : mm_Mem → Prop} {B : Nat → Bool} (ha : shB a) (hb : shB b) (hne : a ≠ b ∧ a ≠ b + 1 ∧ a + 1 ≠ b) (hB : rB b K B m) (h : ∀ m', fr [a, a + 1] m m' → rB a K B m' → P m') : mm_sp (d + 2) sn kX0_copyFrom [.ref a, .ref b] m (qV P) := by
  refine v_X0_copyFrom ha hb ?_
  intro m1 e1 m2 e2
  refine lp_up (W := fun i => ∀ m3, fr [a, a + 1] m m3 → m3.1 a 0 = nI K → m3.1 a 1 = nI (cN B 256) → (∀ s, s < i → m3.1 (a + 1) s = nI (B s).toNat) → mm_wp (d + 1) sn kX0_copyFrom 18 [some (.ref a), some (.ref b), some (.int (nI i))] [] m3 (qV P)) (Nat.zero_le 256) ?_ ?_ m2 ?_ ?_ ?_ ?_
  · intro m3 hf h1 h2 h3
    refine v_X0_copyFrom_18 ha hb ?_
    simp (disch := omega) only [e_le, e_lt, e_eq, e_lt0, e_0le, e_le0, e_0lt, e_eq0, e_m1, e_m5, e_m1l, e_m5l, e_m1e, e_add, e_dec, e_sub, e_mul, e_div, e_rem, e_and, e_or, e_shl, e_shr, e_vin, e_nar, e_nar0, e_nar1, e_cl, e_b0, e_b00, e_b1, e_bt, e_andn, e_xor, Bool.not_eq_false, Bool.not_eq_true, Classical.not_not, not_false_eq_true, not_true_eq_false, true_implies, false_implies, true_and, and_true]
    exact ⟨fun _ => h m3 hf ⟨h1, h2, h3⟩, fun c => by omega⟩
  · intro i _ hi ih m3 hf h1 h2 h3
    refine v_X0_copyFrom_18 ha hb ?_
    simp (disch := omega) only [e_le, e_lt, e_eq, e_lt0, e_0le, e_le0, e_0lt, e_eq0, e_m1, e_m5, e_m1l, e_m5l, e_m1e, e_add, e_dec, e_sub, e_mul, e_div, e_rem, e_and, e_or, e_shl, e_shr, e_vin, e_nar, e_nar0, e_nar1, e_cl, e_b0, e_b00, e_b1, e_bt, e_andn, e_xor, Bool.not_eq_false, Bool.not_eq_true, Classical.not_not, not_false_eq_true, not_true_eq_false, true_implies, false_implies, true_and, and_true]
    refine ⟨fun c => by omega, fun _ => ?_⟩
    refine s_has hb (B := B) ?_ hi ?_
    · rw [hf.i (by simp; omega)]
      exact hB.2.2
    refine ⟨hi, fun m4 e4 => ?_⟩
    rw [e_nar] at e4
    subst e4
    refine ih _ (hf.trans (fr_u2 (by simp))) ?_ ?_ ?_
    · exact (u2_rj (by omega)).trans h1
    · exact (u2_rj (by omega)).trans h2
    · intro s hs
      by_cases e : s = i
      · subst e; exact u2_s
      · exact (u2_j e).trans (h3 s (by omega))
  · subst e1; subst e2
    exact (fr_u2 (by simp)).trans (fr_u2 (m := (_, _)) (by simp))
  · subst e1; subst e2
    exact (u2_j (by omega)).trans (u2_s.trans hB.1)
  · subst e1; subst e2
    refine u2_s.trans ?_
    show mm_u2 m.1 a 0 _ b 1 = _
    rw [u2_rj (fun e => hne.1 e.symm)]
    exact hB.2.1
  · intro s hs; omega
