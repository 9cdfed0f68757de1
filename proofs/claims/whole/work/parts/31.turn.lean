-- BLOCKS turned
theorem cN_shift {p : Nat → Bool} : ∀ (n : Nat), cN p (n + 1) = (p 0).toNat + cN (fun x => p (x + 1)) n
  | 0 => by
    show 0 + (p 0).toNat = (p 0).toNat + 0
    omega
  | n + 1 => by
    have ih := cN_shift (p := p) n
    show cN p (n + 1) + (p (n + 1)).toNat = (p 0).toNat + (cN (fun x => p (x + 1)) n + (p (n + 1)).toNat)
    omega
theorem cN_rev {B : Nat → Bool} : ∀ (n : Nat), cN (fun x => B (n - x)) (n + 1) = cN B (n + 1)
  | 0 => rfl
  | n + 1 => by
    have ih := cN_rev (B := B) n
    rw [cN_shift]
    have e : cN (fun x => B (n + 1 - (x + 1))) (n + 1) = cN (fun x => B (n - x)) (n + 1) := cN_ext fun x _ => by
      show B (n + 1 - (x + 1)) = B (n - x)
      rw [Nat.add_sub_add_right]
    rw [e, ih]
    show (B (n + 1)).toNat + cN B (n + 1) = cN B (n + 1) + (B (n + 1)).toNat
    omega
theorem cN_tail {p : Nat → Bool} {a : Nat} : ∀ {b : Nat}, a ≤ b → (∀ s, a ≤ s → s < b → p s = false) → cN p b = cN p a
  | 0, h, _ => by
    have : a = 0 := by omega
    rw [this]
  | b + 1, h, hp => by
    by_cases e : a = b + 1
    · rw [e]
    · rw [cN_f (hp b (by omega) (by omega)), cN_tail (show a ≤ b by omega) (fun s h1 h2 => hp s h1 (by omega))]
def trn (w : Nat) (B : Nat → Bool) : Nat → Bool := fun x => decide (x ≤ w) && B (w - x)
theorem cN_trn {w : Nat} {B : Nat → Bool} (hw : w < 256) (hB : ∀ s, s < 256 → B s = true → s ≤ w) : cN (trn w B) 256 = cN B 256 := by
  rw [cN_tail (a := w + 1) (by omega) (fun s h1 h2 => by unfold trn; rw [decide_eq_false (by omega), Bool.false_and])]
  rw [cN_tail (p := B) (a := w + 1) (b := 256) (by omega) (fun s h1 h2 => by
    cases e : B s with
    | false => rfl
    | true => have := hB s h2 e; omega)]
  rw [cN_ext (q := fun x => B (w - x)) (fun s hs => by unfold trn; rw [decide_eq_true (by omega), Bool.true_and])]
  exact cN_rev w
def tnS (w : Nat) (B : Nat → Bool) (s : Nat) : Nat → Bool := fun x => if x ≤ w ∧ (x < s ∨ w - x < s) then B (w - x) else B x
theorem s_turn {d sn a K n : Nat} {m : mm_Mem} {P : mm_Mem → Prop} {B : Nat → Bool} (ha : shB a) (hB : rB a K B m) (hK : K ≤ n) (hn : 1 ≤ n ∧ n ≤ 8) (hs : ∀ s, s < 256 → B s = true → s < 2 ^ n) (h : ∀ m', fr [a, a + 1] m m' → rB a (n - K) (trn (2 ^ n - 1) B) m' → P m') : mm_sp (d + 1) sn kX0_turn [.ref a, .int (nI n)] m (qV P) := by
  have hp := Nat.two_pow_pos n
  have hp8 := p2_le hn.2
  have hodd : 2 ^ n = 2 * 2 ^ (n - 1) := by
    have e : n = n - 1 + 1 := by omega
    rw [e, Nat.pow_succ]
    have e2 : n - 1 + 1 - 1 = n - 1 := by omega
    rw [e2]
    omega
  refine v_X0_turn ha ?_
  intro m1 e1
  rw [e_shl (by omega), Nat.shiftLeft_eq, Nat.one_mul, e_sub hp]
  have hr : fr [a, a + 1] m m1 := by subst e1; exact fr_u2 (by simp)
  have h10 : m1.1 a 0 = nI (n - K) := by
    subst e1
    show mm_u2 m.1 a 0 (nI n - m.1 a 0) a 0 = _
    rw [u2_s, hB.1, e_sub hK]
  have h11 : m1.1 a 1 = nI (cN B 256) := by
    subst e1
    show mm_u2 m.1 a 0 (nI n - m.1 a 0) a 1 = _
    rw [u2_j (by omega)]
    exact hB.2.1
  have h12 : ∀ x, x < 256 → m1.1 (a + 1) x = nI (tnS (2 ^ n - 1) B 0 x).toNat := by
    intro x hx
    subst e1
    show mm_u2 m.1 a 0 (nI n - m.1 a 0) (a + 1) x = _
    rw [u2_rj (by omega)]
    unfold tnS
    rw [if_neg (by omega)]
    exact hB.2.2 x hx
  refine lp_up (W := fun s => ∀ m2, fr [a, a + 1] m m2 → m2.1 a 0 = nI (n - K) → m2.1 a 1 = nI (cN B 256) → (∀ x, x < 256 → m2.1 (a + 1) x = nI (tnS (2 ^ n - 1) B s x).toNat) → mm_wp d sn kX0_turn 18 [some (.ref a), none, some (.int (nI (2 ^ n - 1))), some (.int (nI s)), none, none] [] m2 (qV P)) (Nat.zero_le 256) ?_ ?_ m1 hr h10 h11 h12
  · intro m2 hf h0 h1 h2
    refine v_X0_turn_18 ha ?_
    refine e_vT (by decide) ?_
    refine h m2 hf ⟨h0, ?_, fun x hx => ?_⟩
    · rw [cN_trn (by omega) (fun s h1 h2 => by have := hs s h1 h2; omega)]
      exact h1
    · rw [h2 x hx]
      unfold tnS trn
      by_cases e : x ≤ 2 ^ n - 1
      · rw [if_pos (by omega), decide_eq_true e, Bool.true_and]
      · rw [if_neg (by omega), decide_eq_false e, Bool.false_and]
        cases e2 : B x with
        | false => rfl
        | true => have := hs x hx e2; omega
  · intro s _ hs' ih m2 hf h0 h1 h2
    refine v_X0_turn_18 ha ?_
    have same : (∀ x, x < 256 → tnS (2 ^ n - 1) B s x = tnS (2 ^ n - 1) B (s + 1) x) → mm_wp d sn kX0_turn 18 [some (.ref a), none, some (.int (nI (2 ^ n - 1))), some (.int (nI (s + 1))), none, none] [] m2 (qV P) := fun e => ih m2 hf h0 h1 (fun x hx => by rw [h2 x hx, e x hx])
    rw [e_le (by omega) (by omega), e_add]
    refine e_vF (by omega) ?_
    by_cases e : s ≤ 2 ^ n - 1
    · rw [e_sub e, e_le (by omega) (by omega)]
      refine ⟨fun c => same (fun x hx => ?_), fun c => ?_⟩
      · unfold tnS
        by_cases e3 : x ≤ 2 ^ n - 1 ∧ (x < s ∨ 2 ^ n - 1 - x < s)
        · rw [if_pos e3, if_pos (by omega)]
        · rw [if_neg e3, if_neg (by omega)]
      · rw [e_le (by omega) (by omega)]
        refine e_vF (by omega) ?_
        rw [e_vin (by omega) (by omega), e_vin (by omega) (by omega), e_cl (by omega), e_cl (by omega)]
        refine ⟨by omega, by omega, by omega, fun m3 e3 => ⟨by omega, fun m4 e4 => ?_⟩⟩
        rw [h2 _ (by omega), e_nar] at e3 e4
        refine ih m4 ?_ ?_ ?_ (fun x hx => ?_)
        · subst e3; subst e4
          exact hf.trans ((fr_u2 (by simp)).trans (fr_u2 (m := (_, _)) (by simp)))
        · subst e3; subst e4
          show mm_u2 (mm_u2 m2.1 (a + 1) s _) (a + 1) (2 ^ n - 1 - s) _ a 0 = _
          rw [u2_rj (by omega), u2_rj (by omega)]
          exact h0
        · subst e3; subst e4
          show mm_u2 (mm_u2 m2.1 (a + 1) s _) (a + 1) (2 ^ n - 1 - s) _ a 1 = _
          rw [u2_rj (by omega), u2_rj (by omega)]
          exact h1
        · subst e3; subst e4
          show mm_u2 (mm_u2 m2.1 (a + 1) s (nI (tnS (2 ^ n - 1) B s (2 ^ n - 1 - s)).toNat)) (a + 1) (2 ^ n - 1 - s) (nI (tnS (2 ^ n - 1) B s s).toNat) (a + 1) x = _
          by_cases e5 : x = 2 ^ n - 1 - s
          · rw [e5, u2_s]
            unfold tnS
            rw [if_neg (by omega), if_pos (by omega)]
            congr 3
            omega
          · rw [u2_j e5]
            by_cases e6 : x = s
            · rw [e6, u2_s]
              unfold tnS
              rw [if_neg (by omega), if_pos (by omega)]
            · rw [u2_j e6, h2 x hx]
              unfold tnS
              by_cases e7 : x ≤ 2 ^ n - 1 ∧ (x < s ∨ 2 ^ n - 1 - x < s)
              · rw [if_pos e7, if_pos (by omega)]
              · rw [if_neg e7, if_neg (by omega)]
    · have hneg : nI (2 ^ n - 1) - nI s < 0 := pk_sneg (by omega) (by omega)
      refine e_vT ?_ (same (fun x hx => ?_))
      · have h5 := e_0le (a := s) (by omega)
        have h6 : (0 : Int32) ≤ nI s := by rw [h5]; trivial
        rw [Int32.lt_iff_toInt_lt] at hneg
        rw [Int32.le_iff_toInt_le] at h6 ⊢
        omega
      · unfold tnS
        by_cases e3 : x ≤ 2 ^ n - 1 ∧ (x < s ∨ 2 ^ n - 1 - x < s)
        · rw [if_pos e3, if_pos (by omega)]
        · rw [if_neg e3]
          by_cases e4 : x ≤ 2 ^ n - 1 ∧ (x < s + 1 ∨ 2 ^ n - 1 - x < s + 1)
          · omega
          · rw [if_neg e4]
