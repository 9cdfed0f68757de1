-- small helpers of the class: divisors in common, arrangements told by digits
theorem bm {z : Int} (h1 : -2147483648 ≤ z) (h2 : z < 2147483648) : z.bmod (2 ^ 32) = z := Int.bmod_eq_of_le (by omega) (by omega)
theorem rem_neg {x : Int32} (hx : x < 0) : mm_rem x (nI 10) < nI 1 := by
  have hx : x.toInt < 0 := by rw [Int32.lt_iff_toInt_lt] at hx; exact hx
  have hl : -2147483648 ≤ x.toInt := x.le_toInt
  have h10 : (nI 10).toInt = 10 := by decide
  obtain ⟨y, hy⟩ : ∃ y : Int, x.toInt = -y := ⟨-x.toInt, by omega⟩
  have e1 : (x / nI 10).toInt = -(y / 10) := by
    rw [Int32.toInt_div, h10, hy, Int.neg_tdiv, Int.tdiv_eq_ediv_of_nonneg (by omega)]
    exact bm (by omega) (by omega)
  have e2 : (x / nI 10 * nI 10).toInt = -(y / 10) * 10 := by
    rw [Int32.toInt_mul, e1, h10]
    exact bm (by omega) (by omega)
  unfold mm_rem
  rw [Int32.lt_iff_toInt_lt, Int32.toInt_sub, e2, hy]
  rw [bm (by omega) (by omega)]
  have h1 : (nI 1).toInt = 1 := by decide
  rw [h1]
  omega
def hdc (a b : Nat) : Bool := !alN (fun d => decide (d < 2) || !(a % d == 0 && b % d == 0)) (b + 1)
theorem s_hdc {d sn a b : Nat} {m : mm_Mem} {P : Int32 → mm_Mem → Prop} (ha : a < 1000) (hb : 1 ≤ b ∧ b < 1000) (h : P (nI (hdc a b).toNat) m) : mm_sp (d + 1) sn kX10_haveDivisorInCommon [.int (nI a), .int (nI b)] m (qI P) := by
  refine v_X10_haveDivisorInCommon ?_
  refine lp_up (W := fun s => (∀ t, t < s → (decide (t < 2) || !(a % t == 0 && b % t == 0)) = true) → mm_wp d sn kX10_haveDivisorInCommon 2 [some (.int (nI a)), some (.int (nI b)), some (.int (nI s))] [] m (qI P)) (show 2 ≤ b + 1 by omega) ?_ ?_ (fun t ht => by rw [decide_eq_true ht]; rfl)
  · intro hn
    refine v_X10_haveDivisorInCommon_2 ?_
    refine e_vT (by rw [e_lt (by omega) (by omega)]; omega) ?_
    rw [show hdc a b = false by unfold hdc; rw [alN_t hn]; rfl] at h
    exact h
  · intro s h2 hs ih hn
    refine v_X10_haveDivisorInCommon_2 ?_
    have r1 : a % s < s := Nat.mod_lt _ (by omega)
    have r2 : b % s < s := Nat.mod_lt _ (by omega)
    have next : (decide (s < 2) || !(a % s == 0 && b % s == 0)) = true → mm_wp d sn kX10_haveDivisorInCommon 2 [some (.int (nI a)), some (.int (nI b)), some (.int (nI (s + 1)))] [] m (qI P) := by
      intro e
      refine ih (fun t ht => ?_)
      by_cases e2 : t = s
      · subst e2; exact e
      · exact hn t (by omega)
    rw [e_rem (by omega) (by omega) (by omega), e_rem (by omega) (by omega) (by omega), e_eq0 (by omega), e_eq0 (by omega), e_eq0 (by omega), e_add]
    refine e_vF (by rw [e_lt (by omega) (by omega)]; omega) ⟨by omega, fun e => ?_, fun e => ⟨by omega, fun e2 => ?_, fun e2 => ?_⟩⟩
    · exact next (by simp [e])
    · exact next (by simp [e2])
    · have e := Classical.not_not.mp e
      have e2 := Classical.not_not.mp e2
      have hf : (decide (s < 2) || !(a % s == 0 && b % s == 0)) = false := by
        rw [decide_eq_false (by omega), e, e2]; rfl
      rw [show hdc a b = true by unfold hdc; rw [alN_f (p := fun d => decide (d < 2) || !(a % d == 0 && b % d == 0)) hf (by omega)]; rfl] at h
      exact h
def dg (D i : Nat) : Nat := D / 10 ^ i % 10
def arr (n D : Nat) : Prop := (∀ i, i < n → 1 ≤ dg D i ∧ dg D i ≤ n) ∧ (∀ i j, i < n → j < n → dg D i = dg D j → i = j) ∧ D / 10 ^ n = 0
theorem bc_or_le {x t : Nat} (ht : t < 10) : bc (x ||| 1 <<< t) ≤ bc x + 1 := by
  cases e : x.testBit t with
  | false => rw [bc_or ht e]; exact Nat.le_refl _
  | true =>
    have : x ||| 1 <<< t = x := by
      apply Nat.eq_of_testBit_eq
      intro i
      rw [Nat.testBit_or, tb_shl]
      by_cases e2 : t = i
      · subst e2; rw [e]; rfl
      · rw [decide_eq_false e2, Bool.or_false]
    rw [this]
    omega
theorem bc_orN {T : Nat → Nat} {s : Nat} : ∀ {n : Nat}, (∀ p, p < n → T p < 10) → bc (mvN T s n) ≤ n
  | 0, _ => by
    show bc 0 ≤ 0
    decide
  | n + 1, h => by
    have ih := bc_orN (s := s) (fun p (hp : p < n) => h p (by omega))
    unfold mvN
    split
    · have := bc_or_le (x := mvN T s n) (h n (by omega))
      omega
    · omega
theorem mvN_has {T : Nat → Nat} {s p : Nat} (hs : s.testBit p = true) : ∀ {n : Nat}, p < n → (mvN T s n).testBit (T p) = true
  | n + 1, h => by
    by_cases e : p = n
    · subst e
      unfold mvN
      rw [if_pos hs, Nat.testBit_or, tb_shl, decide_eq_true rfl, Bool.or_true]
    · have ih := mvN_has (T := T) hs (show p < n by omega)
      unfold mvN
      split
      · rw [Nat.testBit_or, ih, Bool.true_or]
      · exact ih
theorem tb_all {n i : Nat} (h : i < n) : (2 ^ n - 1).testBit i = true := by
  rw [Nat.testBit_two_pow_sub_one]
  exact decide_eq_true h
/-- as many bits as places: no two places have one image -/
theorem bc_inj {T : Nat → Nat} {s : Nat} : ∀ {n : Nat}, (∀ p, p < n → T p < 10 ∧ s.testBit p = true) → bc (mvN T s n) = n → ∀ p q, p < n → q < n → T p = T q → p = q
  | n + 1, h, hb, p, q, hp, hq, e => by
    have h1 : ∀ p, p < n → T p < 10 ∧ s.testBit p = true := fun p hp => h p (by omega)
    have hn := h n (by omega)
    have e1 : mvN T s (n + 1) = mvN T s n ||| 1 <<< T n := if_pos hn.2
    rw [e1] at hb
    have l1 := bc_or_le (x := mvN T s n) hn.1
    have l2 := bc_orN (s := s) (fun p (hp : p < n) => (h1 p hp).1)
    have ih := bc_inj h1 (by omega)
    have fresh : ∀ p, p < n → T p ≠ T n := by
      intro p hp e2
      have hx := mvN_has (T := T) (h1 p hp).2 hp
      rw [e2] at hx
      have : mvN T s n ||| 1 <<< T n = mvN T s n := by
        apply Nat.eq_of_testBit_eq
        intro i
        rw [Nat.testBit_or, tb_shl]
        by_cases e3 : T n = i
        · rw [← e3, hx]; rfl
        · rw [decide_eq_false e3, Bool.or_false]
      rw [this] at hb
      omega
    by_cases e2 : p = n
    · by_cases e3 : q = n
      · omega
      · subst e2; exact absurd e.symm (fresh q (by omega))
    · by_cases e3 : q = n
      · subst e3; exact absurd e (fresh p (by omega))
      · exact ih p q (by omega) (by omega) e
theorem s_isArr {d sn n : Nat} {v : Int32} {m : mm_Mem} {P : Int32 → mm_Mem → Prop} (hn : 1 ≤ n ∧ n ≤ 8) (h1 : ∀ D, D < 2147483648 → v = nI D → arr n D → P (nI 1) m) (h0 : (∀ D, D < 2147483648 → v = nI D → ¬ arr n D) → P (nI 0) m) : mm_sp (d + 2) sn kX10_isArrangement [.int v, .int (nI n)] m (qI P) := by
  refine v_X10_isArrangement ?_
  by_cases hv : v < 0
  · refine v_X10_isArrangement_7 ?_
    refine e_vF (by rw [e_le (by omega) (by omega)]; omega) ?_
    refine e_vT (rem_neg hv) (h0 (fun D hD e => ?_))
    subst e
    rw [e_lt0 hD] at hv
    exact hv.elim
  · obtain ⟨D, hD, e⟩ : ∃ D, D < 2147483648 ∧ v = nI D := by
      refine ⟨v.toInt.toNat, ?_, ?_⟩
      · have := v.toInt_lt
        omega
      · rw [Int32.lt_iff_toInt_lt] at hv
        have h0 : (0 : Int32).toInt = 0 := rfl
        have := v.toInt_lt
        rw [← Int32.toInt_inj, nI_toInt (by omega)]
        omega
    subst e
    have no : ¬ arr n D → P (nI 0) m := fun hna => h0 (fun D' hD' e hA => hna (by rw [e_in hD hD' e]; exact hA))
    have W := lp_up (W := fun i => (∀ j, j < i → 1 ≤ dg D j ∧ dg D j ≤ n) → mm_wp (d + 1) sn kX10_isArrangement 7 [none, some (.int (nI n)), some (.int (nI (D / 10 ^ i))), some (.int (nI (mvN (dg D) (2 ^ n - 1) i))), some (.int (nI i)), none] [] m (qI P)) (Nat.zero_le n) ?_ ?_ (fun j hj => by omega)
    · rw [Nat.pow_zero, Nat.div_one] at W
      exact W
    · intro hd
      refine v_X10_isArrangement_7 ?_
      have hq : D / 10 ^ n ≤ D := Nat.div_le_self _ _
      have hm : mvN (dg D) (2 ^ n - 1) n < 2 ^ 9 := mvN_lt (fun p hp => by have := (hd p hp).2; omega)
      have hm : mvN (dg D) (2 ^ n - 1) n < 512 := hm
      refine e_vT (by rw [e_le (by omega) (by omega)]; omega) ?_
      rw [e_eq0 (by omega)]
      refine ⟨fun e => no (fun hA => e hA.2.2), fun e => ?_⟩
      have e := Classical.not_not.mp e
      refine s_bitCount (by omega) ?_
      have hbl := bc_le (mvN (dg D) (2 ^ n - 1) n)
      rw [e_eq (by omega) (by omega)]
      refine ⟨fun e2 => no (fun hA => e2 ?_), fun e2 => ?_⟩
      · rw [bc_mvN (b := 9) (by omega) (fun p hp => by have := (hd p hp).2; omega) hA.2.1]
        exact cN_all (fun s hs => tb_all hs)
      · have e2 := Classical.not_not.mp e2
        exact h1 D hD rfl ⟨hd, bc_inj (fun p hp => ⟨by have := (hd p hp).2; omega, tb_all hp⟩) e2, e⟩
    · intro i _ hi ih hd
      refine v_X10_isArrangement_7 ?_
      have hq : D / 10 ^ i ≤ D := Nat.div_le_self _ _
      have hr : D / 10 ^ i % 10 < 10 := Nat.mod_lt _ (by omega)
      rw [e_rem (by omega) (by omega) (by omega), e_div (by omega) (by omega) (by omega), e_shl (by omega), e_or, e_add]
      refine e_vF (by rw [e_le (by omega) (by omega)]; omega) ?_
      rw [e_lt (by omega) (by omega), e_le (by omega) (by omega)]
      refine ⟨fun e => no (fun hA => ?_), fun e => ⟨fun e2 => ?_, fun e2 => no (fun hA => ?_)⟩⟩
      · have := (hA.1 i hi).1
        unfold dg at this
        omega
      · have e3 : mvN (dg D) (2 ^ n - 1) (i + 1) = mvN (dg D) (2 ^ n - 1) i ||| 1 <<< dg D i := if_pos (tb_all hi)
        rw [e3, Nat.pow_succ, ← Nat.div_div_eq_div_mul] at ih
        refine ih (fun j hj => ?_)
        by_cases e4 : j = i
        · subst e4
          unfold dg
          omega
        · exact hd j (by omega)
      · have := (hA.1 i hi).2
        unfold dg at this
        omega
