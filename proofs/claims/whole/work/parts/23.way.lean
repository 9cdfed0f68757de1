-- WAYS: what the methods do
def rY (a kd fg : Nat) (T : Nat → Nat) (m : mm_Mem) : Prop := m.1 a 0 = nI kd ∧ m.1 a 1 = nI fg ∧ ∀ p, p < 8 → m.1 (a + 1) p = nI (T p)
theorem fr_rY {X : List Nat} {m m' : mm_Mem} {a kd fg : Nat} {T : Nat → Nat} (h : fr X m m') (h1 : a ∉ X) (h2 : a + 1 ∉ X) (hB : rY a kd fg T m) : rY a kd fg T m' := by
  unfold rY
  rw [h.i h1, h.i h2]
  exact hB
theorem rY_ext {a kd fg : Nat} {T U : Nat → Nat} {m : mm_Mem} (h : ∀ p, p < 8 → T p = U p) (hB : rY a kd fg T m) : rY a kd fg U m := ⟨hB.1, hB.2.1, fun p hp => by rw [hB.2.2 p hp, h p hp]⟩
def mvN (T : Nat → Nat) (s : Nat) : Nat → Nat
  | 0 => 0
  | n + 1 => if s.testBit n = true then mvN T s n ||| 1 <<< T n else mvN T s n
def mv (T : Nat → Nat) (s : Nat) : Nat := mvN T s 8
theorem e_bit {s p : Nat} : ((s >>> p) &&& 1 = 1) = (s.testBit p = true) := by
  apply propext
  rw [Nat.testBit_eq_decide_div_mod_eq, Nat.and_one_is_mod, Nat.shiftRight_eq_div_pow, decide_eq_true_iff]
theorem e_bit0 {s p : Nat} : (s >>> p) &&& 1 = (s.testBit p).toNat := by
  rw [Nat.testBit_eq_decide_div_mod_eq, Nat.and_one_is_mod, Nat.shiftRight_eq_div_pow]
  have : s / 2 ^ p % 2 < 2 := Nat.mod_lt _ (by decide)
  rcases (show s / 2 ^ p % 2 = 0 ∨ s / 2 ^ p % 2 = 1 by omega) with h | h <;> rw [h] <;> rfl
theorem shl_lt {t n : Nat} (h : t < n) : 1 <<< t < 2 ^ n := by
  rw [Nat.shiftLeft_eq, Nat.one_mul]
  exact Nat.pow_lt_pow_right (by decide) h
theorem mvN_lt {T : Nat → Nat} {s b : Nat} : ∀ {n : Nat}, (∀ p, p < n → T p < b) → mvN T s n < 2 ^ b
  | 0, _ => Nat.two_pow_pos b
  | n + 1, h => by
    unfold mvN
    have ih := mvN_lt (s := s) (fun p (hp : p < n) => h p (by omega))
    split
    · exact Nat.or_lt_two_pow ih (shl_lt (h n (by omega)))
    · exact ih
theorem mv_lt {T : Nat → Nat} {s : Nat} (h : ∀ p, p < 8 → T p < 8) : mv T s < 256 := mvN_lt (b := 8) h
theorem e_1 : (1 : Nat) <<< 0 = 1 := rfl
theorem s_pointFor {d sn a kd fg p : Nat} {m : mm_Mem} {P : Int32 → mm_Mem → Prop} {T : Nat → Nat} (ha : shY a) (hT : rY a kd fg T m) (hp : p < 8) (h : P (nI (T p)) m) : mm_sp (d + 1) sn kX9_pointFor [.ref a, .int (nI p)] m (qI P) := by
  refine v_X9_pointFor ha ?_
  have hb := hT.2.2 p hp
  simp (disch := omega) only [e_le, e_lt, e_eq, e_lt0, e_0le, e_le0, e_0lt, e_eq0, e_m1, e_m5, e_m1l, e_m5l, e_m1e, e_add, e_dec, e_sub, e_mul, e_div, e_rem, e_and, e_or, e_shl, e_shr, e_vin, e_nar, e_nar0, e_nar1, e_cl, e_b0, e_b00, e_b1, e_bt, e_andn, e_xor, Bool.not_eq_false, Bool.not_eq_true, Classical.not_not, not_false_eq_true, not_true_eq_false, true_implies, false_implies, true_and, and_true, hb]
  exact ⟨fun _ => ⟨hp, h⟩, fun c => by omega⟩
theorem s_setFor {d sn a kd fg s : Nat} {m : mm_Mem} {P : Int32 → mm_Mem → Prop} {T : Nat → Nat} (ha : shY a) (hT : rY a kd fg T m) (h8 : ∀ p, p < 8 → T p < 8) (hs : s < 2147483648) (h : P (nI (mv T s)) m) : mm_sp (d + 1) sn kX9_setFor [.ref a, .int (nI s)] m (qI P) := by
  refine v_X9_setFor ha ?_
  refine lp_up (W := fun p => mm_wp d sn kX9_setFor 4 [some (.ref a), some (.int (nI s)), some (.int (nI (mvN T s p))), some (.int (nI p))] [] m (qI P)) (Nat.zero_le 8) ?_ ?_
  · refine v_X9_setFor_4 ha ?_
    simp (disch := omega) only [e_le, e_lt, e_eq, e_lt0, e_0le, e_le0, e_0lt, e_eq0, e_m1, e_m5, e_m1l, e_m5l, e_m1e, e_add, e_dec, e_sub, e_mul, e_div, e_rem, e_and, e_or, e_shl, e_shr, e_vin, e_nar, e_nar0, e_nar1, e_cl, e_b0, e_b00, e_b1, e_bt, e_andn, e_xor, Bool.not_eq_false, Bool.not_eq_true, Classical.not_not, not_false_eq_true, not_true_eq_false, true_implies, false_implies, true_and, and_true]
    exact ⟨fun _ => h, fun c => by omega⟩
  · intro p _ hp ih
    refine v_X9_setFor_4 ha ?_
    have hb := hT.2.2 p hp
    have h8p := h8 p hp
    have hl : (s >>> p) &&& 1 ≤ 1 := Nat.and_le_right
    simp (disch := omega) only [e_le, e_lt, e_eq, e_lt0, e_0le, e_le0, e_0lt, e_eq0, e_m1, e_m5, e_m1l, e_m5l, e_m1e, e_add, e_dec, e_sub, e_mul, e_div, e_rem, e_and, e_or, e_shl, e_shr, e_vin, e_nar, e_nar0, e_nar1, e_cl, e_b0, e_b00, e_b1, e_bt, e_andn, e_xor, Bool.not_eq_false, Bool.not_eq_true, Classical.not_not, not_false_eq_true, not_true_eq_false, true_implies, false_implies, true_and, and_true, hb, e_bit]
    refine ⟨fun c => by omega, fun _ => ⟨fun hf => ?_, fun ht => ⟨hp, ?_⟩⟩⟩
    · have e : mvN T s (p + 1) = mvN T s p := if_neg (by rw [hf]; decide)
      rw [e] at ih; exact ih
    · have e : mvN T s (p + 1) = mvN T s p ||| 1 <<< T p := if_pos ht
      rw [e] at ih; exact ih
def it (T : Nat → Nat) : Nat → Nat → Nat
  | 0, p => p
  | t + 1, p => T (it T t p)
theorem it_lt {T : Nat → Nat} {b : Nat} (h : ∀ p, p < b → T p < b) : ∀ (t : Nat) {p : Nat}, p < b → it T t p < b
  | 0, _, hp => hp
  | t + 1, _, hp => h _ (it_lt h t hp)
def dn (T : Nat → Nat) (t : Nat) : Bool := alN (fun p => it T t p == p) 8
theorem dn_t {T : Nat → Nat} {t : Nat} (h : ∀ p, p < 8 → it T t p = p) : dn T t = true := alN_t fun p hp => beq_iff_eq.mpr (h p hp)
theorem dn_f {T : Nat → Nat} {t p : Nat} (hp : p < 8) (h : it T t p ≠ p) : dn T t = false := alN_f (p := fun p => it T t p == p) (s := p) (beq_eq_false_iff_ne.mpr h) hp
theorem dn_of {T : Nat → Nat} {t : Nat} (h : dn T t = true) : ∀ p, p < 8 → it T t p = p := fun p hp => beq_iff_eq.mp (alN_of h p hp)
theorem s_isDone {d sn a kd fg t : Nat} {m : mm_Mem} {P : Int32 → mm_Mem → Prop} {T : Nat → Nat} (ha : shY a) (hT : rY a kd fg T m) (h8 : ∀ p, p < 8 → T p < 8) (ht : t < 2147483648) (h : P (nI (dn T t).toNat) m) : mm_sp (d + 2) sn kX9_isDoneAfter [.ref a, .int (nI t)] m (qI P) := by
  refine v_X9_isDoneAfter ha ?_
  refine lp_up (W := fun p => (∀ q, q < p → it T t q = q) → mm_wp (d + 1) sn kX9_isDoneAfter 2 [some (.ref a), some (.int (nI t)), some (.int (nI p)), none, none] [] m (qI P)) (Nat.zero_le 8) ?_ ?_ (fun q hq => by omega)
  · intro hn
    refine v_X9_isDoneAfter_2 ha ?_
    simp (disch := omega) only [e_le, e_lt, e_eq, e_lt0, e_0le, e_le0, e_0lt, e_eq0, e_m1, e_m5, e_m1l, e_m5l, e_m1e, e_add, e_dec, e_sub, e_mul, e_div, e_rem, e_and, e_or, e_shl, e_shr, e_vin, e_nar, e_nar0, e_nar1, e_cl, e_b0, e_b00, e_b1, e_bt, e_andn, e_xor, Bool.not_eq_false, Bool.not_eq_true, Classical.not_not, not_false_eq_true, not_true_eq_false, true_implies, false_implies, true_and, and_true]
    refine ⟨fun _ => ?_, fun c => by omega⟩
    have e : dn T t = true := dn_t hn
    rw [e] at h; exact h
  · intro p _ hp ih hn
    refine v_X9_isDoneAfter_2 ha ?_
    simp (disch := omega) only [e_le, e_lt, e_eq, e_lt0, e_0le, e_le0, e_0lt, e_eq0, e_m1, e_m5, e_m1l, e_m5l, e_m1e, e_add, e_dec, e_sub, e_mul, e_div, e_rem, e_and, e_or, e_shl, e_shr, e_vin, e_nar, e_nar0, e_nar1, e_cl, e_b0, e_b00, e_b1, e_bt, e_andn, e_xor, Bool.not_eq_false, Bool.not_eq_true, Classical.not_not, not_false_eq_true, not_true_eq_false, true_implies, false_implies, true_and, and_true]
    refine ⟨fun c => by omega, fun _ => ?_⟩
    refine lp_up (W := fun i => mm_wp (d + 1) sn kX9_isDoneAfter 16 [some (.ref a), some (.int (nI t)), some (.int (nI p)), some (.int (nI (it T i p))), some (.int (nI i))] [] m (qI P)) (Nat.zero_le t) ?_ ?_
    · refine v_X9_isDoneAfter_16 ha ?_
      have hl := it_lt h8 t hp
      simp (disch := omega) only [e_le, e_lt, e_eq, e_lt0, e_0le, e_le0, e_0lt, e_eq0, e_m1, e_m5, e_m1l, e_m5l, e_m1e, e_add, e_dec, e_sub, e_mul, e_div, e_rem, e_and, e_or, e_shl, e_shr, e_vin, e_nar, e_nar0, e_nar1, e_cl, e_b0, e_b00, e_b1, e_bt, e_andn, e_xor, Bool.not_eq_false, Bool.not_eq_true, Classical.not_not, not_false_eq_true, not_true_eq_false, true_implies, false_implies, true_and, and_true]
      refine ⟨fun _ => ⟨fun e => ?_, fun e => ?_⟩, fun c => by omega⟩
      · refine ih (fun q hq => ?_)
        by_cases e2 : q = p
        · subst e2; exact e
        · exact hn q (by omega)
      · have e2 : dn T t = false := dn_f hp e
        rw [e2] at h; exact h
    · intro i _ hi ih2
      refine v_X9_isDoneAfter_16 ha ?_
      have hl := it_lt h8 i hp
      simp (disch := omega) only [e_le, e_lt, e_eq, e_lt0, e_0le, e_le0, e_0lt, e_eq0, e_m1, e_m5, e_m1l, e_m5l, e_m1e, e_add, e_dec, e_sub, e_mul, e_div, e_rem, e_and, e_or, e_shl, e_shr, e_vin, e_nar, e_nar0, e_nar1, e_cl, e_b0, e_b00, e_b1, e_bt, e_andn, e_xor, Bool.not_eq_false, Bool.not_eq_true, Classical.not_not, not_false_eq_true, not_true_eq_false, true_implies, false_implies, true_and, and_true]
      refine ⟨fun c => by omega, fun _ => ?_⟩
      exact s_pointFor ha hT hl ih2
def per (T : Nat → Nat) : Nat := cN (fun t => alN (fun j => !dn T (j + 1)) (t + 1)) 14 + 1
theorem per_s {T : Nat → Nat} {t : Nat} (ht : t ≤ 14) (h1 : ∀ j, j < t → dn T (j + 1) = false) (h2 : t < 14 → dn T (t + 1) = true) : per T = t + 1 := by
  unfold per
  rw [cN_cut (t := t) _ _ ht]
  · intro s hs
    exact alN_t (fun j hj => by rw [h1 j (by omega)]; rfl)
  · intro s hs hk
    exact alN_f (s := t) (by rw [h2 (by omega)]; rfl) (by omega)
theorem s_period {d sn a kd fg : Nat} {m : mm_Mem} {P : Int32 → mm_Mem → Prop} {T : Nat → Nat} (ha : shY a) (hT : rY a kd fg T m) (h8 : ∀ p, p < 8 → T p < 8) (h : P (nI (per T)) m) : mm_sp (d + 3) sn kX9_period [.ref a] m (qI P) := by
  refine v_X9_period ha ?_
  refine lp_up (W := fun t => (∀ j, j < t → dn T (j + 1) = false) → mm_wp (d + 2) sn kX9_period 2 [some (.ref a), some (.int (nI (t + 1)))] [] m (qI P)) (Nat.zero_le 14) ?_ ?_ (fun q hq => by omega)
  · intro hn
    refine v_X9_period_2 ha ?_
    simp (disch := omega) only [e_le, e_lt, e_eq, e_lt0, e_0le, e_le0, e_0lt, e_eq0, e_m1, e_m5, e_m1l, e_m5l, e_m1e, e_add, e_dec, e_sub, e_mul, e_div, e_rem, e_and, e_or, e_shl, e_shr, e_vin, e_nar, e_nar0, e_nar1, e_cl, e_b0, e_b00, e_b1, e_bt, e_andn, e_xor, Bool.not_eq_false, Bool.not_eq_true, Classical.not_not, not_false_eq_true, not_true_eq_false, true_implies, false_implies, true_and, and_true]
    refine ⟨fun _ => ?_, fun c => by omega⟩
    rw [per_s (Nat.le_refl 14) hn (fun c => by omega)] at h
    exact h
  · intro t _ ht ih hn
    refine v_X9_period_2 ha ?_
    simp (disch := omega) only [e_le, e_lt, e_eq, e_lt0, e_0le, e_le0, e_0lt, e_eq0, e_m1, e_m5, e_m1l, e_m5l, e_m1e, e_add, e_dec, e_sub, e_mul, e_div, e_rem, e_and, e_or, e_shl, e_shr, e_vin, e_nar, e_nar0, e_nar1, e_cl, e_b0, e_b00, e_b1, e_bt, e_andn, e_xor, Bool.not_eq_false, Bool.not_eq_true, Classical.not_not, not_false_eq_true, not_true_eq_false, true_implies, false_implies, true_and, and_true]
    refine ⟨fun c => by omega, fun _ => ?_⟩
    refine s_isDone ha hT h8 (by omega) ?_
    simp (disch := omega) only [e_le, e_lt, e_eq, e_lt0, e_0le, e_le0, e_0lt, e_eq0, e_m1, e_m5, e_m1l, e_m5l, e_m1e, e_add, e_dec, e_sub, e_mul, e_div, e_rem, e_and, e_or, e_shl, e_shr, e_vin, e_nar, e_nar0, e_nar1, e_cl, e_b0, e_b00, e_b1, e_bt, e_andn, e_xor, Bool.not_eq_false, Bool.not_eq_true, Classical.not_not, not_false_eq_true, not_true_eq_false, true_implies, false_implies, true_and, and_true]
    refine ⟨fun e => ih (fun j hj => ?_), fun e => ?_⟩
    · by_cases e2 : j = t
      · subst e2; exact e
      · exact hn j (by omega)
    · rw [per_s (show t ≤ 14 by omega) hn (fun _ => e)] at h
      exact h
theorem row_n {α : Type} {f : Nat → Nat → α} {a x : Nat} {g : Nat → α} (h : x ≠ a) : mm_row f a g x = f x := funext fun j => if_neg h
theorem row_s {α : Type} {f : Nat → Nat → α} {a : Nat} {g : Nat → α} : mm_row f a g a = g := funext fun j => if_pos rfl
theorem fr_row {X : List Nat} {r : Nat → Nat → Int32} {l : Nat → Nat → Int64} {a : Nat} {g : Nat → Int32} (h : a ∈ X) : fr X (r, l) (mm_row r a g, l) := fun x hx => ⟨row_n (fun e => hx (by rw [e]; exact h)), rfl⟩
theorem s_ycopy {d sn a b kd fg : Nat} {m : mm_Mem} {P : mm_Mem → Prop} {T : Nat → Nat} (ha : shY a) (hb : shY b) (hne : a ≠ b ∧ a ≠ b + 1 ∧ a + 1 ≠ b) (hT : rY b kd fg T m) (h : ∀ m', fr [a, a + 1] m m' → rY a kd fg T m' → P m') : mm_sp (d + 2) sn kX9_copyFrom [.ref a, .ref b] m (qV P) := by
  refine v_X9_copyFrom (by omega) ha hb ?_
  intro m1 e1 m2 e2
  simp (disch := omega) only [e_le, e_lt, e_eq, e_lt0, e_0le, e_le0, e_0lt, e_eq0, e_m1, e_m5, e_m1l, e_m5l, e_m1e, e_add, e_dec, e_sub, e_mul, e_div, e_rem, e_and, e_or, e_shl, e_shr, e_vin, e_nar, e_nar0, e_nar1, e_cl, e_b0, e_b00, e_b1, e_bt, e_andn, e_xor, Bool.not_eq_false, Bool.not_eq_true, Classical.not_not, not_false_eq_true, not_true_eq_false, true_implies, false_implies, true_and, and_true]
  refine ⟨by decide, fun m3 e3 => ?_⟩
  subst e1; subst e2; subst e3
  refine h _ ?_ ⟨?_, ?_, ?_⟩
  · refine ((fr_u2 (a := a) (by simp)).trans (fr_u2 (m := (_, _)) (a := a) (by simp))).trans (fr_row (a := a + 1) (by simp))
  · show mm_row _ (a + 1) _ a 0 = _
    rw [row_n (by omega)]
    show mm_u2 _ a 1 _ a 0 = _
    rw [u2_j (by omega)]
    show mm_u2 _ a 0 _ a 0 = _
    rw [u2_s]
    exact hT.1
  · show mm_row _ (a + 1) _ a 1 = _
    rw [row_n (by omega)]
    show mm_u2 _ a 1 _ a 1 = _
    rw [u2_s]
    show mm_u2 _ a 0 _ b 1 = _
    rw [u2_rj (fun e => hne.1 e.symm)]
    exact hT.2.1
  · intro p hp
    show mm_row _ (a + 1) _ (a + 1) p = _
    rw [row_s, pk_cpy_in (by omega) (by omega)]
    have e : 0 + (p - 0) = p := by omega
    rw [e]
    show mm_u2 _ a 1 _ (b + 1) p = _
    rw [u2_rj (fun e => hne.2.1 e.symm)]
    show mm_u2 _ a 0 _ (b + 1) p = _
    rw [u2_rj (fun e => hne.2.1 e.symm)]
    exact hT.2.2 p hp
