-- CHOICES: the table is laid
def tbN (num : Nat → Option Nat) (k x j s : Nat) : Nat := cN (fun y => hld num k j y && (y &&& x == x)) s
theorem tbN_le (num : Nat → Option Nat) (k x j s : Nat) : tbN num k x j s ≤ s := cN_le _ _
def cvb (C : Nat) (f : Nat → Nat) (c : Nat) : Prop := c < 2 ^ 14 ∧ ∀ j, c.testBit j = decide (j < C ∧ 0 < f j)
/-- one row as it stands when the sets below s are counted -/
def rRow (num : Nat → Option Nat) (C k row x s : Nat) (m : mm_Mem) : Prop := (∀ j, j < 14 → m.1 67 (14 * row + j) = nI (if j < C then tbN num k x j s else 0)) ∧ ∃ c, m.1 68 row = nI c ∧ cvb C (fun j => tbN num k x j s) c
def othR (row : Nat) (m m' : mm_Mem) : Prop := (∀ q, (q < 14 * row ∨ 14 * row + 14 ≤ q) → m'.1 67 q = m.1 67 q) ∧ ∀ i, i ≠ row → m'.1 68 i = m.1 68 i
theorem othR.refl {row : Nat} {m : mm_Mem} : othR row m m := ⟨fun _ _ => rfl, fun _ _ => rfl⟩
theorem othR.trans {row : Nat} {m1 m2 m3 : mm_Mem} (h : othR row m1 m2) (g : othR row m2 m3) : othR row m1 m3 := ⟨fun q hq => (g.1 q hq).trans (h.1 q hq), fun i hi => (g.2 i hi).trans (h.2 i hi)⟩
theorem s_cCount {d sn C row j : Nat} {m : mm_Mem} {P : mm_Mem → Prop} {a c : Nat} (hC : m.1 66 7 = nI C) (hC14 : C ≤ 14) (hr : row < 70) (hj : j < C) (h67 : m.1 67 (14 * row + j) = nI a) (h68 : m.1 68 row = nI c) (h : ∀ m', m' = (mm_u2 (mm_u2 m.1 67 (14 * row + j) (nI (a + 1))) 68 row (nI (c ||| 1 <<< j)), m.2) → P m') : mm_sp (d + 1) sn kX1_countSet [.ref 66, .int (nI row), .int (nI j)] m (qV P) := by
  refine v_X1_countSet ?_
  have e0 : nI row * nI 14 + nI j = nI (14 * row + j) := by
    rw [e_mul, e_add, Nat.mul_comm]
  rw [e0, hC]
  refine e_vF (by rw [e_lt0 (by omega)]; exact id) (e_vF (by rw [e_le (by omega) (by omega)]; omega) (e_vF (by rw [e_lt0 (by omega)]; exact id) (e_vT (by rw [e_lt (by omega) (by omega)]; exact hj) (e_vF (by rw [e_le (by omega) (by omega)]; omega) ?_))))
  rw [e_vin (by omega) (by omega), e_vin (by omega) (by omega), e_cl (by omega), e_cl (by omega), h67, e_add]
  refine ⟨by omega, by omega, fun m1 e1 => ⟨hr, hr, fun m2 e2 => h m2 ?_⟩⟩
  have e3 : m1.1 68 row = nI c := by
    subst e1
    show mm_u2 m.1 67 (14 * row + j) (nI (a + 1)) 68 row = _
    rw [u2_rj (by omega)]; exact h68
  rw [e3, e_shl (by omega), e_or] at e2
  rw [e2, e1]
theorem s_cSkip {d sn row : Nat} {m : mm_Mem} {P : mm_Mem → Prop} (hr : row < 70) (h : P m) : mm_sp (d + 1) sn kX1_countSet [.ref 66, .int (nI row), .int (-1)] m (qV P) := by
  refine v_X1_countSet ?_
  exact e_vF (by rw [e_lt0 (by omega)]; exact id) (e_vF (by rw [e_le (by omega) (by omega)]; omega) (e_vT (by decide) h))
theorem s_loadRow {d sn C k row x : Nat} {num : Nat → Option Nat} {amt : Nat → Nat} {m : mm_Mem} {P : mm_Mem → Prop} (hO : rO num amt m) (hN : ∀ s o, s < 256 → num s = some o → o < 256 ∧ (bc s = k → o < C)) (hk : k < 9) (hC : m.1 66 7 = nI C) (hC14 : C ≤ 14) (hr : row < 70) (hx : x < 256) (h0 : (∀ j, j < 14 → m.1 67 (14 * row + j) = nI 0) ∧ m.1 68 row = nI 0) (h : ∀ m', fz 67 68 m m' → othR row m m' → rRow num C k row x 256 m' → P m') : mm_sp (d + 2) sn kX1_loadRow [.ref 66, .ref 59, .int (nI k), .int (nI row), .int (nI x)] m (qV P) := by
  refine v_X1_loadRow ?_
  refine lp_up (W := fun s => ∀ m1, fz 67 68 m m1 → othR row m m1 → rRow num C k row x s m1 → mm_wp (d + 1) sn kX1_loadRow 3 [some (.ref 66), some (.ref 59), some (.int (nI k)), some (.int (nI row)), some (.int (nI x)), some (.int (nI s))] [] m1 (qV P)) (Nat.zero_le 256) ?_ ?_ m fz.refl othR.refl ⟨fun j hj => ?_, 0, h0.2, by decide, fun j => ?_⟩
  · intro m1 g0 g1 g2
    exact v_X1_loadRow_3 (e_vT (by decide) (h m1 g0 g1 g2))
  · intro s _ hs ih m1 g0 g1 g2
    refine v_X1_loadRow_3 (e_vF (by rw [e_le (by omega) (by omega)]; omega) ?_)
    have skip : (∀ j, j < C → (hld num k j s && (s &&& x == x)) = false) → mm_wp (d + 1) sn kX1_loadRow 3 [some (.ref 66), some (.ref 59), some (.int (nI k)), some (.int (nI row)), some (.int (nI x)), some (.int (nI (s + 1)))] [] m1 (qV P) := by
      intro e
      have e2 : ∀ j, j < C → tbN num k x j (s + 1) = tbN num k x j s := fun j hj => cN_f (e j hj)
      obtain ⟨q1, c, q2, q3, q4⟩ := g2
      refine ih m1 g0 g1 ⟨fun j hj => ?_, c, q2, q3, fun j => ?_⟩
      · rw [q1 j hj]
        by_cases e3 : j < C
        · rw [if_pos e3, if_pos e3, e2 j e3]
        · rw [if_neg e3, if_neg e3]
      · rw [q4 j]
        by_cases e3 : j < C
        · show decide (j < C ∧ 0 < tbN num k x j s) = decide (j < C ∧ 0 < tbN num k x j (s + 1))
          rw [e2 j e3]
        · rw [decide_eq_false (fun hh => e3 hh.1), decide_eq_false (fun hh => e3 hh.1)]
    have hl : s &&& x ≤ s := Nat.and_le_left
    rw [e_and, e_eq (by omega) (by omega), e_add]
    refine ⟨fun e => skip (fun j _ => by rw [beq_eq_false_iff_ne.mpr e, Bool.and_false]), fun e => ?_⟩
    have e := Classical.not_not.mp e
    have hbl := bc_le s
    refine s_bitCount (by omega) ?_
    rw [e_eq (by omega) (by omega)]
    refine ⟨fun e2 => skip (fun j _ => by unfold hld; rw [beq_eq_false_iff_ne.mpr e2, Bool.and_false, Bool.false_and]), fun e2 => ?_⟩
    have e2 := Classical.not_not.mp e2
    have hO1 : rO num amt m1 := by
      unfold rO
      rw [g0.i (by omega), g0.i (by omega)]
      exact hO
    refine s_numberOf hO1 hs ?_
    cases hq : num s with
    | none =>
      refine s_cSkip hr (skip (fun j _ => ?_))
      unfold hld
      rw [hq]; rfl
    | some o =>
      obtain ⟨ho, hoC⟩ := hN s o hs hq
      have hoC := hoC e2
      rw [oI_s]
      obtain ⟨q1, c, q2, q3, q4⟩ := g2
      have e67 := q1 o (by omega)
      rw [if_pos hoC] at e67
      have hC1 : m1.1 66 7 = nI C := by rw [g0.i (by omega)]; exact hC
      refine s_cCount hC1 hC14 hr hoC e67 q2 ?_
      intro m2 em
      have hT : (hld num k o s && (s &&& x == x)) = true := by unfold hld; rw [hq, e2, e]; simp
      have hTo : ∀ j, j ≠ o → (hld num k j s && (s &&& x == x)) = false := fun j hj => by
        have : (some o == some j) = false := beq_eq_false_iff_ne.mpr (fun hh => hj (Option.some.inj hh).symm)
        unfold hld
        rw [hq, this]; rfl
      have t1 : tbN num k x o (s + 1) = tbN num k x o s + 1 := cN_t hT
      have t2 : ∀ j, j ≠ o → tbN num k x j (s + 1) = tbN num k x j s := fun j hj => cN_f (hTo j hj)
      refine ih m2 (g0.trans ?_) (g1.trans ⟨fun q hq2 => ?_, fun i hi => ?_⟩) ⟨fun j hj => ?_, c ||| 1 <<< o, ?_, Nat.or_lt_two_pow q3 (shl_lt (by omega)), fun j => ?_⟩
      · subst em
        exact (fz_u2 (by omega) (by omega)).trans (fz_u2 (m := (_, _)) (by omega) (by omega))
      · subst em
        show mm_u2 (mm_u2 m1.1 67 (14 * row + o) (nI (tbN num k x o s + 1))) 68 row (nI (c ||| 1 <<< o)) 67 q = _
        rw [u2_rj (by omega), u2_j (by omega)]
      · subst em
        show mm_u2 (mm_u2 m1.1 67 (14 * row + o) (nI (tbN num k x o s + 1))) 68 row (nI (c ||| 1 <<< o)) 68 i = _
        rw [u2_j hi, u2_rj (by omega)]
      · subst em
        show mm_u2 (mm_u2 m1.1 67 (14 * row + o) (nI (tbN num k x o s + 1))) 68 row (nI (c ||| 1 <<< o)) 67 (14 * row + j) = _
        rw [u2_rj (by omega)]
        by_cases e3 : j = o
        · subst e3
          rw [u2_s, if_pos hoC, t1]
        · rw [u2_j (by omega), q1 j hj]
          by_cases e4 : j < C
          · rw [if_pos e4, if_pos e4, t2 j e3]
          · rw [if_neg e4, if_neg e4]
      · subst em
        show mm_u2 (mm_u2 m1.1 67 (14 * row + o) (nI (tbN num k x o s + 1))) 68 row (nI (c ||| 1 <<< o)) 68 row = _
        rw [u2_s]
      · rw [Nat.testBit_or, tb_shl, q4 j]
        show (decide (j < C ∧ 0 < tbN num k x j s) || decide (o = j)) = decide (j < C ∧ 0 < tbN num k x j (s + 1))
        by_cases e3 : j = o
        · subst e3
          rw [t1, decide_eq_true (show j = j from rfl), Bool.or_true, decide_eq_true ⟨hoC, by omega⟩]
        · have e8 : decide (o = j) = false := decide_eq_false (fun hh => e3 hh.symm)
          rw [t2 j e3, e8, Bool.or_false]
  · rw [h0.1 j hj]
    split <;> rfl
  · rw [Nat.zero_testBit]
    exact (decide_eq_false (fun hh => absurd hh.2 (Nat.lt_irrefl 0))).symm
theorem rRow_oth {num : Nat → Option Nat} {C k row i x s : Nat} {m m' : mm_Mem} (h : othR row m m') (hi : i < row) (hR : rRow num C k i x s m) : rRow num C k i x s m' := by
  obtain ⟨q1, c, q2, q3⟩ := hR
  exact ⟨fun j hj => by rw [h.1 _ (by omega)]; exact q1 j hj, c, by rw [h.2 i (by omega)]; exact q2, q3⟩
/-- the table of t and k lies ready -/
def rC (num : Nat → Option Nat) (amt : Nat → Nat) (t k : Nat) (m : mm_Mem) : Prop := m.1 66 6 = nI (amt t) ∧ m.1 66 7 = nI (amt k) ∧ (∀ i, i < amt t → rRow num (amt k) k i (ft (hld num t i)) 256 m) ∧ ∀ j, j < amt k → m.1 71 j = nI (cN (hld num k j) 256)
theorem shI_67 : shI 980 67 := ⟨by decide, fun _ => rfl⟩
theorem shI_68 : shI 70 68 := ⟨by decide, fun _ => rfl⟩
theorem s_load {d sn t k : Nat} {num : Nat → Option Nat} {amt : Nat → Nat} {m : mm_Mem} {P : mm_Mem → Prop} (hO : rO num amt m) (hS : oS num amt) (hN : ∀ s o, s < 256 → num s = some o → o < amt (bc s)) (hE : ∀ i, i < amt t → ∃ s, s < 256 ∧ hld num t i s = true) (ht : t < 9) (hk : k < 9) (hR : amt t ≤ 70) (hC : amt k ≤ 14) (h : ∀ m', fz 66 72 m m' → rC num amt t k m' → P m') : mm_sp (d + 5) sn kX1_load [.ref 66, .ref 59, .int (nI t), .int (nI k)] m (qV P) := by
  have rO_of : ∀ m', fz 66 72 m m' → rO num amt m' := fun m' g => by
    unfold rO
    rw [g.i (by omega), g.i (by omega)]
    exact hO
  refine v_X1_load (by omega) ?_
  refine s_amountOf hO ht ?_
  intro m1 e1
  rw [if_neg (by rw [e_lt (by omega) (by omega)]; omega)] at e1
  have f1 : fz 66 72 m m1 := by subst e1; exact fz_u2 (by omega) (by omega)
  refine s_amountOf (rO_of m1 f1) hk ?_
  intro m2 e2
  rw [if_neg (by rw [e_lt (by omega) (by omega)]; omega)] at e2
  have f2 : fz 66 72 m1 m2 := by subst e2; exact fz_u2 (by omega) (by omega)
  have r6 : m2.1 66 6 = nI (amt t) := by
    subst e1; subst e2
    show mm_u2 (mm_u2 m.1 66 6 (nI (amt t))) 66 7 (nI (amt k)) 66 6 = _
    rw [u2_j (by omega), u2_s]
  have r7 : m2.1 66 7 = nI (amt k) := by
    subst e2
    show mm_u2 m1.1 66 7 (nI (amt k)) 66 7 = _
    rw [u2_s]
  refine s_fillI shI_67 (by omega) ?_
  intro m3 h3 z3
  refine s_fillI shI_68 (by omega) ?_
  intro m4 h4 z4
  have f4 : fz 66 72 m m4 := (f1.trans f2).trans ((h3.z1 (by omega) (by omega)).trans (h4.z1 (by omega) (by omega)))
  refine lp_up (W := fun j => ∀ m5, fz 66 72 m m5 → fz 71 71 m4 m5 → (∀ i, i < j → m5.1 71 i = nI (cN (hld num k i) 256)) → mm_wp (d + 4) sn kX1_load 47 [some (.ref 66), some (.ref 59), some (.int (nI t)), some (.int (nI k)), some (.int (nI j))] [] m5 (qV P)) (Nat.zero_le (amt k)) ?_ ?_ m4 f4 fz.refl (fun i hi => by omega)
  · intro m5 g0 g1 g2
    have r66 : m5.1 66 = m2.1 66 := by
      rw [g1.i (by omega), h4.i (by simp), h3.i (by simp)]
    refine v_X1_load_47 ?_
    rw [r66, r7]
    refine e_vT (by rw [e_le (by omega) (by omega)]; omega) ?_
    refine lp_up (W := fun i => ∀ m6, fz 66 72 m m6 → fz 67 68 m5 m6 → (∀ r, r < i → rRow num (amt k) k r (ft (hld num t r)) 256 m6) → (∀ q, 14 * i ≤ q → q < 980 → m6.1 67 q = nI 0) → (∀ r, i ≤ r → r < 70 → m6.1 68 r = nI 0) → mm_wp (d + 4) sn kX1_load 89 [some (.ref 66), some (.ref 59), some (.int (nI t)), some (.int (nI k)), some (.int (nI i))] [] m6 (qV P)) (Nat.zero_le (amt t)) ?_ ?_ m5 g0 fz.refl (fun r hr => by omega) (fun q _ hq => ?_) (fun r _ hr => ?_)
    · intro m6 b0 b1 b2 _ _
      have r66b : m6.1 66 = m2.1 66 := by rw [b1.i (by omega)]; exact r66
      refine v_X1_load_89 ?_
      rw [r66b, r6]
      refine e_vT (by rw [e_le (by omega) (by omega)]; omega) (h m6 b0 ⟨by rw [r66b]; exact r6, by rw [r66b]; exact r7, b2, fun j hj => ?_⟩)
      rw [b1.i (by omega)]
      exact g2 j hj
    · intro i _ hi ih m6 b0 b1 b2 b3 b4
      have r66b : m6.1 66 = m2.1 66 := by rw [b1.i (by omega)]; exact r66
      refine v_X1_load_89 ?_
      rw [r66b, r6]
      refine e_vF (by rw [e_le (by omega) (by omega)]; omega) ?_
      obtain ⟨x1, _, _, x4⟩ := ft_s (hE i hi)
      refine mm_sp.up (s_oSetAt (d := 0) (rO_of m6 b0) hS ht (by omega) (by omega) ?_) (by omega)
      rw [x4]
      refine mm_sp.up (s_loadRow (d := 0) (C := amt k) (rO_of m6 b0) (fun s o hs e => ⟨hS.1 s o hs e, fun eb => by have := hN s o hs e; rw [eb] at this; exact this⟩) hk (by rw [r66b]; exact r7) hC (by omega) x1 ⟨fun j hj => b3 _ (by omega) (by omega), b4 i (Nat.le_refl i) (by omega)⟩ ?_) (by omega)
      intro m7 c0 c1 c2
      rw [e_add]
      refine ih m7 (b0.trans (c0.wide (by omega) (by omega))) (b1.trans c0) (fun r hr => ?_) (fun q hq hq2 => ?_) (fun r hr hr2 => ?_)
      · by_cases e : r = i
        · subst e; exact c2
        · exact rRow_oth c1 (by omega) (b2 r (by omega))
      · rw [c1.1 q (by omega)]; exact b3 q (by omega) hq2
      · rw [c1.2 r (by omega)]; exact b4 r (by omega) hr2
    · rw [g1.i (by omega), h4.i (by simp)]; exact z3 q hq
    · rw [g1.i (by omega)]; exact z4 r hr
  · intro j _ hj ih m5 g0 g1 g2
    have r66 : m5.1 66 = m2.1 66 := by
      rw [g1.i (by omega), h4.i (by simp), h3.i (by simp)]
    refine v_X1_load_47 ?_
    rw [r66, r7]
    refine e_vF (by rw [e_le (by omega) (by omega)]; omega) (e_vF (by rw [e_le (by omega) (by omega)]; omega) ?_)
    refine s_setsIn (rO_of m5 g0) hS hk (by omega) ?_
    rw [e_vin (by omega) (by omega), e_cl (by omega), e_add]
    refine ⟨by omega, fun m6 e6 => ?_⟩
    have f6 : fz 71 71 m5 m6 := by subst e6; exact fz_u2 (by omega) (by omega)
    refine ih m6 (g0.trans (f6.wide (by omega) (by omega))) (g1.trans f6) (fun i hi => ?_)
    subst e6
    show mm_u2 m5.1 71 j (nI (cN (hld num k j) 256)) 71 i = _
    by_cases e : i = j
    · subst e; rw [u2_s]
    · rw [u2_j e]; exact g2 i (by omega)
theorem s_loadChoices {d sn t k : Nat} {X : GS} {m : mm_Mem} {P : Int32 → mm_Mem → Prop} (hX : okX X) (hI : cI X m) (htk : t ≤ sN X.1 ∧ k ≤ sN X.1) (h1 : (fndS X.1).2 k ≤ 14 → ∀ m', fz 59 72 m m' → cI X m' → rO (fndS X.1).1 (fndS X.1).2 m' → rC (fndS X.1).1 (fndS X.1).2 t k m' → P (nI 1) m') (h0 : ¬ (fndS X.1).2 k ≤ 14 → ∀ m', fz 59 72 m m' → cI X m' → P (nI 0) m') : mm_sp (d + 6) sn kX10_loadChoices [.ref 1, .int (nI t), .int (nI k)] m (qI P) := by
  refine v_X10_loadChoices ?_
  have hN := hX.1.1.2
  have hF := fnd_oF hX.1
  have hS := fnd_oS hX.1
  refine s_find hI.1 hX.1 ?_
  intro m1 hz hO
  have hk2 := hS.2 k (by omega)
  have hI1 := fz_cI hX hz (by omega) hI
  refine s_amountOf hO (by omega) ?_
  rw [e_le (by omega) (by omega)]
  refine ⟨fun c => ?_, fun c => h0 c m1 (hz.wide (by omega) (by omega)) hI1⟩
  refine s_load hO hS (fun s o _ e => (hF.1 s o e).2) (fun i hi => orb_has hX.1 hi) (by omega) (by omega) (fnd_70 hX.1 (by omega)) c ?_
  intro m2 hz2 hC
  refine h1 c m2 ((hz.wide (by omega) (by omega)).trans (hz2.wide (by omega) (by omega))) (fz_cI hX hz2 (by omega) hI1) ?_ hC
  unfold rO
  rw [hz2.i (by omega), hz2.i (by omega)]
  exact hO
