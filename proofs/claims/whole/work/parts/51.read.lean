-- the class's read
def nmN (T : TX) (st : Nat) : Nat → Nat
  | 0 => 0
  | n + 1 => nmN T st n * 10 + (sgc T (st + n) - 48)
theorem isD_9 {T : TX} {p : Nat} (h : isD T p = true) : 48 ≤ sgc T p ∧ sgc T p ≤ 57 := of_decide_eq_true h
theorem nmN_lt {T : TX} {st : Nat} : ∀ {n : Nat}, (∀ j, j < n → isD T (st + j) = true) → nmN T st n < 10 ^ n
  | 0, _ => (Nat.zero_lt_one : 0 < 1)
  | n + 1, h => by
    have ih := nmN_lt (fun j hj => h j (by omega) : ∀ j, j < n → isD T (st + j) = true)
    have := isD_9 (h n (by omega))
    show nmN T st n * 10 + (sgc T (st + n) - 48) < 10 ^ (n + 1)
    rw [Nat.pow_succ]
    omega
theorem nm_8 {n : Nat} (h : n ≤ 8) : 10 ^ n ≤ 100000000 := Nat.pow_le_pow_right (n := 10) (by decide) h
theorem s_numberIn {d sn st len : Nat} {T : TX} {m : mm_Mem} {P : Int32 → mm_Mem → Prop} (hT : rX T m) (hok : okTx T) (hl : len ≤ 8) (hs : st < 10000) (hd : ∀ j, j < len → isD T (st + j) = true) (h : P (nI (nmN T st len)) m) : mm_sp (d + 3) sn kX8_numberIn [.ref 44, .int (nI st), .int (nI (st + len))] m (qI P) := by
  refine v_X8_numberIn ?_
  have W := lp_up (W := fun i => mm_wp (d + 2) sn kX8_numberIn 5 [some (.ref 44), none, some (.int (nI (st + len))), some (.int (nI (nmN T st i))), some (.int (nI (st + i)))] [] m (qI P)) (Nat.zero_le len) ?_ ?_
  · exact W
  · exact v_X8_numberIn_5 (e_vT (by rw [e_le (by omega) (by omega)]; omega) h)
  · intro i _ hi ih
    refine v_X8_numberIn_5 (e_vF (by rw [e_le (by omega) (by omega)]; omega) ?_)
    refine s_digitAt hT hok (by omega) ?_
    rw [if_pos (hd i hi), e_mul, e_add, e_add]
    exact ih
def bsN (T : TX) (st : Nat) : Nat → Nat
  | 0 => 0
  | n + 1 => bsN T st n ||| 1 <<< (sgc T (st + n) - 48)
theorem bsN_lt {T : TX} {st : Nat} : ∀ {n : Nat}, (∀ j, j < n → isD T (st + j) = true) → bsN T st n < 2 ^ 10
  | 0, _ => Nat.two_pow_pos 10
  | n + 1, h => by
    have ih := bsN_lt (fun j hj => h j (by omega) : ∀ j, j < n → isD T (st + j) = true)
    have := isD_9 (h n (by omega))
    exact Nat.or_lt_two_pow ih (shl_lt (by omega))
theorem bsN_ge {T : TX} {st j : Nat} : ∀ {n : Nat}, j < n → 2 ^ (sgc T (st + j) - 48) ≤ bsN T st n
  | n + 1, h => by
    show _ ≤ bsN T st n ||| 1 <<< (sgc T (st + n) - 48)
    by_cases e : j = n
    · subst e
      have e9 : 1 <<< (sgc T (st + j) - 48) = 2 ^ (sgc T (st + j) - 48) := by rw [Nat.shiftLeft_eq, Nat.one_mul]
      rw [e9]
      exact Nat.right_le_or
    · exact Nat.le_trans (bsN_ge (show j < n by omega)) Nat.left_le_or
theorem c_doBlock {d sn st len : Nat} {X : GS} {m : mm_Mem} {P : Int32 → mm_Mem → Prop} (hX : okX X) (hI : cI X m) (hl : len ≤ 8) (hs : st < 10000) (hd : ∀ j, j < len → isD X.2.2.2.1 (st + j) = true) (h : ∀ m', fz 1 81 m m' → cI (setS X (S_block X.1 (nI (bsN X.2.2.2.1 st len)))) m' → P (nI (!decide (A_block X.1 (nI (bsN X.2.2.2.1 st len)) < 0)).toNat) m') : mm_sp (d + 7) sn kX10_doBlockClause [.ref 1, .int (nI st), .int (nI (st + len))] m (qI P) := by
  have hN := hX.1.1
  have hp8 := p2_le hN.2
  have hbl : bsN X.2.2.2.1 st len < 1024 := bsN_lt hd
  refine v_X10_doBlockClause ?_
  have W := lp_up (W := fun i => mm_wp (d + 6) sn kX10_doBlockClause 5 [some (.ref 1), none, some (.int (nI (st + len))), some (.int (nI (bsN X.2.2.2.1 st i))), some (.int (nI (st + i))), none] [] m (qI P)) (Nat.zero_le len) ?_ ?_
  · exact W
  · refine v_X10_doBlockClause_5 (e_vT (by rw [e_le (by omega) (by omega)]; omega) ?_)
    refine mm_sp.up (c_block (d := 0) hX hI ?_) (by omega)
    intro m' g0 g1
    have h := h m' g0 g1
    refine ⟨fun c => ?_, fun c => ?_⟩
    · rw [decide_eq_true c] at h; exact h
    · rw [decide_eq_false c] at h; exact h
  · intro i _ hi ih
    have hdi := isD_9 (hd i hi)
    refine v_X10_doBlockClause_5 (e_vF (by rw [e_le (by omega) (by omega)]; omega) ?_)
    refine mm_sp.up (s_digitAt (d := 0) hI.2.2.2.1 hX.2.2.1 (by omega) ?_) (by omega)
    rw [if_pos (hd i hi)]
    refine mm_sp.up (s_isPoint (d := 0) shS_2 hI.1.1 (e_vb (fun e => ?_) (fun e => ?_))) (by omega)
    · rw [e_shl (by omega), e_or, e_add]
      exact ih
    · rw [iz_n (by omega) (by omega), decide_eq_false_iff_not] at e
      have hge := bsN_ge (T := X.2.2.2.1) (st := st) hi
      have hpw : (2 : Nat) ^ sN X.1 ≤ 2 ^ (sgc X.2.2.2.1 (st + i) - 48) := Nat.pow_le_pow_right (by decide) (by omega)
      have hiz : iz (nI (bsN X.2.2.2.1 st len)) (2 ^ sN X.1) = false := by
        rw [iz_n (by omega) (by omega)]
        exact decide_eq_false (by omega)
      have hb : bOk X.1 (nI (bsN X.2.2.2.1 st len)) = false := by unfold bOk; rw [hiz, Bool.false_and]
      have e1 : S_block X.1 (nI (bsN X.2.2.2.1 st len)) = X.1 := by unfold S_block; rw [if_neg (by rw [hb]; decide)]
      have e2 : A_block X.1 (nI (bsN X.2.2.2.1 st len)) = -1 := by unfold A_block; rw [if_neg (by rw [hb]; decide)]
      rw [e1, e2] at h
      exact h m fz.refl hI
noncomputable def clA (S : St) (T : TX) (s len : Nat) : Int32 := if sgc T s = 98 then A_block S (nI (bsN T (s + 1) len)) else if sgc T s = 103 then A_way S (nI (nmN T (s + 1) len / 10)) (nI (nmN T (s + 1) len % 10)) else if sgc T s = 104 then A_hand S (nI (nmN T (s + 1) len)) else if sgc T s = 107 then A_choose S (nI (nmN T (s + 1) len / 10)) (nI (1 <<< (nmN T (s + 1) len % 10))) else if sgc T s = 110 then A_points S (nI (nmN T (s + 1) len)) else -1
noncomputable def clS (S : St) (T : TX) (s len : Nat) : St := if sgc T s = 98 then S_block S (nI (bsN T (s + 1) len)) else if sgc T s = 103 then S_way S (nI (nmN T (s + 1) len / 10)) (nI (nmN T (s + 1) len % 10)) else if sgc T s = 104 then S_hand S (nI (nmN T (s + 1) len)) else if sgc T s = 107 then S_choose S (nI (nmN T (s + 1) len / 10)) (nI (1 <<< (nmN T (s + 1) len % 10))) else if sgc T s = 110 then S_points S (nI (nmN T (s + 1) len)) else S
theorem okS_cl {S : St} {T : TX} {s len : Nat} (h : okS S) : okS (clS S T s len) := by
  unfold clS
  split
  · exact okS_block h
  split
  · exact okS_way h
  split
  · exact okS_hand h
  split
  · exact okS_choose h
  split
  · exact okS_points h
  exact h
theorem c_doClause {d sn s len : Nat} {X : GS} {m : mm_Mem} {P : Int32 → mm_Mem → Prop} (hX : okX X) (hI : cI X m) (hl : len ≤ 8) (hs : s < 9000) (hd : ∀ j, j < len → isD X.2.2.2.1 (s + 1 + j) = true) (h : ∀ m', fz 1 81 m m' → cI (setS X (clS X.1 X.2.2.2.1 s len)) m' → P (nI (!decide (clA X.1 X.2.2.2.1 s len < 0)).toNat) m') : mm_sp (d + 8) sn kX10_doClause [.ref 1, .int (nI s), .int (nI (s + 1 + len))] m (qI P) := by
  have hT := hI.2.2.2.1
  have hok := hX.2.2.1
  have hv := nmN_lt hd
  have h8 := nm_8 hl
  have fin : ∀ (a : Int32) (m' : mm_Mem), P (nI (!decide (a < 0)).toNat) m' → ((a < 0) → (P (nI 0) m')) ∧ (¬ (a < 0) → (P (nI 1) m')) := by
    intro a m' hp
    refine ⟨fun c => ?_, fun c => ?_⟩
    · rw [decide_eq_true c] at hp; exact hp
    · rw [decide_eq_false c] at hp; exact hp
  refine v_X10_doClause ?_
  rw [e_add]
  refine mm_sp.up (s_numberIn (d := 0) hT hok hl (by omega) hd ?_) (by omega)
  refine mm_sp.up (s_signAt (d := 0) hT hok (by omega) ?_) (by omega)
  rw [e_div (by omega) (by omega) (by omega), e_rem (by omega) (by omega) (by omega)]
  unfold clA clS at h
  have q : ∀ n, n < 128 → sI (sgc X.2.2.2.1 s) = nI n → sgc X.2.2.2.1 s = n := by
    intro n hn e
    rcases sgc_ok hok s with hc | hc
    · rw [sI_n hc] at e
      exact e_in (by omega) (by omega) e
    · rw [hc] at e
      have e2 : sI 200 = -1 := rfl
      rw [e2] at e
      have := e_m1 (a := n) (by omega)
      exact (this.mp e.symm).elim
  have no : sgc X.2.2.2.1 s ≠ 98 → sgc X.2.2.2.1 s ≠ 103 → sgc X.2.2.2.1 s ≠ 104 → sgc X.2.2.2.1 s ≠ 107 → sgc X.2.2.2.1 s ≠ 110 → P (nI 0) m := by
    intro n1 n2 n3 n4 n5
    rw [if_neg n1, if_neg n1, if_neg n2, if_neg n2, if_neg n3, if_neg n3, if_neg n4, if_neg n4, if_neg n5, if_neg n5] at h
    exact h m fz.refl hI
  have noq : ∀ n, n < 128 → n ≠ 98 → n ≠ 103 → n ≠ 104 → n ≠ 107 → n ≠ 110 → sI (sgc X.2.2.2.1 s) = nI n → P (nI 0) m := by
    intro n hn a1 a2 a3 a4 a5 e
    have := q n hn e
    exact no (by omega) (by omega) (by omega) (by omega) (by omega)
  refine ⟨fun e => ?_, noq 99 (by omega) (by omega) (by omega) (by omega) (by omega) (by omega), noq 100 (by omega) (by omega) (by omega) (by omega) (by omega) (by omega), noq 101 (by omega) (by omega) (by omega) (by omega) (by omega) (by omega), noq 102 (by omega) (by omega) (by omega) (by omega) (by omega) (by omega), fun e => ?_, fun e => ?_, noq 105 (by omega) (by omega) (by omega) (by omega) (by omega) (by omega), noq 106 (by omega) (by omega) (by omega) (by omega) (by omega) (by omega), fun e => ?_, noq 108 (by omega) (by omega) (by omega) (by omega) (by omega) (by omega), noq 109 (by omega) (by omega) (by omega) (by omega) (by omega) (by omega), fun e => ?_, fun a1 _ _ _ _ a2 a3 _ _ a4 _ _ a5 => ?_⟩
  · have e := q 98 (by omega) e
    rw [if_pos e, if_pos e] at h
    refine mm_sp.up (c_doBlock (d := 0) hX hI hl (by omega) hd ?_) (by omega)
    intro m' g0 g1
    exact ⟨e_z01, h m' g0 g1⟩
  · have e := q 103 (by omega) e
    have n1 : ¬ sgc X.2.2.2.1 s = 98 := by omega
    rw [if_neg n1, if_neg n1, if_pos e, if_pos e] at h
    refine mm_sp.up (c_way (d := 0) hX hI ?_) (by omega)
    intro m' g0 g1
    exact fin _ _ (h m' g0 g1)
  · have e := q 104 (by omega) e
    have n1 : ¬ sgc X.2.2.2.1 s = 98 := by omega
    have n2 : ¬ sgc X.2.2.2.1 s = 103 := by omega
    rw [if_neg n1, if_neg n1, if_neg n2, if_neg n2, if_pos e, if_pos e] at h
    refine mm_sp.up (c_hand (d := 0) hX hI ?_) (by omega)
    intro m' g0 g1
    exact fin _ _ (h m' g0 g1)
  · have e := q 107 (by omega) e
    have n1 : ¬ sgc X.2.2.2.1 s = 98 := by omega
    have n2 : ¬ sgc X.2.2.2.1 s = 103 := by omega
    have n3 : ¬ sgc X.2.2.2.1 s = 104 := by omega
    rw [if_neg n1, if_neg n1, if_neg n2, if_neg n2, if_neg n3, if_neg n3, if_pos e, if_pos e] at h
    have hm : nmN X.2.2.2.1 (s + 1) len % 10 < 10 := Nat.mod_lt _ (by decide)
    rw [e_shl (by omega)]
    refine mm_sp.up (c_choose (d := 0) hX hI ?_) (by omega)
    intro m' g0 g1
    exact fin _ _ (h m' g0 g1)
  · have e := q 110 (by omega) e
    have n1 : ¬ sgc X.2.2.2.1 s = 98 := by omega
    have n2 : ¬ sgc X.2.2.2.1 s = 103 := by omega
    have n3 : ¬ sgc X.2.2.2.1 s = 104 := by omega
    have n4 : ¬ sgc X.2.2.2.1 s = 107 := by omega
    rw [if_neg n1, if_neg n1, if_neg n2, if_neg n2, if_neg n3, if_neg n3, if_neg n4, if_neg n4, if_pos e, if_pos e] at h
    refine mm_sp.up (c_points (d := 0) hX hI ?_) (by omega)
    intro m' g0 g1
    exact fin _ _ (h m' g0 g1)
  · have r : ∀ n, n < 128 → ¬ sI (sgc X.2.2.2.1 s) = nI n → sgc X.2.2.2.1 s ≠ n := fun n hn a e => a (by rw [e, sI_n hn])
    exact no (r 98 (by omega) a1) (r 103 (by omega) a2) (r 104 (by omega) a3) (r 107 (by omega) a4) (r 110 (by omega) a5)
theorem dgs_d {T : TX} {p : Nat} : ∀ {most : Nat}, ∀ j, j < dgs T p most → isD T (p + j) = true := by
  intro most j hj
  have key : ∀ n, j < cN (fun i => alN (fun j => isD T (p + j)) (i + 1)) n → isD T (p + j) = true := by
    intro n
    induction n with
    | zero => intro h; exact absurd h (Nat.not_lt_zero j)
    | succ n ih =>
      intro h
      by_cases e : alN (fun j => isD T (p + j)) (n + 1) = true
      · have hl := cN_le (fun i => alN (fun j => isD T (p + j)) (i + 1)) (n + 1)
        exact alN_of e j (by omega)
      · have e : alN (fun j => isD T (p + j)) (n + 1) = false := by simpa using e
        rw [cN_f (p := fun i => alN (fun j => isD T (p + j)) (i + 1)) e] at h
        exact ih h
  exact key most hj
noncomputable def dcS (T : TX) : Nat → Nat → St × Nat → St × Nat
  | 0, _, a => a
  | r + 1, s, a => if T.1 ≤ s then a else dcS T r (s + 1 + dgs T (s + 1) 8 + 1) (clS a.1 T s (dgs T (s + 1) 8), a.2 + (!decide (clA a.1 T s (dgs T (s + 1) 8) < 0)).toNat)
theorem okS_dc {T : TX} : ∀ (r s : Nat) (a : St × Nat), okS a.1 → okS (dcS T r s a).1
  | 0, _, _, h => h
  | r + 1, s, a, h => by
    unfold dcS
    split
    · exact h
    · exact okS_dc r _ _ (okS_cl h)
theorem c_doClausesL {d sn : Nat} {X : GS} {P : Int32 → mm_Mem → Prop} {m0 : mm_Mem} (hX : okX X) : ∀ (r s : Nat) (a : St × Nat) (m : mm_Mem), r ≤ 12 → s + 20 * r < 8000 → a.2 + r < 1000 → okS a.1 → fz 1 81 m0 m → cI (setS X a.1) m → (∀ m', fz 1 81 m0 m' → cI (setS X (dcS X.2.2.2.1 r s a).1) m' → P (nI (dcS X.2.2.2.1 r s a).2) m') → mm_wp (d + 8) sn kX10_doClauses 6 [some (.ref 1), some (.int (nI a.2)), some (.int (nI s)), some (.int (nI (12 - r))), none] [] m (qI P)
  | 0, s, a, m, _, _, _, _, hz, hI, h => v_X10_doClauses_6 (e_vT (by decide) (h m hz hI))
  | r + 1, s, a, m, hr, hs, ha, hS, hz, hI, h => by
    have hd8 := dgs_le (T := X.2.2.2.1) (p := s + 1) (most := 8)
    have h100 := hX.2.2.1.1
    have hX1 := okX_S hX hS
    unfold dcS at h
    refine v_X10_doClauses_6 (e_vF (by rw [e_le (by omega) (by omega)]; omega) ?_)
    have h44 : m.1 44 0 = nI X.2.2.2.1.1 := hI.2.2.2.1.1
    rw [h44, e_le (by omega) (by omega)]
    refine ⟨fun c => ?_, fun c => ?_⟩
    · rw [if_pos c] at h
      exact h m hz hI
    · rw [if_neg c] at h
      rw [e_add]
      refine mm_sp.up (s_digitsFrom (d := 0) (T := X.2.2.2.1) hI.2.2.2.1 hX.2.2.1 (by omega) ?_) (by omega)
      rw [e_add]
      refine mm_sp.up (c_doClause (d := 0) hX1 hI hd8 (by omega) (fun j hj => dgs_d j hj) ?_) (by omega)
      intro m1 g0 g1
      have g1 : cI (setS X (clS a.1 X.2.2.2.1 s (dgs X.2.2.2.1 (s + 1) 8))) m1 := g1
      have e12 : 12 - (r + 1) + 1 = 12 - r := by omega
      have hle : (!decide (clA a.1 X.2.2.2.1 s (dgs X.2.2.2.1 (s + 1) 8) < 0)).toNat ≤ 1 := Bool.toNat_le _
      have next := c_doClausesL (d := d) (sn := sn) (P := P) (m0 := m0) hX r (s + 1 + dgs X.2.2.2.1 (s + 1) 8 + 1) (clS a.1 X.2.2.2.1 s (dgs X.2.2.2.1 (s + 1) 8), a.2 + (!decide (clA a.1 X.2.2.2.1 s (dgs X.2.2.2.1 (s + 1) 8) < 0)).toNat) m1 (by omega) (by omega) (by show a.2 + _ + r < 1000; omega) (okS_cl hS) (hz.trans g0) g1 h
      rw [e_add, e_add, e_add, e12]
      refine e_vz (fun e => ?_) (fun e => ?_)
      · have e : (!decide (clA a.1 X.2.2.2.1 s (dgs X.2.2.2.1 (s + 1) 8) < 0)) = false := e
        rw [e] at next
        exact next
      · have e : (!decide (clA a.1 X.2.2.2.1 s (dgs X.2.2.2.1 (s + 1) 8) < 0)) = true := e
        rw [e] at next
        exact next
noncomputable def A_read (X : GS) : Int32 := if fl X.2.2.2.1 12 0 = -1 then nI (dcS X.2.2.2.1 12 0 (X.1, 0)).2 else -10 - fl X.2.2.2.1 12 0
noncomputable def X_read (X : GS) : GS := if fl X.2.2.2.1 12 0 = -1 then setX (setS X (dcS X.2.2.2.1 12 0 (X.1, 0)).1) (0, X.2.2.2.1.2) else setX X (0, X.2.2.2.1.2)
theorem okX_0 {X : GS} (hX : okX X) : okX (setX X (0, X.2.2.2.1.2)) := ⟨hX.1, hX.2.1, ⟨Nat.zero_le _, fun j hj => absurd hj (Nat.not_lt_zero j)⟩, hX.2.2.2⟩
theorem okX_read {X : GS} (hX : okX X) : okX (X_read X) := by
  unfold X_read
  split
  · exact okX_0 (okX_S hX (okS_dc 12 0 (X.1, 0) hX.1))
  · exact okX_0 hX
theorem c_read {d sn : Nat} {X : GS} {m : mm_Mem} {P : Int32 → mm_Mem → Prop} (hX : okX X) (hI : cI X m) (h : ∀ m', fz 1 81 m m' → cI (X_read X) m' → P (A_read X) m') : mm_sp (d + 10) sn kX10_read [.ref 1] m (qI P) := by
  refine v_X10_read ?_
  unfold A_read X_read at h
  refine mm_sp.up (s_fault (d := 0) hI.2.2.2.1 hX.2.2.1 ?_) (by omega)
  refine ⟨fun c m2 e2 => ?_, fun c => ?_⟩
  · rw [if_neg c, if_neg c] at h
    have hz : fz 44 45 m m2 := by subst e2; exact fz_u2 (by omega) (by omega)
    refine h m2 (hz.wide (by omega) (by omega)) (cI_X hX hz hI ⟨?_, fun j hj => absurd hj (Nat.not_lt_zero j)⟩)
    subst e2
    show mm_u2 m.1 44 0 (nI 0) 44 0 = nI 0
    rw [u2_s]
  · have c := Classical.not_not.mp c
    rw [if_pos c, if_pos c] at h
    refine v_X10_doClauses ?_
    refine c_doClausesL (d := d) hX 12 0 (X.1, 0) m (by omega) (by omega) (show 0 + 12 < 1000 by omega) hX.1 fz.refl hI ?_
    intro m1 g0 g1 m2 e2
    have hz : fz 44 45 m1 m2 := by subst e2; exact fz_u2 (by omega) (by omega)
    refine h m2 (g0.trans (hz.wide (by omega) (by omega))) (cI_X (okX_S hX (okS_dc 12 0 (X.1, 0) hX.1)) hz g1 ⟨?_, fun j hj => absurd hj (Nat.not_lt_zero j)⟩)
    subst e2
    show mm_u2 m1.1 44 0 (nI 0) 44 0 = nI 0
    rw [u2_s]
