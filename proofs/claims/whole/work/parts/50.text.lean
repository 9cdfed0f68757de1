-- THE TEXT: signs, digits, the fault
abbrev TX : Type := Nat × (Nat → Int32)
def okTx (T : TX) : Prop := T.1 ≤ 100 ∧ ∀ j, j < T.1 → ∃ c, c < 128 ∧ T.2 j = nI c
/-- the sign at a place; 200 where there is none -/
def sgc (T : TX) (p : Nat) : Nat := if p < T.1 then (T.2 p).toNatClampNeg else 200
def sI (c : Nat) : Int32 := if c = 200 then -1 else nI c
theorem sgc_ok {T : TX} (h : okTx T) (p : Nat) : sgc T p < 128 ∨ sgc T p = 200 := by
  unfold sgc
  by_cases e : p < T.1
  · rw [if_pos e]
    obtain ⟨c, hc, e2⟩ := h.2 p e
    rw [e2, e_cl (by omega)]
    exact Or.inl hc
  · rw [if_neg e]; exact Or.inr rfl
theorem sI_n {c : Nat} (h : c < 128) : sI c = nI c := if_neg (by omega)
theorem s_signAt {d sn p : Nat} {T : TX} {m : mm_Mem} {P : Int32 → mm_Mem → Prop} (hT : rX T m) (hok : okTx T) (hp : p < 2147483648) (h : P (sI (sgc T p)) m) : mm_sp (d + 1) sn kX8_signAt [.ref 44, .int (nI p)] m (qI P) := by
  have h100 := hok.1
  refine v_X8_signAt ?_
  rw [hT.1]
  refine e_vF (by rw [e_lt0 hp]; exact id) ?_
  rw [e_le (by omega) hp]
  unfold sgc at h
  refine ⟨fun c => ?_, fun c => ?_⟩
  · rw [if_neg (by omega)] at h
    exact h
  · have hl : p < T.1 := by omega
    rw [if_pos hl] at h
    obtain ⟨q, hq, e⟩ := hok.2 p hl
    refine e_vF (by rw [e_le (by omega) hp]; omega) ?_
    rw [e_vin hp (by omega), e_cl hp, hT.2 p hl, e]
    rw [e, e_cl (by omega), sI_n hq] at h
    exact ⟨by omega, h⟩
def isD (T : TX) (p : Nat) : Bool := decide (48 ≤ sgc T p ∧ sgc T p ≤ 57)
theorem s_digitAt {d sn p : Nat} {T : TX} {m : mm_Mem} {P : Int32 → mm_Mem → Prop} (hT : rX T m) (hok : okTx T) (hp : p < 2147483648) (h : P (if isD T p = true then nI (sgc T p - 48) else -1) m) : mm_sp (d + 2) sn kX8_digitAt [.ref 44, .int (nI p)] m (qI P) := by
  refine v_X8_digitAt ?_
  refine s_signAt hT hok hp ?_
  unfold isD at h
  rcases sgc_ok hok p with hc | hc
  · rw [sI_n hc, e_lt (by omega) (by omega), e_lt (by omega) (by omega)]
    refine ⟨fun c => ?_, fun c => ⟨fun c2 => ?_, fun c2 => ?_⟩⟩
    · rw [if_neg (by rw [decide_eq_true_iff]; omega)] at h; exact h
    · rw [if_neg (by rw [decide_eq_true_iff]; omega)] at h; exact h
    · rw [if_pos (by rw [decide_eq_true_iff]; omega)] at h
      rw [e_sub (by omega)]; exact h
  · rw [hc] at h ⊢
    exact e_vT (by decide) h
def dgs (T : TX) (p most : Nat) : Nat := cN (fun i => alN (fun j => isD T (p + j)) (i + 1)) most
theorem dgs_s {T : TX} {p most t : Nat} (ht : t ≤ most) (h1 : ∀ j, j < t → isD T (p + j) = true) (h2 : t < most → isD T (p + t) = false) : dgs T p most = t := by
  unfold dgs
  refine cN_cut ?_ ?_ ht
  · intro s hs
    exact alN_t (fun j hj => h1 j (by omega))
  · intro s hs hk
    exact alN_f (p := fun j => isD T (p + j)) (h2 (by omega)) (by omega)
theorem dgs_le {T : TX} {p most : Nat} : dgs T p most ≤ most := cN_le _ _
theorem s_digitsFrom {d sn p most : Nat} {T : TX} {m : mm_Mem} {P : Int32 → mm_Mem → Prop} (hT : rX T m) (hok : okTx T) (hp : p + most < 100000) (h : P (nI (dgs T p most)) m) : mm_sp (d + 3) sn kX8_digitsFrom [.ref 44, .int (nI p), .int (nI most)] m (qI P) := by
  refine v_X8_digitsFrom ?_
  refine lp_up (W := fun i => (∀ j, j < i → isD T (p + j) = true) → mm_wp (d + 2) sn kX8_digitsFrom 2 [some (.ref 44), some (.int (nI p)), some (.int (nI most)), some (.int (nI i))] [] m (qI P)) (Nat.zero_le most) ?_ ?_ (fun j hj => by omega)
  · intro hj
    refine v_X8_digitsFrom_2 (e_vT (by rw [e_le (by omega) (by omega)]; omega) ?_)
    rw [dgs_s (Nat.le_refl most) hj (fun c => by omega)] at h
    exact h
  · intro i _ hi ih hj
    refine v_X8_digitsFrom_2 (e_vF (by rw [e_le (by omega) (by omega)]; omega) ?_)
    rw [e_add, e_add]
    refine s_digitAt hT hok (by omega) ?_
    cases e : isD T (p + i) with
    | true =>
      rw [if_pos rfl]
      refine e_vT ?_ (ih (fun j hji => ?_))
      · have := sgc_ok hok (p + i)
        rw [e_m1 (by omega)]; exact id
      · by_cases e2 : j = i
        · subst e2; exact e
        · exact hj j (by omega)
    | false =>
      rw [if_neg (by decide)]
      refine e_vF (fun hh => hh rfl) ?_
      rw [dgs_s (show i ≤ most by omega) hj (fun _ => e)] at h
      exact h
def mdN (c : Nat) : Nat := if c = 98 then 8 else if c = 103 then 2 else if c = 104 then 8 else if c = 107 then 2 else if c = 110 then 1 else 0
def ldN (c : Nat) : Nat := if c = 104 then 3 else if c = 98 then 1 else mdN c
theorem mdN_le (c : Nat) : mdN c ≤ 8 := by
  unfold mdN
  repeat (first | omega | split)
theorem ldN_le (c : Nat) : ldN c ≤ 8 := by
  have := mdN_le c
  unfold ldN
  repeat (first | omega | split)
theorem s_mostDigits {d sn c : Nat} {m : mm_Mem} {P : Int32 → mm_Mem → Prop} (hc : c < 128 ∨ c = 200) (h : P (nI (mdN c)) m) : mm_sp (d + 1) sn kX8_mostDigits [.int (sI c)] m (qI P) := by
  refine v_X8_mostDigits ?_
  rcases hc with hc | hc
  · rw [sI_n hc]
    have q : ∀ n, n < 128 → nI c = nI n → c = n := fun n hn e => e_in (by omega) (by omega) e
    refine ⟨fun e => ?_, fun e => ?_, fun e => ?_, fun e => ?_, fun e => ?_, fun e => ?_, fun e => ?_, fun e => ?_, fun e => ?_, fun e => ?_, fun e => ?_, fun e => ?_, fun e => ?_, fun e1 _ _ _ _ e2 e3 _ _ e4 _ _ e5 => ?_⟩
    · have := q 98 (by omega) e; subst this; exact h
    · have := q 99 (by omega) e; subst this; exact h
    · have := q 100 (by omega) e; subst this; exact h
    · have := q 101 (by omega) e; subst this; exact h
    · have := q 102 (by omega) e; subst this; exact h
    · have := q 103 (by omega) e; subst this; exact h
    · have := q 104 (by omega) e; subst this; exact h
    · have := q 105 (by omega) e; subst this; exact h
    · have := q 106 (by omega) e; subst this; exact h
    · have := q 107 (by omega) e; subst this; exact h
    · have := q 108 (by omega) e; subst this; exact h
    · have := q 109 (by omega) e; subst this; exact h
    · have := q 110 (by omega) e; subst this; exact h
    · have e : mdN c = 0 := by
        unfold mdN
        rw [if_neg (fun hh => e1 (by rw [hh])), if_neg (fun hh => e2 (by rw [hh])), if_neg (fun hh => e3 (by rw [hh])), if_neg (fun hh => e4 (by rw [hh])), if_neg (fun hh => e5 (by rw [hh]))]
      rw [e] at h
      exact h
  · subst hc
    have e : sI 200 = -1 := rfl
    rw [e]
    refine ⟨fun e => absurd e (by decide), fun e => absurd e (by decide), fun e => absurd e (by decide), fun e => absurd e (by decide), fun e => absurd e (by decide), fun e => absurd e (by decide), fun e => absurd e (by decide), fun e => absurd e (by decide), fun e => absurd e (by decide), fun e => absurd e (by decide), fun e => absurd e (by decide), fun e => absurd e (by decide), fun e => absurd e (by decide), fun _ _ _ _ _ _ _ _ _ _ _ _ _ => h⟩
theorem s_leastDigits {d sn c : Nat} {m : mm_Mem} {P : Int32 → mm_Mem → Prop} (hc : c < 128 ∨ c = 200) (h : P (nI (ldN c)) m) : mm_sp (d + 2) sn kX8_leastDigits [.int (sI c)] m (qI P) := by
  refine v_X8_leastDigits ?_
  have q : ∀ n, n < 128 → (sI c = nI n) = (c = n) := by
    intro n hn
    rcases hc with hc | hc
    · rw [sI_n hc, e_eq (by omega) (by omega)]
    · subst hc
      apply propext
      refine ⟨fun e => ?_, fun e => by omega⟩
      have e2 : sI 200 = -1 := rfl
      rw [e2] at e
      have := e_m1 (a := n) (by omega)
      exact (this.mp e.symm).elim
  rw [q 104 (by omega), q 98 (by omega)]
  unfold ldN at h
  refine ⟨fun e => ⟨fun e2 => ?_, fun e2 => ?_⟩, fun e => ?_⟩
  · rw [if_neg e, if_neg e2] at h
    exact s_mostDigits hc h
  · rw [if_neg e, if_pos (Classical.not_not.mp e2)] at h; exact h
  · rw [if_pos (Classical.not_not.mp e)] at h; exact h
/-- the fault, with so many clauses to come -/
def fl (T : TX) : Nat → Nat → Int32
  | 0, s => nI s
  | r + 1, s => if mdN (sgc T s) = 0 then nI s else if dgs T (s + 1) (mdN (sgc T s)) < ldN (sgc T s) then nI (s + 1 + dgs T (s + 1) (mdN (sgc T s))) else if T.1 ≤ s + 1 + dgs T (s + 1) (mdN (sgc T s)) then -1 else if sgc T (s + 1 + dgs T (s + 1) (mdN (sgc T s))) = 59 ∧ r ≠ 0 then fl T r (s + 1 + dgs T (s + 1) (mdN (sgc T s)) + 1) else nI (s + 1 + dgs T (s + 1) (mdN (sgc T s)))
theorem s_faultL {d sn : Nat} {T : TX} {m : mm_Mem} {P : Int32 → mm_Mem → Prop} (hT : rX T m) (hok : okTx T) : ∀ (r s : Nat), r ≤ 12 → s + 20 * r < 10000 → P (fl T r s) m → mm_wp (d + 3) sn kX8_fault 4 [some (.ref 44), some (.int (nI s)), some (.int (nI (13 - r))), none, none, none, none] [] m (qI P)
  | 0, s, _, hs, h => v_X8_fault_4 (e_vT (by decide) h)
  | r + 1, s, hr, hs, h => by
    have hd := dgs_le (T := T) (p := s + 1) (most := mdN (sgc T s))
    have hm := mdN_le (sgc T s)
    have hl := ldN_le (sgc T s)
    have h100 := hok.1
    unfold fl at h
    refine v_X8_fault_4 (e_vF (by rw [e_lt (by omega) (by omega)]; omega) ?_)
    refine s_signAt hT hok (by omega) ?_
    refine s_mostDigits (sgc_ok hok s) ?_
    rw [e_eq0 (by omega)]
    refine ⟨fun e => ?_, fun e => ?_⟩
    · rw [if_neg e] at h
      rw [e_add]
      refine s_digitsFrom hT hok (by omega) ?_
      refine s_leastDigits (sgc_ok hok s) ?_
      rw [hT.1, e_add, e_le (by omega) (by omega)]
      refine ⟨fun c => ?_, fun c => ?_⟩
      · rw [if_neg (by omega)] at h
        rw [e_lt (by omega) (by omega)]
        refine ⟨fun c2 => ?_, fun c2 => ?_⟩
        · rw [if_neg (by omega)] at h
          refine s_signAt hT hok (by omega) ?_
          have q : (sI (sgc T (s + 1 + dgs T (s + 1) (mdN (sgc T s)))) = nI 59) = (sgc T (s + 1 + dgs T (s + 1) (mdN (sgc T s))) = 59) := by
            rcases sgc_ok hok (s + 1 + dgs T (s + 1) (mdN (sgc T s))) with hc | hc
            · rw [sI_n hc, e_eq (by omega) (by omega)]
            · rw [hc]
              exact propext ⟨fun e => by revert e; decide, fun e => by omega⟩
          rw [q]
          refine ⟨fun c3 => ?_, fun c3 => ?_⟩
          · rw [if_neg (fun hh => c3 hh.1)] at h; exact h
          · have c3 := Classical.not_not.mp c3
            rw [e_eq (by omega) (by omega), e_add, e_add]
            refine ⟨fun c4 => ?_, fun c4 => ?_⟩
            · rw [if_pos ⟨c3, by omega⟩] at h
              have e9 : 13 - (r + 1) + 1 = 13 - r := by omega
              rw [e9]
              exact s_faultL hT hok r _ (by omega) (by omega) h
            · rw [if_neg (fun hh => hh.2 (by omega))] at h; exact h
        · rw [if_pos (by omega)] at h; exact h
      · rw [if_pos (by omega)] at h; exact h
    · rw [if_pos (Classical.not_not.mp e)] at h; exact h
theorem s_fault {d sn : Nat} {T : TX} {m : mm_Mem} {P : Int32 → mm_Mem → Prop} (hT : rX T m) (hok : okTx T) (h : P (fl T 12 0) m) : mm_sp (d + 4) sn kX8_fault [.ref 44] m (qI P) := by
  refine v_X8_fault ?_
  exact s_faultL hT hok 12 0 (by omega) (by omega) h
