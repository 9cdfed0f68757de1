-- ORBITS: what the methods that look answer
def oI : Option Nat → Int32
  | none => -1
  | some o => nI o
def rO (num : Nat → Option Nat) (amt : Nat → Nat) (m : mm_Mem) : Prop := (∀ s, s < 256 → m.1 60 s = oI (num s)) ∧ ∀ k, k < 9 → m.1 61 k = nI (amt k)
def oS (num : Nat → Option Nat) (amt : Nat → Nat) : Prop := (∀ s o, s < 256 → num s = some o → o < 256) ∧ ∀ k, k < 9 → amt k < 257
theorem fr_rO {X : List Nat} {m m' : mm_Mem} {num : Nat → Option Nat} {amt : Nat → Nat} (h : fr X m m') (h1 : 60 ∉ X) (h2 : 61 ∉ X) (hB : rO num amt m) : rO num amt m' := by
  unfold rO
  rw [h.i h1, h.i h2]
  exact hB
def iz (i : Int32) (n : Nat) : Bool := decide (¬ i < 0 ∧ i < nI n)
theorem iz_n {i n : Nat} (hi : i < 2147483648) (hn : n < 2147483648) : iz (nI i) n = decide (i < n) := by
  unfold iz
  have h1 := e_lt0 hi
  have h2 := e_lt hi hn
  rw [decide_eq_decide, h1, h2]
  exact ⟨fun h => h.2, fun h => ⟨id, h⟩⟩
theorem iz_t {i : Int32} {n : Nat} (hn : n < 2147483648) (h : iz i n = true) : ∃ j, j < n ∧ i = nI j := by
  have h := of_decide_eq_true h
  rcases pk_ix i (show n < 2 ^ 31 by omega) with h1 | h1 | ⟨j, h1, h2⟩
  · exact absurd h1 h.1
  · exact absurd h1 (Int32.not_le.mpr h.2)
  · exact ⟨j, h1, h2⟩
theorem s_amountOf {d sn k : Nat} {m : mm_Mem} {P : Int32 → mm_Mem → Prop} {num : Nat → Option Nat} {amt : Nat → Nat} (hO : rO num amt m) (hk : k < 9) (h : P (nI (amt k)) m) : mm_sp (d + 1) sn kX5_amountOf [.ref 59, .int (nI k)] m (qI P) := by
  refine v_X5_amountOf ?_
  have hb := hO.2 k hk
  simp (disch := omega) only [e_le, e_lt, e_eq, e_lt0, e_0le, e_le0, e_0lt, e_eq0, e_m1, e_m5, e_m1l, e_m5l, e_m1e, e_add, e_dec, e_sub, e_mul, e_div, e_rem, e_and, e_or, e_shl, e_shr, e_vin, e_nar, e_nar0, e_nar1, e_cl, e_b0, e_b00, e_b1, e_bt, e_andn, e_xor, Bool.not_eq_false, Bool.not_eq_true, Classical.not_not, not_false_eq_true, not_true_eq_false, true_implies, false_implies, true_and, and_true, hb]
  exact ⟨fun c => by omega, fun _ => ⟨hk, h⟩⟩
theorem s_isOrbit {d sn k : Nat} {i : Int32} {m : mm_Mem} {P : Int32 → mm_Mem → Prop} {num : Nat → Option Nat} {amt : Nat → Nat} (hO : rO num amt m) (hk : k < 9) (h : P (nI (iz i (amt k)).toNat) m) : mm_sp (d + 2) sn kX5_isOrbit [.ref 59, .int (nI k), .int i] m (qI P) := by
  refine v_X5_isOrbit ?_
  refine ⟨fun c => ?_, fun c => s_amountOf hO hk ⟨fun c2 => ?_, fun c2 => ?_⟩⟩
  · rw [show iz i (amt k) = false from decide_eq_false (fun e => e.1 c)] at h
    exact h
  · rw [show iz i (amt k) = false from decide_eq_false (fun e => (Int32.not_le.mpr e.2) c2)] at h
    exact h
  · rw [show iz i (amt k) = true from decide_eq_true ⟨c, Int32.not_le.mp c2⟩] at h
    exact h
theorem s_numberOf {d sn s : Nat} {m : mm_Mem} {P : Int32 → mm_Mem → Prop} {num : Nat → Option Nat} {amt : Nat → Nat} (hO : rO num amt m) (hs : s < 256) (h : P (oI (num s)) m) : mm_sp (d + 1) sn kX5_numberOf [.ref 59, .int (nI s)] m (qI P) := by
  refine v_X5_numberOf ?_
  have hb := hO.1 s hs
  simp (disch := omega) only [e_le, e_lt, e_eq, e_lt0, e_0le, e_le0, e_0lt, e_eq0, e_m1, e_m5, e_m1l, e_m5l, e_m1e, e_add, e_dec, e_sub, e_mul, e_div, e_rem, e_and, e_or, e_shl, e_shr, e_vin, e_nar, e_nar0, e_nar1, e_cl, e_b0, e_b00, e_b1, e_bt, e_andn, e_xor, Bool.not_eq_false, Bool.not_eq_true, Classical.not_not, not_false_eq_true, not_true_eq_false, true_implies, false_implies, true_and, and_true, hb]
  exact ⟨fun c => by omega, fun _ => ⟨hs, h⟩⟩
def hld (num : Nat → Option Nat) (k i s : Nat) : Bool := (num s == some i) && bc s == k
theorem e_oI {x : Option Nat} {i : Nat} (hx : ∀ o, x = some o → o < 256) (hi : i < 2147483648) : (oI x = nI i) = (x = some i) := by
  cases x with
  | none =>
    apply propext
    refine ⟨fun e => ?_, fun e => by cases e⟩
    have := e_m1 hi
    exact (this.mp e.symm).elim
  | some o =>
    have ho := hx o rfl
    show (nI o = nI i) = _
    rw [e_eq (by omega) hi]
    exact propext ⟨fun e => by rw [e], fun e => Option.some.inj e⟩
theorem s_holds {d sn k i s : Nat} {m : mm_Mem} {P : Int32 → mm_Mem → Prop} {num : Nat → Option Nat} {amt : Nat → Nat} (hO : rO num amt m) (hS : oS num amt) (hs : s < 256) (hk : k < 9) (hi : i < 2147483648) (h : P (nI (hld num k i s).toNat) m) : mm_sp (d + 2) sn kX5_holds [.ref 59, .int (nI k), .int (nI i), .int (nI s)] m (qI P) := by
  refine v_X5_holds ?_
  refine s_numberOf hO hs ?_
  rw [e_oI (hS.1 s · hs) hi]
  refine ⟨fun e => ?_, fun e => ?_⟩
  · rw [show hld num k i s = false by unfold hld; simp [e]] at h
    exact h
  · have e := Classical.not_not.mp e
    refine s_bitCount (by omega) ?_
    have hq := bc_le s
    simp (disch := omega) only [e_le, e_lt, e_eq, e_lt0, e_0le, e_le0, e_0lt, e_eq0, e_m1, e_m5, e_m1l, e_m5l, e_m1e, e_add, e_dec, e_sub, e_mul, e_div, e_rem, e_and, e_or, e_shl, e_shr, e_vin, e_nar, e_nar0, e_nar1, e_cl, e_b0, e_b00, e_b1, e_bt, e_andn, e_xor, Bool.not_eq_false, Bool.not_eq_true, Classical.not_not, not_false_eq_true, not_true_eq_false, true_implies, false_implies, true_and, and_true]
    refine ⟨fun e2 => ?_, fun e2 => ?_⟩
    · rw [show hld num k i s = false by unfold hld; simp [e2]] at h
      exact h
    · rw [show hld num k i s = true by unfold hld; simp [e, e2]] at h
      exact h
theorem s_oSetAt {d sn k i j : Nat} {m : mm_Mem} {P : Int32 → mm_Mem → Prop} {num : Nat → Option Nat} {amt : Nat → Nat} (hO : rO num amt m) (hS : oS num amt) (hk : k < 9) (hi : i < 2147483648) (hj : j < 2147483648) (h : P (nthV (hld num k i) j) m) : mm_sp (d + 3) sn kX5_setAt [.ref 59, .int (nI k), .int (nI i), .int (nI j)] m (qI P) := by
  refine v_X5_setAt ?_
  refine lp_up (W := fun s => (∀ t, t < s → hld num k i t = true → cN (hld num k i) t ≠ j) → mm_wp (d + 2) sn kX5_setAt 6 [some (.ref 59), some (.int (nI k)), some (.int (nI i)), some (.int (nI j)), some (.int (nI (cN (hld num k i) s))), some (.int (nI s))] [] m (qI P)) (Nat.zero_le 256) ?_ ?_ (fun t ht => by omega)
  · intro hn
    refine v_X5_setAt_6 ?_
    simp (disch := omega) only [e_le, e_lt, e_eq, e_lt0, e_0le, e_le0, e_0lt, e_eq0, e_m1, e_m5, e_m1l, e_m5l, e_m1e, e_add, e_dec, e_sub, e_mul, e_div, e_rem, e_and, e_or, e_shl, e_shr, e_vin, e_nar, e_nar0, e_nar1, e_cl, e_b0, e_b00, e_b1, e_bt, e_andn, e_xor, Bool.not_eq_false, Bool.not_eq_true, Classical.not_not, not_false_eq_true, not_true_eq_false, true_implies, false_implies, true_and, and_true]
    refine ⟨fun _ => ?_, fun c => by omega⟩
    rw [nthV_n hn] at h
    exact h
  · intro s _ hs ih hn
    refine v_X5_setAt_6 ?_
    have hl := cN_le (hld num k i) s
    simp (disch := omega) only [e_le, e_lt, e_eq, e_lt0, e_0le, e_le0, e_0lt, e_eq0, e_m1, e_m5, e_m1l, e_m5l, e_m1e, e_add, e_dec, e_sub, e_mul, e_div, e_rem, e_and, e_or, e_shl, e_shr, e_vin, e_nar, e_nar0, e_nar1, e_cl, e_b0, e_b00, e_b1, e_bt, e_andn, e_xor, Bool.not_eq_false, Bool.not_eq_true, Classical.not_not, not_false_eq_true, not_true_eq_false, true_implies, false_implies, true_and, and_true]
    refine ⟨fun c => by omega, fun _ => s_holds hO hS hs hk hi ?_⟩
    simp (disch := omega) only [e_le, e_lt, e_eq, e_lt0, e_0le, e_le0, e_0lt, e_eq0, e_m1, e_m5, e_m1l, e_m5l, e_m1e, e_add, e_dec, e_sub, e_mul, e_div, e_rem, e_and, e_or, e_shl, e_shr, e_vin, e_nar, e_nar0, e_nar1, e_cl, e_b0, e_b00, e_b1, e_bt, e_andn, e_xor, Bool.not_eq_false, Bool.not_eq_true, Classical.not_not, not_false_eq_true, not_true_eq_false, true_implies, false_implies, true_and, and_true]
    refine ⟨fun hf => ?_, fun ht => ⟨fun hx => ?_, fun he => ?_⟩⟩
    · rw [cN_f hf] at ih
      refine ih (fun t h1 h2 => ?_)
      by_cases e : t = s
      · subst e; rw [hf] at h2; cases h2
      · exact hn t (by omega) h2
    · rw [cN_t ht] at ih
      refine ih (fun t h1 h2 => ?_)
      by_cases e : t = s
      · subst e; exact hx
      · exact hn t (by omega) h2
    · rw [nthV_s hs ht he] at h
      exact h
/-- the last that is, told by a number beyond it -/
def lstV (p : Nat → Bool) : Nat → Int32
  | 0 => -5
  | n + 1 => if p n = true then nI n else lstV p n
theorem s_greatestOf {d sn k i : Nat} {m : mm_Mem} {P : Int32 → mm_Mem → Prop} {num : Nat → Option Nat} {amt : Nat → Nat} (hO : rO num amt m) (hS : oS num amt) (hk : k < 9) (hi : i < 2147483648) (h : P (lstV (hld num k i) 256) m) : mm_sp (d + 3) sn kX5_greatestOf [.ref 59, .int (nI k), .int (nI i)] m (qI P) := by
  refine v_X5_greatestOf ?_
  have W := lp_down (W := fun s => s ≤ 256 → P (lstV (hld num k i) s) m → mm_wp (d + 2) sn kX5_greatestOf 8 [some (.ref 59), some (.int (nI k)), some (.int (nI i)), some (.int (nI s + (-1)))] [] m (qI P)) ?_ ?_ 256 (Nat.le_refl _) h
  · exact W
  · intro _ h
    refine v_X5_greatestOf_8 ?_
    rw [e_dec0]
    simp (disch := omega) only [e_le, e_lt, e_eq, e_lt0, e_0le, e_le0, e_0lt, e_eq0, e_m1, e_m5, e_m1l, e_m5l, e_m1e, e_add, e_dec, e_sub, e_mul, e_div, e_rem, e_and, e_or, e_shl, e_shr, e_vin, e_nar, e_nar0, e_nar1, e_cl, e_b0, e_b00, e_b1, e_bt, e_andn, e_xor, Bool.not_eq_false, Bool.not_eq_true, Classical.not_not, not_false_eq_true, not_true_eq_false, true_implies, false_implies, true_and, and_true]
    exact h
  · intro s ih hs h
    have e3 : nI (s + 1) + (-1) = nI s := e_dec (by omega)
    rw [e3]
    refine v_X5_greatestOf_8 ?_
    simp (disch := omega) only [e_lt0, false_implies, not_false_eq_true, true_implies, true_and]
    refine s_holds hO hS (by omega) hk hi ?_
    simp (disch := omega) only [e_b0, Bool.not_eq_false]
    have e : lstV (hld num k i) (s + 1) = if hld num k i s = true then nI s else lstV (hld num k i) s := rfl
    rw [e] at h
    refine ⟨fun hf => ih (by omega) ?_, fun ht => ?_⟩
    · rw [if_neg (by rw [hf]; decide)] at h; exact h
    · rw [if_pos ht] at h; exact h
theorem s_setsAround {d sn k i x : Nat} {m : mm_Mem} {P : Int32 → mm_Mem → Prop} {num : Nat → Option Nat} {amt : Nat → Nat} (hO : rO num amt m) (hS : oS num amt) (hk : k < 9) (hi : i < 2147483648) (hx : x < 256) (h : P (nI (cN (fun s => hld num k i s && (s &&& x == x)) 256)) m) : mm_sp (d + 3) sn kX5_setsAround [.ref 59, .int (nI k), .int (nI i), .int (nI x)] m (qI P) := by
  refine v_X5_setsAround ?_
  refine lp_up (W := fun s => mm_wp (d + 2) sn kX5_setsAround 6 [some (.ref 59), some (.int (nI k)), some (.int (nI i)), some (.int (nI x)), some (.int (nI (cN (fun s => hld num k i s && (s &&& x == x)) s))), some (.int (nI s))] [] m (qI P)) (Nat.zero_le 256) ?_ ?_
  · refine v_X5_setsAround_6 ?_
    simp (disch := omega) only [e_le, e_lt, e_eq, e_lt0, e_0le, e_le0, e_0lt, e_eq0, e_m1, e_m5, e_m1l, e_m5l, e_m1e, e_add, e_dec, e_sub, e_mul, e_div, e_rem, e_and, e_or, e_shl, e_shr, e_vin, e_nar, e_nar0, e_nar1, e_cl, e_b0, e_b00, e_b1, e_bt, e_andn, e_xor, Bool.not_eq_false, Bool.not_eq_true, Classical.not_not, not_false_eq_true, not_true_eq_false, true_implies, false_implies, true_and, and_true]
    exact ⟨fun _ => h, fun c => by omega⟩
  · intro s _ hs ih
    refine v_X5_setsAround_6 ?_
    have hl : s &&& x ≤ s := Nat.and_le_left
    simp (disch := omega) only [e_le, e_lt, e_eq, e_lt0, e_0le, e_le0, e_0lt, e_eq0, e_m1, e_m5, e_m1l, e_m5l, e_m1e, e_add, e_dec, e_sub, e_mul, e_div, e_rem, e_and, e_or, e_shl, e_shr, e_vin, e_nar, e_nar0, e_nar1, e_cl, e_b0, e_b00, e_b1, e_bt, e_andn, e_xor, Bool.not_eq_false, Bool.not_eq_true, Classical.not_not, not_false_eq_true, not_true_eq_false, true_implies, false_implies, true_and, and_true]
    refine ⟨fun c => by omega, fun _ => s_holds hO hS hs hk hi ?_⟩
    simp (disch := omega) only [e_le, e_lt, e_eq, e_lt0, e_0le, e_le0, e_0lt, e_eq0, e_m1, e_m5, e_m1l, e_m5l, e_m1e, e_add, e_dec, e_sub, e_mul, e_div, e_rem, e_and, e_or, e_shl, e_shr, e_vin, e_nar, e_nar0, e_nar1, e_cl, e_b0, e_b00, e_b1, e_bt, e_andn, e_xor, Bool.not_eq_false, Bool.not_eq_true, Classical.not_not, not_false_eq_true, not_true_eq_false, true_implies, false_implies, true_and, and_true]
    refine ⟨fun hf => ?_, fun ht => ⟨fun e => ?_, fun e => ?_⟩⟩
    · rw [cN_f (by simp only [hf, Bool.false_and])] at ih; exact ih
    · rw [cN_f (by simp [e])] at ih; exact ih
    · rw [cN_t (by simp [ht, e])] at ih; exact ih
theorem s_setsIn {d sn k i : Nat} {m : mm_Mem} {P : Int32 → mm_Mem → Prop} {num : Nat → Option Nat} {amt : Nat → Nat} (hO : rO num amt m) (hS : oS num amt) (hk : k < 9) (hi : i < 2147483648) (h : P (nI (cN (hld num k i) 256)) m) : mm_sp (d + 4) sn kX5_setsIn [.ref 59, .int (nI k), .int (nI i)] m (qI P) := by
  refine v_X5_setsIn ?_
  refine s_setsAround hO hS hk hi (by decide) ?_
  rw [cN_ext (q := hld num k i) (fun s _ => by simp)]
  exact h
