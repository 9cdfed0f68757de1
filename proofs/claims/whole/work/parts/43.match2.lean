-- MATCHING: the calls
def idL : Nat → Nat := fun q => q
theorem mvN_idb {s n i : Nat} : (mvN idL s n).testBit i = (decide (i < n) && s.testBit i) := by
  cases e : (mvN idL s n).testBit i with
  | true =>
    obtain ⟨p, h1, h2, h3⟩ := mvN_bits e
    have h3 : p = i := h3
    subst h3
    rw [decide_eq_true h1, h2]; rfl
  | false =>
    by_cases h1 : i < n
    · cases h2 : s.testBit i with
      | false => rw [Bool.and_false]
      | true =>
        have := mvN_has (T := idL) h2 h1
        have this : (mvN idL s n).testBit i = true := this
        rw [this] at e
        cases e
    · rw [decide_eq_false h1, Bool.false_and]
theorem mvN_id {s n : Nat} (hs : s < 2 ^ n) : mvN idL s n = s := by
  apply Nat.eq_of_testBit_eq
  intro i
  rw [mvN_idb]
  by_cases h : i < n
  · rw [decide_eq_true h, Bool.true_and]
  · rw [decide_eq_false h, Bool.false_and, Nat.testBit_lt_two_pow (Nat.lt_of_lt_of_le hs (Nat.pow_le_pow_right (by decide) (by omega)))]
theorem or_add {p r : Nat} (hr : r < 2 ^ p) : r ||| 1 <<< p = 2 ^ p + r := by
  apply Nat.eq_of_testBit_eq
  intro i
  rw [Nat.testBit_or, tb_shl, tb_add hr]
  by_cases e : i = p
  · subst e
    rw [if_pos rfl, decide_eq_true rfl, Bool.or_true]
  · rw [if_neg e, decide_eq_false (fun h => e h.symm), Bool.or_false]
theorem fit_id {B : Nat → Bool} {p : Nat} : fitB B B idL p p = true := alN_t fun r hr => by
  rw [mvN_id hr, or_add hr, beq_self_eq_true]
theorem ud_id {p : Nat} : ud idL p p = idL := funext fun x => by
  unfold ud idL
  split
  · next h => exact h.symm
  · rfl
theorem e_z01 {b : Bool} : nI b.toNat = 0 ∨ nI b.toNat = 1 := by
  cases b
  · exact Or.inl rfl
  · exact Or.inr rfl
theorem s_areAlike {d sn a b n : Nat} {A B : Nat → Bool} {m : mm_Mem} {P : Int32 → mm_Mem → Prop} (ha : shB a) (hb : shB b) (hne : (a + 1 < 73 ∨ 74 < a) ∧ (b + 1 < 73 ∨ 74 < b)) (hn : n ≤ 8) (hA : rZ (m.1 (a + 1)) A 256) (hB : rZ (m.1 (b + 1)) B 256) (h : ∀ m', fz 73 74 m m' → P (nI (cpN A B n n idL 0 0).toNat) m') : mm_sp (d + 12) sn kX4_areAlike [.ref 73, .ref a, .ref b, .int (nI n)] m (qI P) := by
  refine v_X4_areAlike ha hb ?_
  refine mm_sp.up (s_canPlace (d := 0) ha hb hne hn n (L := idL) (by omega) (by omega) (fun q hq => absurd hq (Nat.not_lt_zero q)) hA hB (fun s h0 hs => by have hs : s < 1 := hs; omega) ?_) (by omega)
  intro m' g0 _
  exact ⟨e_z01, h m' g0⟩
def glN (B : Nat → Bool) (n p : Nat) (i : Nat) : Bool := fitB B B idL p (p + i) && cpN B B n (n - (p + 1)) (ud idL p (p + i)) (p + 1) ((2 ^ p - 1) ||| 1 <<< (p + i))
def slv (B : Nat → Bool) (n : Nat) : Nat → Nat
  | 0 => 1
  | p + 1 => slv B n p * cN (glN B n p) (n - p)
theorem s_selvesOf {d sn a n : Nat} {B : Nat → Bool} {m : mm_Mem} {P : Int32 → mm_Mem → Prop} (ha : shB a) (hne : a + 1 < 73 ∨ 74 < a) (hn : n ≤ 8) (hB : rZ (m.1 (a + 1)) B 256) (h : ∀ m', fz 73 74 m m' → P (nI (slv B n n)) m') : mm_sp (d + 12) sn kX4_selvesOf [.ref 73, .ref a, .int (nI n)] m (qI P) := by
  refine v_X4_selvesOf ha ?_
  have hB1 : ∀ m', fz 73 74 m m' → rZ (m'.1 (a + 1)) B 256 := fun m' g => by rw [g.i (by omega)]; exact hB
  refine lp_up (W := fun p => ∀ m1, fz 73 74 m m1 → rL idL p m1 → mm_wp (d + 11) sn kX4_selvesOf 8 [some (.ref 73), some (.ref a), some (.int (nI n)), some (.int (nI (slv B n p))), some (.int (nI (2 ^ p - 1))), some (.int (nI p)), none, none, none] [] m1 (qI P)) (Nat.zero_le n) ?_ ?_ m fz.refl (fun s h0 hs => by have hs : s < 1 := hs; omega)
  · intro m1 g0 _
    exact v_X4_selvesOf_8 ha (e_vT (by rw [e_le (by omega) (by omega)]; omega) (h m1 g0))
  · intro p _ hp ih m1 g0 g1
    have hp2 : 2 ^ p ≤ 128 := Nat.pow_le_pow_right (n := 2) (by decide) (show p ≤ 7 by omega)
    have hpp := Nat.two_pow_pos p
    refine v_X4_selvesOf_8 ha (e_vF (by rw [e_le (by omega) (by omega)]; omega) (e_vF (by rw [e_le (by omega) (by omega)]; omega) ?_))
    refine lp_up (W := fun i => ∀ m2, fz 73 74 m m2 → rL idL p m2 → mm_wp (d + 11) sn kX4_selvesOf 28 [some (.ref 73), some (.ref a), some (.int (nI n)), some (.int (nI (slv B n p))), some (.int (nI (2 ^ p - 1))), some (.int (nI p)), some (.int (nI (cN (glN B n p) i))), some (.int (nI (p + i))), none] [] m2 (qI P)) (Nat.zero_le (n - p)) ?_ ?_ m1 g0 g1
    · intro m2 b0 b1
      refine v_X4_selvesOf_28 ha (e_vT (by rw [e_le (by omega) (by omega)]; omega) ?_)
      refine s_fits ha ha ⟨hne, hne⟩ (hB1 m2 b0) (hB1 m2 b0) (by omega) (by omega) (fun q hq => by show q < 8; omega) b1 ?_
      intro m3 c0 _ c2
      have c2 := c2 fit_id
      rw [ud_id] at c2
      rw [e_mul, e_add, e_shl (by omega), e_or]
      have e3 : (2 ^ p - 1) ||| 1 <<< p = 2 ^ (p + 1) - 1 := by
        rw [or_add (by omega), Nat.pow_succ]
        omega
      rw [e3]
      exact ih m3 (b0.trans c0) c2
    · intro i _ hi ih2 m2 b0 b1
      refine v_X4_selvesOf_28 ha (e_vF (by rw [e_le (by omega) (by omega)]; omega) ?_)
      have next : ∀ m3 b, fz 73 74 m m3 → rL idL p m3 → glN B n p i = b → mm_wp (d + 11) sn kX4_selvesOf 28 [some (.ref 73), some (.ref a), some (.int (nI n)), some (.int (nI (slv B n p))), some (.int (nI (2 ^ p - 1))), some (.int (nI p)), some (.int (nI (cN (glN B n p) i + b.toNat))), some (.int (nI (p + i + 1))), none] [] m3 (qI P) := by
        intro m3 b q0 q1 eb
        have := ih2 m3 q0 q1
        have e2 : cN (glN B n p) (i + 1) = cN (glN B n p) i + b.toNat := by rw [← eb]; rfl
        rw [e2] at this
        exact this
      refine s_fits ha ha ⟨hne, hne⟩ (hB1 m2 b0) (hB1 m2 b0) (by omega) (by omega) (fun q hq => by show q < 8; omega) b1 ?_
      intro m3 c0 c1 c2
      have d0 := b0.trans c0
      rw [e_add]
      refine e_vz (fun e => next m3 false d0 c1 (by unfold glN; rw [e, Bool.false_and])) (fun e => ?_)
      rw [e_add, e_shl (by omega), e_or]
      have hu2 : (2 ^ p - 1) ||| 1 <<< (p + i) < 256 := Nat.or_lt_two_pow (n := 8) (by omega) (shl_lt (by omega))
      refine mm_sp.up (s_canPlace (d := 0) ha ha ⟨hne, hne⟩ hn (n - (p + 1)) (L := ud idL p (p + i)) (by omega) hu2 (fun q hq => ?_) (hB1 m3 d0) (hB1 m3 d0) (c2 e) ?_) (by omega)
      · by_cases e3 : q = p
        · subst e3; rw [ud_s]; omega
        · rw [ud_n e3]; show q < 8; omega
      · intro m4 f0 f1
        have rl4 : rL idL p m4 := by
          intro s hs0 hs
          rw [f1 s hs0 (Nat.lt_of_lt_of_le hs (Nat.pow_le_pow_right (by decide) (by omega))), mvN_ge (T := ud idL p (p + i)) hs 1, mvN_ud (Nat.le_refl p)]
        rw [e_add]
        exact e_vz (fun e3 => next m4 false (d0.trans f0) rl4 (by unfold glN; rw [e3, Bool.and_false])) (fun e3 => next m4 true (d0.trans f0) rl4 (by unfold glN; rw [e, e3]; rfl))
def A_alike (S : St) (v w : Int32) : Int32 := if iz v (sC S) = false ∨ iz w (sC S) = false then -1 else if sN S = 8 then -3 else nI (cpN (sD S v.toNatClampNeg) (sD S w.toNatClampNeg) (sN S) (sN S) idL 0 0).toNat
theorem c_alike {d sn : Nat} {X : GS} {v w : Int32} {m : mm_Mem} {P : Int32 → mm_Mem → Prop} (hX : okX X) (hI : cI X m) (h : ∀ m', fz 1 81 m m' → cI X m' → P (A_alike X.1 v w) m') : mm_sp (d + 13) sn kX10_alike [.ref 1, .int v, .int w] m (qI P) := by
  refine v_X10_alike ?_
  have hC := hX.1.2.1.2
  have hN := hX.1.1
  have h2 := hI.1.2.2.1
  unfold A_alike at h
  refine s_designAt shS_2 h2 hC (fun j hj ej => ?_) (fun e => ?_)
  · subst ej
    refine v_so ⟨shS_d shS_2 (by omega), ?_⟩
    refine s_designAt shS_2 h2 hC (fun i hi ei => ?_) (fun e => ?_)
    · subst ei
      have n1 : ¬ (iz (nI j) (sC X.1) = false ∨ iz (nI i) (sC X.1) = false) := by rw [iz_j hj (by omega), iz_j hi (by omega)]; decide
      rw [if_neg n1, e_cl (show j < 2147483648 by omega), e_cl (show i < 2147483648 by omega)] at h
      refine v_so ⟨shS_d shS_2 (by omega), ?_⟩
      rw [hI.1.1, e_le (by omega) (by omega)]
      refine ⟨fun c => ?_, fun c => ?_⟩
      · rw [if_neg (by omega)] at h
        refine s_areAlike (shS_d shS_2 (by omega)) (shS_d shS_2 (by omega)) (by omega) hN.2 (hI.1.2.2.2.2.2 j hj).2.2 (hI.1.2.2.2.2.2 i hi).2.2 ?_
        intro m' g0
        have h := h m' (g0.wide (by omega) (by omega)) (fz_cI hX g0 (by omega) hI)
        refine e_vz (fun e => ?_) (fun e => ?_)
        · rw [e] at h; exact h
        · rw [e] at h; exact h
      · rw [if_pos (by omega)] at h
        exact h m fz.refl hI
    · rw [if_pos (Or.inr e)] at h
      exact v_no (h m fz.refl hI)
  · rw [if_pos (Or.inl e)] at h
    exact v_no (s_designAt shS_2 h2 hC (fun i hi ei => v_so ⟨shS_d shS_2 (by omega), h m fz.refl hI⟩) (fun e => v_no (h m fz.refl hI)))
def A_selves (S : St) (v : Int32) : Int32 := if iz v (sC S) = false then -1 else if sN S = 8 then -3 else nI (slv (sD S v.toNatClampNeg) (sN S) (sN S))
theorem c_selves {d sn : Nat} {X : GS} {v : Int32} {m : mm_Mem} {P : Int32 → mm_Mem → Prop} (hX : okX X) (hI : cI X m) (h : ∀ m', fz 1 81 m m' → cI X m' → P (A_selves X.1 v) m') : mm_sp (d + 13) sn kX10_selves [.ref 1, .int v] m (qI P) := by
  refine v_X10_selves ?_
  have hC := hX.1.2.1.2
  have hN := hX.1.1
  unfold A_selves at h
  refine s_designAt shS_2 hI.1.2.2.1 hC (fun j hj ej => ?_) (fun e => ?_)
  · subst ej
    have n1 : ¬ iz (nI j) (sC X.1) = false := by rw [iz_j hj (by omega)]; decide
    rw [if_neg n1, e_cl (show j < 2147483648 by omega)] at h
    refine v_so ⟨shS_d shS_2 (by omega), ?_⟩
    rw [hI.1.1, e_le (by omega) (by omega)]
    refine ⟨fun c => ?_, fun c => ?_⟩
    · rw [if_neg (by omega)] at h
      refine s_selvesOf (shS_d shS_2 (by omega)) (by omega) hN.2 (hI.1.2.2.2.2.2 j hj).2.2 ?_
      intro m' g0
      exact h m' (g0.wide (by omega) (by omega)) (fz_cI hX g0 (by omega) hI)
    · rw [if_pos (by omega)] at h
      exact h m fz.refl hI
  · rw [if_pos e] at h
    exact v_no (h m fz.refl hI)
