-- the class's cover
def covR (f : Nat → Nat) (C ch : Nat) : Bool := !alN (fun j => !(ch.testBit j && decide (0 < f j))) C
def cov (A : Nat → Nat → Nat) (R C ch : Nat) : Bool := alN (fun i => covR (A i) C ch) R
theorem cvb_and {C c ch : Nat} {f : Nat → Nat} (h : cvb C f c) : (ch &&& c = 0) = (covR f C ch = false) := by
  apply propext
  unfold covR
  rw [Bool.not_eq_false']
  constructor
  · intro e
    refine alN_t (fun j hj => ?_)
    have e2 := congrArg (fun x => x.testBit j) e
    simp only [Nat.testBit_and, h.2 j, Nat.zero_testBit] at e2
    cases e3 : ch.testBit j with
    | false => rfl
    | true =>
      rw [e3, Bool.true_and, decide_eq_false_iff_not] at e2
      have e4 : decide (0 < f j) = false := decide_eq_false (fun hh => e2 ⟨hj, hh⟩)
      rw [e4]; rfl
  · intro e
    apply Nat.eq_of_testBit_eq
    intro j
    rw [Nat.testBit_and, h.2 j, Nat.zero_testBit]
    by_cases hj : j < C
    · have := alN_of e j hj
      cases e3 : ch.testBit j with
      | false => rfl
      | true =>
        rw [e3] at this
        have e5 : ¬ 0 < f j := by simpa using this
        have e4 : decide (j < C ∧ 0 < f j) = false := decide_eq_false (fun hh => e5 hh.2)
        rw [e4]; rfl
    · have e4 : decide (j < C ∧ 0 < f j) = false := decide_eq_false (fun hh => hj hh.1)
      rw [e4, Bool.and_false]
def rCv (A : Nat → Nat → Nat) (R C : Nat) (m : mm_Mem) : Prop := m.1 66 6 = nI R ∧ ∀ i, i < R → ∃ c, m.1 68 i = nI c ∧ cvb C (A i) c
theorem s_covers {d sn R C ch : Nat} {A : Nat → Nat → Nat} {m : mm_Mem} {P : Int32 → mm_Mem → Prop} (hR : R ≤ 70) (hch : ch < 2147483648) (hA : rCv A R C m) (h : P (nI (cov A R C ch).toNat) m) : mm_sp (d + 1) sn kX1_covers [.ref 66, .int (nI ch)] m (qI P) := by
  refine v_X1_covers ?_
  refine lp_up (W := fun i => (∀ x, x < i → covR (A x) C ch = true) → mm_wp d sn kX1_covers 2 [some (.ref 66), some (.int (nI ch)), some (.int (nI i))] [] m (qI P)) (Nat.zero_le R) ?_ ?_ (fun x hx => by omega)
  · intro hx
    refine v_X1_covers_2 ?_
    rw [hA.1]
    refine e_vT (by rw [e_le (by omega) (by omega)]; omega) ?_
    rw [show cov A R C ch = true from alN_t hx] at h
    exact h
  · intro i _ hi ih hx
    refine v_X1_covers_2 ?_
    rw [hA.1]
    refine e_vF (by rw [e_le (by omega) (by omega)]; omega) (e_vF (by rw [e_le (by omega) (by omega)]; omega) ?_)
    obtain ⟨c, hc1, hc2⟩ := hA.2 i hi
    have hl : ch &&& c ≤ ch := Nat.and_le_left
    rw [e_vin (by omega) (by omega), e_cl (by omega), hc1, e_and, e_eq0 (by omega), cvb_and hc2, e_add]
    refine ⟨by omega, fun e => ih (fun x hxi => ?_), fun e => ?_⟩
    · by_cases e3 : x = i
      · subst e3; simpa using e
      · exact hx x (by omega)
    · have e := Classical.not_not.mp e
      rw [show cov A R C ch = false from alN_f (p := fun i => covR (A i) C ch) e hi] at h
      exact h
/-- the search for the cover with the fewest sets, as it goes -/
def vc (A : Nat → Nat → Nat) (R C : Nat) (Z : Nat → Nat) : Nat → Nat → Nat → Nat × Int32 → Nat × Int32
  | 0, ch, s, st => if s < st.1 ∧ cov A R C ch = true then (s, nI ch) else st
  | c + 1, ch, s, st => if s < st.1 ∧ cov A R C (ch ||| (2 ^ (c + 1) - 1)) = true then vc A R C Z c (ch ||| 1 <<< c) (s + Z c) (vc A R C Z c ch s st) else st
def rF (st : Nat × Int32) (m : mm_Mem) : Prop := m.1 66 10 = nI st.1 ∧ m.1 66 11 = st.2
def kq (m m' : mm_Mem) : Prop := fz 66 66 m m' ∧ ∀ x, x < 10 → m'.1 66 x = m.1 66 x
theorem kq.trans {m1 m2 m3 : mm_Mem} (h : kq m1 m2) (g : kq m2 m3) : kq m1 m3 := ⟨h.1.trans g.1, fun x hx => (g.2 x hx).trans (h.2 x hx)⟩
theorem kq.refl {m : mm_Mem} : kq m m := ⟨fz.refl, fun _ _ => rfl⟩
theorem kq_rCv {A : Nat → Nat → Nat} {R C : Nat} {m m' : mm_Mem} (h : kq m m') (hA : rCv A R C m) : rCv A R C m' := ⟨(h.2 6 (by omega)).trans hA.1, fun i hi => by rw [h.1.i (by omega)]; exact hA.2 i hi⟩
theorem vc_fe {A : Nat → Nat → Nat} {R C : Nat} {Z : Nat → Nat} : ∀ (c ch s : Nat) (st : Nat × Int32), (vc A R C Z c ch s st).1 ≤ st.1
  | 0, ch, s, st => by
    unfold vc
    split
    · next h => exact Nat.le_of_lt h.1
    · exact Nat.le_refl _
  | c + 1, ch, s, st => by
    unfold vc
    split
    · exact Nat.le_trans (vc_fe c _ _ _) (vc_fe c _ _ _)
    · exact Nat.le_refl _
theorem s_searchCovers {sn R C : Nat} {A : Nat → Nat → Nat} {Z : Nat → Nat} (hR : R ≤ 70) (hC : C ≤ 14) (hZ : ∀ j, Z j ≤ 256) : ∀ (c : Nat) {d ch s : Nat} {st : Nat × Int32} {m : mm_Mem} {P : mm_Mem → Prop}, c ≤ C → ch < 2 ^ 14 → s + 256 * c ≤ 100000 → st.1 < 2147483648 → rCv A R C m → (∀ j, j < C → m.1 71 j = nI (Z j)) → rF st m → (∀ m', kq m m' → rF (vc A R C Z c ch s st) m' → P m') → mm_sp (d + c + 2) sn kX1_searchCovers [.ref 66, .int (nI c - nI 1), .int (nI ch), .int (nI s)] m (qV P)
  | 0, d, ch, s, st, m, P, _, hch, hs, hst, hA, hZm, hF, h => by
    have hch : ch < 16384 := hch
    refine v_X1_searchCovers (e_vF (by decide) ?_)
    have e1 : nI ch ||| (mm_shl (nI 1) (nI 0 - nI 1 + nI 1) - nI 1) = nI ch := by
      have e2 : mm_shl (nI 1) (nI 0 - nI 1 + nI 1) - nI 1 = nI 0 := by decide
      rw [e2, e_or, Nat.or_zero]
    rw [hF.1, e1, e_lt (by omega) hst]
    unfold vc at h
    refine ⟨fun c1 => ?_, fun c1 => ?_⟩
    · refine mm_sp.up (s_covers (d := 0) hR (by omega) hA ?_) (by omega)
      refine e_vb (fun e => e_vT (by decide) (fun m2 e2 m3 e3 => ?_)) (fun e => ?_)
      · rw [if_pos ⟨c1, e⟩] at h
        refine h m3 ⟨?_, fun x hx => ?_⟩ ⟨?_, ?_⟩
        · subst e2; subst e3
          exact (fz_u2 (by omega) (by omega)).trans (fz_u2 (m := (_, _)) (by omega) (by omega))
        · subst e2; subst e3
          show mm_u2 (mm_u2 m.1 66 10 (nI s)) 66 11 (nI ch) 66 x = _
          rw [u2_j (by omega), u2_j (by omega)]
        · subst e2; subst e3
          show mm_u2 (mm_u2 m.1 66 10 (nI s)) 66 11 (nI ch) 66 10 = _
          rw [u2_j (by omega), u2_s]
        · subst e2; subst e3
          show mm_u2 (mm_u2 m.1 66 10 (nI s)) 66 11 (nI ch) 66 11 = _
          rw [u2_s]
      · rw [if_neg (fun hh => by rw [hh.2] at e; cases e)] at h
        exact h m kq.refl hF
    · rw [if_neg (fun hh => c1 hh.1)] at h
      exact h m kq.refl hF
  | c + 1, d, ch, s, st, m, P, hcC, hch, hs, hst, hA, hZm, hF, h => by
    have hch' : ch < 16384 := hch
    have e0 : nI (c + 1) - nI 1 = nI c := e_sub (by omega)
    rw [e0]
    have hp : (2 : Nat) ^ (c + 1) ≤ 2 ^ 14 := Nat.pow_le_pow_right (by decide) (by omega)
    have hp : (2 : Nat) ^ (c + 1) ≤ 16384 := hp
    have hpp := Nat.two_pow_pos (c + 1)
    have hor : ch ||| (2 ^ (c + 1) - 1) < 2 ^ 14 := Nat.or_lt_two_pow hch (by show _ < 16384; omega)
    have hor : ch ||| (2 ^ (c + 1) - 1) < 16384 := hor
    have hor2 : ch ||| 1 <<< c < 2 ^ 14 := Nat.or_lt_two_pow hch (shl_lt (by omega))
    refine v_X1_searchCovers (e_vF (by rw [e_le (by omega) (by omega)]; omega) ?_)
    rw [e_add, e_shl (by omega), Nat.shiftLeft_eq, Nat.one_mul, e_sub (show 1 ≤ 2 ^ (c + 1) from hpp), e_or, hF.1, e_lt (by omega) hst]
    unfold vc at h
    refine ⟨fun c1 => ?_, fun c1 => ?_⟩
    · refine mm_sp.up (s_covers (d := 0) hR (by omega) hA ?_) (by omega)
      refine e_vb (fun e => e_vF (by rw [e_lt0 (by omega)]; exact id) (e_vT (by rw [e_lt (by omega) (by omega)]; omega) ?_)) (fun e => ?_)
      · rw [if_pos ⟨c1, e⟩] at h
        refine mm_sp.up (s_searchCovers hR hC hZ c (d := d) (by omega) hch (by omega) hst hA hZm hF ?_) (by omega)
        intro m1 k1 f1
        have hz := hZ c
        rw [e_vin (by omega) (by omega), e_cl (by omega), k1.1.i (by omega), hZm c (by omega), e_add, e_shl (by omega), e_or]
        refine ⟨by omega, ?_⟩
        have hfe := vc_fe (A := A) (R := R) (C := C) (Z := Z) c ch s st
        refine mm_sp.up (s_searchCovers hR hC hZ c (d := d) (by omega) hor2 (by omega) (by omega) (kq_rCv k1 hA) (fun j hj => by rw [k1.1.i (by omega)]; exact hZm j hj) f1 ?_) (by omega)
        intro m2 k2 f2
        exact h m2 (k1.trans k2) f2
      · rw [if_neg (fun hh => by rw [hh.2] at e; cases e)] at h
        exact h m kq.refl hF
    · rw [if_neg (fun hh => c1 hh.1)] at h
      exact h m kq.refl hF
noncomputable def covS (S : St) (t k : Nat) : Nat × Int32 := vc (tA S t k) ((fndS S).2 t) ((fndS S).2 k) (fun j => cN (hld (fndS S).1 k j) 256) ((fndS S).2 k) 0 0 (2147483647, -5)
theorem rC_rCv {S : St} {t k : Nat} {m : mm_Mem} (h : rC (fndS S).1 (fndS S).2 t k m) : rCv (tA S t k) ((fndS S).2 t) ((fndS S).2 k) m := ⟨h.1, fun i hi => (h.2.2.1 i hi).2⟩
noncomputable def A_cover (S : St) (t k w : Int32) : Int32 := if szs S t k = false then -2 else if iz w 2 = false then -1 else if ¬ (fndS S).2 k.toNatClampNeg ≤ 14 then -3 else if (covS S t.toNatClampNeg k.toNatClampNeg).2 = -5 then -5 else if w = nI 0 then nI (covS S t.toNatClampNeg k.toNatClampNeg).1 else (covS S t.toNatClampNeg k.toNatClampNeg).2
theorem c_cover {d sn : Nat} {X : GS} {t k w : Int32} {m : mm_Mem} {P : Int32 → mm_Mem → Prop} (hX : okX X) (hI : cI X m) (h : ∀ m', fz 1 81 m m' → cI X m' → P (A_cover X.1 t k w) m') : mm_sp (d + 21) sn kX10_cover [.ref 1, .int t, .int k, .int w] m (qI P) := by
  refine v_X10_cover ?_
  have hN := hX.1.1.2
  unfold A_cover at h
  refine s_areSizes hI.1 hN (e_vb (fun e => ?_) (fun e => ?_))
  · have n1 : ¬ szs X.1 t k = false := by rw [e]; decide
    rw [if_neg n1] at h
    refine ⟨fun c => ?_, fun c => ⟨fun c2 => ?_, fun c2 => ?_⟩⟩
    · rw [if_pos (iz_no1 c)] at h
      exact h m fz.refl hI
    · have e3 : iz w 2 = true := by
        rw [iz_1 (n := 1) (by omega)]
        exact decide_eq_true ⟨c, Int32.not_lt.mpr c2⟩
      have n3 : ¬ iz w 2 = false := by rw [e3]; decide
      rw [if_neg n3] at h
      obtain ⟨t, k, htk, hk, rfl, rfl⟩ := szs_t hN e
      rw [e_cl (by omega), e_cl (by omega)] at h
      have ew0 : (w = 0) = (w = nI 0) := by rw [nI_0]
      refine mm_sp.up (s_loadChoices (d := 0) hX hI ⟨by omega, hk⟩ (fun hc m1 hz hI1 _ hCm => ?_) (fun hc m1 hz hI1 => ?_)) (by omega)
      · rw [if_neg (Classical.not_not.mpr hc)] at h
        refine e_vT (by decide) ?_
        refine mm_sp.up (v_X1_findFewest (d := 19) ?_) (by omega)
        intro m2 e2 m3 e3
        have f3 : kq m1 m3 := by
          subst e2; subst e3
          refine ⟨(fz_u2 (by omega) (by omega)).trans (fz_u2 (m := (_, _)) (by omega) (by omega)), fun x hx => ?_⟩
          show mm_u2 (mm_u2 m1.1 66 10 (nI 2147483647)) 66 11 (-5) 66 x = _
          rw [u2_j (by omega), u2_j (by omega)]
        have r3 : rF (2147483647, -5) m3 := by
          subst e2; subst e3
          refine ⟨?_, ?_⟩
          · show mm_u2 (mm_u2 m1.1 66 10 (nI 2147483647)) 66 11 (-5) 66 10 = _
            rw [u2_j (by omega), u2_s]
          · show mm_u2 (mm_u2 m1.1 66 10 (nI 2147483647)) 66 11 (-5) 66 11 = _
            rw [u2_s]
        rw [(f3.2 7 (by omega)).trans hCm.2.1]
        refine mm_sp.up (s_searchCovers (d := 0) (Z := fun j => cN (hld (fndS X.1).1 k j) 256) (fnd_70 hX.1 (by omega)) hc (fun j => cN_le _ _) ((fndS X.1).2 k) (st := (2147483647, -5)) (Nat.le_refl _) (by decide) (by omega) (by decide) (kq_rCv f3 (rC_rCv hCm)) (fun j hj => by rw [f3.1.i (by omega)]; exact hCm.2.2.2 j hj) r3 ?_) (by omega)
        intro m4 k4 r4
        have h := h m4 ((hz.wide (by omega) (by omega)).trans ((f3.trans k4).1.wide (by omega) (by omega))) (fz_cI hX (f3.trans k4).1 (by omega) hI1)
        have r41 : m4.1 66 10 = nI (covS X.1 t k).1 := r4.1
        have r42 : m4.1 66 11 = (covS X.1 t k).2 := r4.2
        rw [r41, r42, ew0]
        refine ⟨fun c5 => ⟨fun c6 => ?_, fun c6 => ?_⟩, fun c5 => ?_⟩
        · rw [if_neg c5, if_neg c6] at h; exact h
        · rw [if_neg c5, if_pos (Classical.not_not.mp c6)] at h; exact h
        · rw [if_pos (Classical.not_not.mp c5)] at h; exact h
      · rw [if_pos hc] at h
        exact e_vF (by decide) (h m1 (hz.wide (by omega) (by omega)) hI1)
    · have e3 : iz w 2 = false := by
        rw [iz_1 (n := 1) (by omega)]
        exact decide_eq_false (fun e => e.2 (Int32.not_le.mp c2))
      rw [if_pos e3] at h
      exact h m fz.refl hI
  · rw [if_pos e] at h
    exact h m fz.refl hI
