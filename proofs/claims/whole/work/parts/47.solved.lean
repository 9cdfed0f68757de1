-- the class's solved, solution
theorem s_solve {d sn R C aim : Nat} {w : Int32} {A : Nat → Nat → Nat} {m : mm_Mem} {P : mm_Mem → Prop} (hR : R ≤ 70) (hC : 1 ≤ C ∧ C ≤ 14) (hA8 : ∀ i j, A i j ≤ 256) (haim : aim ≤ 1000) (hA : rA A R C m) (h : ∀ m', fz 66 72 m m' → (∀ x, (x = 67 ∨ x = 68 ∨ x = 71) → m'.1 x = m.1 x) → rA A R C m' → rNt w (viI (slB A R C aim) w C 0 (0, -5, fun _ => 0)) m' → P m') : mm_sp (d + 20) sn kX1_solve [.ref 66, .int (nI aim), .int w] m (qV P) := by
  refine v_X1_solve ?_
  intro m1 e1 m2 e2 m3 e3
  have f3 : fz 66 66 m m3 := by
    subst e1; subst e2; subst e3
    exact ((fz_u2 (by omega) (by omega)).trans (fz_u2 (m := (_, _)) (by omega) (by omega))).trans (fz_u2 (m := (_, _)) (by omega) (by omega))
  have r3 : ∀ x, m3.1 66 x = if x = 11 then -5 else if x = 9 then nI 0 else if x = 8 then w else m.1 66 x := by
    intro x
    subst e1; subst e2; subst e3
    show mm_u2 (mm_u2 (mm_u2 m.1 66 8 w) 66 9 (nI 0)) 66 11 (-5) 66 x = _
    by_cases c1 : x = 11
    · subst c1; rw [u2_s, if_pos rfl]
    · rw [u2_j c1, if_neg c1]
      by_cases c2 : x = 9
      · subst c2; rw [u2_s, if_pos rfl]
      · rw [u2_j c2, if_neg c2]
        by_cases c3 : x = 8
        · subst c3; rw [u2_s, if_pos rfl]
        · rw [u2_j c3, if_neg c3]
  have hA3 : rA A R C m3 := ⟨by rw [r3]; exact hA.1, by rw [r3]; exact hA.2.1, fun i hi j hj => by rw [f3.i (by omega)]; exact hA.2.2 i hi j hj⟩
  have rA_of : ∀ m', fz 69 70 m3 m' → rA A R C m' := fun m' g => kp_rA (kp_ch g) hA3
  have z0 : nI 0 = iI 0 := by decide
  refine lp_up (W := fun i => ∀ m4, fz 69 70 m3 m4 → (∀ x, x < i → m4.1 69 x = nI aim ∧ m4.1 70 x = nI (totN (A x) C)) → mm_wp (d + 19) sn kX1_solve 18 [some (.ref 66), some (.int (nI aim)), none, some (.int (nI i)), none] [] m4 (qV P)) (Nat.zero_le R) ?_ ?_ m3 fz.refl (fun x hx => by omega)
  · intro m4 g0 g1
    refine v_X1_solve_18 ?_
    rw [(rA_of m4 g0).1, (rA_of m4 g0).2.1]
    refine e_vT (by rw [e_le (by omega) (by omega)]; omega) ?_
    have hp : (2 : Nat) ^ C ≤ 2 ^ 14 := Nat.pow_le_pow_right (by decide) hC.2
    have hp : (2 : Nat) ^ C ≤ 16384 := hp
    refine mm_sp.up (s_search (w := w) (aim := aim) (d := 0) hR hC.2 hA8 haim C (st := (0, -5, fun _ => 0)) (Nat.le_refl C) (fun j _ => Nat.zero_testBit j) (by show 0 + 2 ^ C ≤ 20000; omega) (fun e => by omega) (rA_of m4 g0) (fun i hi => ?_) ⟨?_, ?_, ?_, fun i _ hi => absurd hi (Nat.not_lt_zero i)⟩ ?_) (by omega)
    · obtain ⟨a1, a2⟩ := g1 i hi
      have e0 : smN (A i) 0 C = 0 := by
        have : ∀ n, smN (A i) 0 n = 0 := by
          intro n
          induction n with
          | zero => rfl
          | succ n ih =>
            show smN (A i) 0 n + (if (0 : Nat).testBit n = true then A i n else 0) = 0
            rw [ih, Nat.zero_testBit, if_neg (by decide)]
        exact this C
      have ht := totN_le (hA8 i) C
      refine ⟨?_, ?_⟩
      · rw [a1, nI_iI (by omega)]
        unfold ndI
        rw [e0]
        congr 1
      · rw [a2, nI_iI (by omega)]
        rfl
    · rw [g0.i (by omega), r3]; rfl
    · rw [g0.i (by omega), r3]; rfl
    · rw [g0.i (by omega), r3]; rfl
    · intro m5 k5 _ t5
      exact h m5 ((f3.wide (by omega) (by omega)).trans ((g0.wide (by omega) (by omega)).trans k5.1)) (fun x hx => by rw [k5.2.1 x hx, g0.i (by omega), f3.i (by omega)]) (kp_rA k5 (rA_of m4 g0)) t5
  · intro i _ hi ih m4 g0 g1
    refine v_X1_solve_18 ?_
    rw [(rA_of m4 g0).1]
    refine e_vF (by rw [e_le (by omega) (by omega)]; omega) (e_vF (by rw [e_le (by omega) (by omega)]; omega) (e_vF (by rw [e_le (by omega) (by omega)]; omega) ?_))
    rw [e_vin (by omega) (by omega), e_cl (by omega)]
    refine ⟨by omega, fun m5 e5 => ⟨by omega, fun m6 e6 => ?_⟩⟩
    have f6 : fz 69 70 m4 m6 := by
      subst e5; subst e6
      exact (fz_u2 (by omega) (by omega)).trans (fz_u2 (m := (_, _)) (by omega) (by omega))
    have q69 : ∀ x, m6.1 69 x = if x = i then nI aim else m4.1 69 x := by
      intro x
      subst e5; subst e6
      show mm_u2 (mm_u2 m4.1 69 i (nI aim)) 70 i (nI 0) 69 x = _
      rw [u2_rj (by omega)]
      by_cases e : x = i
      · subst e; rw [u2_s, if_pos rfl]
      · rw [u2_j e, if_neg e]
    have q70 : ∀ x, m6.1 70 x = if x = i then nI 0 else m4.1 70 x := by
      intro x
      subst e5; subst e6
      show mm_u2 (mm_u2 m4.1 69 i (nI aim)) 70 i (nI 0) 70 x = _
      by_cases e : x = i
      · subst e; rw [u2_s, if_pos rfl]
      · rw [u2_j e, u2_rj (by omega), if_neg e]
    refine lp_up (W := fun j => ∀ m7, fz 69 70 m3 m7 → (∀ x, m7.1 69 x = m6.1 69 x) → (∀ x, x ≠ i → m7.1 70 x = m6.1 70 x) → m7.1 70 i = nI (totN (A i) j) → mm_wp (d + 19) sn kX1_solve 61 [some (.ref 66), some (.int (nI aim)), none, some (.int (nI i)), some (.int (nI j))] [] m7 (qV P)) (Nat.zero_le C) ?_ ?_ m6 (g0.trans f6) (fun _ => rfl) (fun _ _ => rfl) (by rw [q70, if_pos rfl]; rfl)
    · intro m7 b0 b1 b2 b3
      refine v_X1_solve_61 ?_
      rw [(rA_of m7 b0).2.1]
      refine e_vT (by rw [e_le (by omega) (by omega)]; omega) ?_
      rw [e_add]
      refine ih m7 b0 (fun x hx => ?_)
      by_cases e : x = i
      · subst e
        rw [b1, q69, if_pos rfl]
        exact ⟨rfl, b3⟩
      · rw [b1, q69, if_neg e, b2 x e, q70, if_neg e]
        exact g1 x (by omega)
    · intro j _ hj ih2 m7 b0 b1 b2 b3
      refine v_X1_solve_61 ?_
      rw [(rA_of m7 b0).2.1]
      refine e_vF (by rw [e_le (by omega) (by omega)]; omega) ?_
      rw [e_vin (by omega) (by omega), e_cl (by omega)]
      refine ⟨by omega, ?_⟩
      refine mm_sp.up (s_numberAt (d := 0) (rA_of m7 b0) hR hC.2 hi hj ?_) (by omega)
      rw [b3, e_add, e_add]
      refine ⟨by omega, fun m8 e8 => ih2 m8 (b0.trans (by subst e8; exact fz_u2 (by omega) (by omega))) (fun x => ?_) (fun x hx => ?_) ?_⟩
      · subst e8
        show mm_u2 m7.1 70 i (nI (totN (A i) j + A i j)) 69 x = _
        rw [u2_rj (by omega)]; exact b1 x
      · subst e8
        show mm_u2 m7.1 70 i (nI (totN (A i) j + A i j)) 70 x = _
        rw [u2_j hx]; exact b2 x hx
      · subst e8
        show mm_u2 m7.1 70 i (nI (totN (A i) j + A i j)) 70 i = nI (totN (A i) (j + 1))
        rw [u2_s]; rfl
noncomputable def tA (S : St) (t k : Nat) : Nat → Nat → Nat := fun i j => tbN (fndS S).1 k (ft (hld (fndS S).1 t i)) j 256
theorem tA_8 {S : St} {t k : Nat} : ∀ i j, tA S t k i j ≤ 256 := fun _ _ => tbN_le _ _ _ _ _
theorem rC_rA {S : St} {t k : Nat} {m : mm_Mem} (hC : (fndS S).2 k ≤ 14) (h : rC (fndS S).1 (fndS S).2 t k m) : rA (tA S t k) ((fndS S).2 t) ((fndS S).2 k) m := ⟨h.1, h.2.1, fun i hi j hj => by
  rw [(h.2.2.1 i hi).1 j (by omega), if_pos hj]
  rfl⟩
theorem amt_1 {S : St} (h : okS S) {k : Nat} (hk : k ≤ sN S) : 1 ≤ (fndS S).2 k := by
  have hF := fnd_oF h
  have hp : (2 : Nat) ^ k ≤ 2 ^ sN S := Nat.pow_le_pow_right (by decide) hk
  have hpp := Nat.two_pow_pos k
  have hn := hF.2.1 (2 ^ k - 1) (by omega)
  have hN := h.1.2
  have hb : bc (2 ^ k - 1) = k := by
    rw [bc_n (n := k) (by omega) (by omega)]
    exact cN_all (fun s hs => tb_all hs)
  cases e : (fndS S).1 (2 ^ k - 1) with
  | none => exact absurd e hn
  | some o =>
    have := (hF.1 _ o e).2
    rw [hb] at this
    omega
def imB (v : Int32) : Bool := !decide (v < nI 1) && !decide (nI 70 < v)
theorem s_isAim {d sn : Nat} {v : Int32} {m : mm_Mem} {P : Int32 → mm_Mem → Prop} (h : P (nI (imB v).toNat) m) : mm_sp (d + 1) sn kX10_isAim [.int v] m (qI P) := by
  refine v_X10_isAim ?_
  unfold imB at h
  refine ⟨fun c => ?_, fun c => ⟨fun c2 => ?_, fun c2 => ?_⟩⟩
  · rw [decide_eq_true c] at h; exact h
  · rw [decide_eq_false c, decide_eq_true c2] at h; exact h
  · rw [decide_eq_false c, decide_eq_false c2] at h; exact h
theorem imB_t {v : Int32} (h : imB v = true) : ∃ a, 1 ≤ a ∧ a ≤ 70 ∧ v = nI a := by
  unfold imB at h
  rw [Bool.and_eq_true] at h
  have h1 : ¬ v < nI 1 := by simpa using h.1
  have h2 : ¬ nI 70 < v := by simpa using h.2
  have e1 : (nI 1).toInt = 1 := by decide
  have e2 : (nI 70).toInt = 70 := by decide
  rw [Int32.lt_iff_toInt_lt, e1] at h1
  rw [Int32.lt_iff_toInt_lt, e2] at h2
  refine ⟨v.toInt.toNat, by omega, by omega, ?_⟩
  rw [← Int32.toInt_inj, nI_toInt (by omega)]
  omega
noncomputable def solS (S : St) (t k aim : Nat) (w : Int32) : NS := viI (slB (tA S t k) ((fndS S).2 t) ((fndS S).2 k) aim) w ((fndS S).2 k) 0 (0, -5, fun _ => 0)
noncomputable def A_solved (S : St) (t k a w : Int32) : Int32 := if szs S t k = false then -2 else if imB a = false then -2 else if iz w 2 = false then -1 else if ¬ (fndS S).2 k.toNatClampNeg ≤ 14 then -3 else if w = nI 0 then nI (solS S t.toNatClampNeg k.toNatClampNeg a.toNatClampNeg (nI 0)).1 else (solS S t.toNatClampNeg k.toNatClampNeg a.toNatClampNeg (nI 0)).2.1
theorem c_solved {d sn : Nat} {X : GS} {t k a w : Int32} {m : mm_Mem} {P : Int32 → mm_Mem → Prop} (hX : okX X) (hI : cI X m) (h : ∀ m', fz 1 81 m m' → cI X m' → P (A_solved X.1 t k a w) m') : mm_sp (d + 21) sn kX10_solved [.ref 1, .int t, .int k, .int a, .int w] m (qI P) := by
  refine v_X10_solved ?_
  have hN := hX.1.1.2
  unfold A_solved at h
  refine s_areSizes hI.1 hN (e_vz (fun e => ?_) (fun e => ?_))
  · rw [if_pos e] at h
    exact h m fz.refl hI
  · have n1 : ¬ szs X.1 t k = false := by rw [e]; decide
    rw [if_neg n1] at h
    refine s_isAim (e_vb (fun e2 => ?_) (fun e2 => ?_))
    · have n2 : ¬ imB a = false := by rw [e2]; decide
      rw [if_neg n2] at h
      refine ⟨fun c => ?_, fun c => ⟨fun c2 => ?_, fun c2 => ?_⟩⟩
      · rw [if_pos (iz_no1 c)] at h
        exact h m fz.refl hI
      · have e3 : iz w 2 = true := by
          rw [iz_1 (n := 1) (by omega)]
          exact decide_eq_true ⟨c, Int32.not_lt.mpr c2⟩
        have n3 : ¬ iz w 2 = false := by rw [e3]; decide
        rw [if_neg n3] at h
        obtain ⟨t, k, htk, hk, rfl, rfl⟩ := szs_t hN e
        obtain ⟨a, ha1, ha2, rfl⟩ := imB_t e2
        rw [e_cl (by omega), e_cl (by omega), e_cl (by omega)] at h
        have ew0 : (w = 0) = (w = nI 0) := by rw [nI_0]
        refine mm_sp.up (s_loadChoices (d := 0) hX hI ⟨by omega, hk⟩ (fun hc m1 hz hI1 _ hCm => ?_) (fun hc m1 hz hI1 => ?_)) (by omega)
        · rw [if_neg (Classical.not_not.mpr hc)] at h
          refine e_vT (by decide) ?_
          refine mm_sp.up (s_solve (d := 0) (w := nI 0) (fnd_70 hX.1 (by omega)) ⟨amt_1 hX.1 hk, hc⟩ tA_8 (by omega) (rC_rA hc hCm) ?_) (by omega)
          intro m2 hz2 _ _ hT
          have h := h m2 ((hz.wide (by omega) (by omega)).trans (hz2.wide (by omega) (by omega))) (fz_cI hX hz2 (by omega) hI1)
          rw [ew0, hT.2.1, hT.2.2.1]
          refine ⟨fun c5 => ?_, fun c5 => ?_⟩
          · rw [if_neg c5] at h; exact h
          · rw [if_pos (Classical.not_not.mp c5)] at h; exact h
        · rw [if_pos hc] at h
          exact e_vF (by decide) (h m1 (hz.wide (by omega) (by omega)) hI1)
      · have e3 : iz w 2 = false := by
          rw [iz_1 (n := 1) (by omega)]
          exact decide_eq_false (fun e => e.2 (Int32.not_le.mp c2))
        rw [if_pos e3] at h
        exact h m fz.refl hI
    · rw [if_pos e2] at h
      exact h m fz.refl hI
noncomputable def A_solution (S : St) (t k a w : Int32) : Int32 := if szs S t k = false then -2 else if imB a = false then -2 else if ¬ 0 ≤ w then -1 else if ¬ (fndS S).2 k.toNatClampNeg ≤ 14 then -3 else (solS S t.toNatClampNeg k.toNatClampNeg a.toNatClampNeg w).2.1
theorem c_solution {d sn : Nat} {X : GS} {t k a w : Int32} {m : mm_Mem} {P : Int32 → mm_Mem → Prop} (hX : okX X) (hI : cI X m) (h : ∀ m', fz 1 81 m m' → cI X m' → P (A_solution X.1 t k a w) m') : mm_sp (d + 21) sn kX10_solution [.ref 1, .int t, .int k, .int a, .int w] m (qI P) := by
  refine v_X10_solution ?_
  have hN := hX.1.1.2
  unfold A_solution at h
  refine s_areSizes hI.1 hN (e_vz (fun e => ?_) (fun e => ?_))
  · rw [if_pos e] at h
    exact h m fz.refl hI
  · have n1 : ¬ szs X.1 t k = false := by rw [e]; decide
    rw [if_neg n1] at h
    refine s_isAim (e_vb (fun e2 => ?_) (fun e2 => ?_))
    · have n2 : ¬ imB a = false := by rw [e2]; decide
      rw [if_neg n2] at h
      refine ⟨fun c => ?_, fun c => ?_⟩
      · rw [if_neg (Classical.not_not.mpr c)] at h
        obtain ⟨t, k, htk, hk, rfl, rfl⟩ := szs_t hN e
        obtain ⟨a, ha1, ha2, rfl⟩ := imB_t e2
        rw [e_cl (by omega), e_cl (by omega), e_cl (by omega)] at h
        refine mm_sp.up (s_loadChoices (d := 0) hX hI ⟨by omega, hk⟩ (fun hc m1 hz hI1 _ hCm => ?_) (fun hc m1 hz hI1 => ?_)) (by omega)
        · rw [if_neg (Classical.not_not.mpr hc)] at h
          refine e_vT (by decide) ?_
          refine mm_sp.up (s_solve (d := 0) (w := w) (fnd_70 hX.1 (by omega)) ⟨amt_1 hX.1 hk, hc⟩ tA_8 (by omega) (rC_rA hc hCm) ?_) (by omega)
          intro m2 hz2 _ _ hT
          rw [hT.2.2.1]
          exact h m2 ((hz.wide (by omega) (by omega)).trans (hz2.wide (by omega) (by omega))) (fz_cI hX hz2 (by omega) hI1)
        · rw [if_pos hc] at h
          exact e_vF (by decide) (h m1 (hz.wide (by omega) (by omega)) hI1)
      · rw [if_pos c] at h
        exact h m fz.refl hI
    · rw [if_pos e2] at h
      exact h m fz.refl hI
