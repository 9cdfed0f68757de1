-- THE MODEL: areSizes, tables, table, choose
theorem m_areSizes {d sn : Nat} {S : St} {t k : Int32} {m : mm_Mem} {P : Int32 → mm_Mem → Prop} (hn : m.1 83 0 = nI (sN S)) (hN : sN S ≤ 8) (h : P (nI (szs S t k).toNat) m) : mm_sp (d + 3) sn kX11_areSizes [.ref 82, .int t, .int k] m (qI P) := by
  refine v_X11_areSizes ?_
  unfold szs at h
  refine m_isSize hn hN (e_vz (fun e => ?_) (fun e => ?_))
  · rw [e] at h
    exact h
  · rw [e, Bool.true_and] at h
    refine m_isSize hn hN (e_vz (fun e => ?_) (fun e => ?_))
    · rw [e] at h
      exact h
    · rw [e, Bool.true_and] at h
      refine ⟨fun c => ?_, fun c => ?_⟩
      · rw [decide_eq_false (Int32.not_le.mpr c)] at h; exact h
      · rw [decide_eq_true (Int32.not_lt.mp c)] at h; exact h
def rTb (S : St) (t k : Nat) (m : mm_Mem) : Prop := (∀ i, i < (fndS S).2 t → ∀ j, j < (fndS S).2 k → m.1 (103 + i) j = nI (tbN (fndS S).1 k (ft (hld (fndS S).1 t i)) j 256)) ∧ ∀ j, j < (fndS S).2 k → m.1 173 j = nI (cN (hld (fndS S).1 k j) 256)
theorem fnd_some {S : St} (hok : okS S) {s : Nat} (hs : s < 2 ^ sN S) : ∃ o, (fndS S).1 s = some o ∧ o < (fndS S).2 (bc s) := by
  have h := fnd_oF hok
  cases e : (fndS S).1 s with
  | none => exact absurd e (h.2.1 s hs)
  | some o => exact ⟨o, rfl, (h.1 s o e).2⟩
theorem hld_eq {num : Nat → Option Nat} {k j s o : Nat} (h : num s = some o) (hk : bc s = k) : hld num k j s = decide (o = j) := by
  unfold hld
  rw [h, beq_iff_eq.mpr hk, Bool.and_true]
  by_cases e : o = j
  · subst e; simp
  · rw [decide_eq_false e, beq_eq_false_iff_ne.mpr (fun c => e (Option.some.inj c))]
theorem hld_ne {num : Nat → Option Nat} {k j s : Nat} (hk : bc s ≠ k) : hld num k j s = false := by
  unfold hld
  rw [beq_eq_false_iff_ne.mpr hk, Bool.and_false]
theorem m_tables {d sn t k : Nat} {S : St} {m : mm_Mem} {P : mm_Mem → Prop} (hS : rMs 83 86 S m) (hok : okS S) (ht : t ≤ sN S) (hk : k ≤ sN S) (hP : ∀ m', fz 99 173 m m' → rOm (sN S) (fndS S).1 (fndS S).2 m' → rTb S t k m' → P m') : mm_sp (d + 4) sn kX11_tables [.ref 82, .int (nI t), .int (nI k)] m (qV P) := by
  have h8 := hok.1.2
  have hp8 := p2_le h8
  have hp0 := Nat.two_pow_pos (sN S)
  have ht70 := fnd_70 hok (show t < 11 by omega)
  have hk70 := fnd_70 hok (show k < 11 by omega)
  refine v_X11_tables (m_finds hS hok ?_)
  intro m1 z1 hO
  have hS1 := fz_m83 hok z1 (by omega) hS
  refine lp_up (W := fun i => ∀ m2, fz 103 173 m1 m2 → (∀ i', i' < i → ∀ j, j < (fndS S).2 k → m2.1 (103 + i') j = nI (tbN (fndS S).1 k (ft (hld (fndS S).1 t i')) j 256)) → (0 < i → ∀ j, j < (fndS S).2 k → m2.1 173 j = nI (cN (hld (fndS S).1 k j) 256)) → mm_wp (d + 3) sn kX11_tables 6 [some (.ref 82), some (.int (nI t)), some (.int (nI k)), some (.int (nI i)), none, none] [] m2 (qV P)) (Nat.zero_le ((fndS S).2 t)) ?_ ?_ m1 fz.refl (fun i' hi' => by omega) (fun c => by omega)
  · intro m2 z2 g1 g2
    refine v_X11_tables_6 ?_
    have hat := amt_1 hok ht
    rw [e_vin (by omega) (by omega), e_cl (by omega), z2.i (by omega), hO.2 t ht]
    refine ⟨by omega, e_vT (Int32.le_refl _) (hP m2 ((z1.wide (by omega) (by omega)).trans (z2.wide (by omega) (by omega))) ⟨fun s hs => by rw [z2.i (by omega)]; exact hO.1 s hs, fun x hx => by rw [z2.i (by omega)]; exact hO.2 x hx⟩ ⟨g1, g2 (by omega)⟩)⟩
  · intro i _ hi ih m2 z2 g1 g2
    refine v_X11_tables_6 ?_
    have hO2 : rOm (sN S) (fndS S).1 (fndS S).2 m2 := ⟨fun s hs => by rw [z2.i (by omega)]; exact hO.1 s hs, fun x hx => by rw [z2.i (by omega)]; exact hO.2 x hx⟩
    rw [e_vin (by omega) (by omega), e_cl (by omega), hO2.2 t ht]
    refine ⟨by omega, e_vF (by rw [e_le (by omega) (by omega)]; omega) (m_least hok hO2 (by omega) hi (by omega) ?_)⟩
    obtain ⟨f1, _, _, _⟩ := ft_s (orb_has hok hi)
    generalize hx : ft (hld (fndS S).1 t i) = x at *
    refine lp_up (W := fun j => ∀ m3, fz 103 173 m1 m3 → (∀ a, a ≠ 103 + i → a ≠ 173 → m3.1 a = m2.1 a) → (∀ j', j' < j → m3.1 (103 + i) j' = nI 0 ∧ m3.1 173 j' = nI 0) → mm_wp (d + 3) sn kX11_tables 27 [some (.ref 82), some (.int (nI t)), some (.int (nI k)), some (.int (nI i)), some (.int (nI x)), some (.int (nI j))] [] m3 (qV P)) (Nat.zero_le ((fndS S).2 k)) ?_ ?_ m2 z2 (fun a _ _ => rfl) (fun j' hj' => by omega)
    · intro m3 z3 k1 k2
      refine v_X11_tables_27 ?_
      rw [e_vin (by omega) (by omega), e_cl (by omega), z3.i (by omega), hO.2 k hk]
      refine ⟨by omega, e_vT (Int32.le_refl _) ?_⟩
      refine lp_up (W := fun s => ∀ m4, fz 103 173 m1 m4 → (∀ a, a ≠ 103 + i → a ≠ 173 → m4.1 a = m2.1 a) → (∀ j, j < (fndS S).2 k → m4.1 (103 + i) j = nI (tbN (fndS S).1 k x j s) ∧ m4.1 173 j = nI (cN (hld (fndS S).1 k j) s)) → mm_wp (d + 3) sn kX11_tables 65 [some (.ref 82), some (.int (nI t)), some (.int (nI k)), some (.int (nI i)), some (.int (nI x)), some (.int (nI s))] [] m4 (qV P)) (Nat.zero_le (2 ^ sN S)) ?_ ?_ m3 z3 k1 k2
      · intro m4 z4 l1 l2
        refine v_X11_tables_65 (m_whole (by rw [z4.i (by omega)]; exact hS1.1.1) h8 (e_vT (by rw [e_lt (by omega) (by omega)]; omega) ?_))
        rw [e_add]
        refine ih m4 z4 (fun i' hi' j hj => ?_) (fun _ j hj => ?_)
        · by_cases e : i' = i
          · subst e
            rw [hx, (l2 j hj).1]
            exact congrArg nI (cN_tail hp8 (fun s h1 h2 => by rw [hld_tail hok s h1 h2, Bool.false_and])).symm
          · rw [l1 _ (by omega) (by omega)]
            exact g1 i' (by omega) j hj
        · rw [(l2 j hj).2]
          exact congrArg nI (cN_tail hp8 (hld_tail hok)).symm
      · intro s _ hs ihs m4 z4 l1 l2
        refine v_X11_tables_65 (m_whole (by rw [z4.i (by omega)]; exact hS1.1.1) h8 (e_vF (by rw [e_lt (by omega) (by omega)]; omega) (m_size (by omega) ?_)))
        have hbs := bc_le s
        rw [e_eq (by omega) (by omega), e_add]
        refine ⟨fun c => ?_, fun c => ?_⟩
        · refine ihs m4 z4 l1 (fun j hj => ?_)
          have e0 := hld_ne (num := (fndS S).1) (j := j) c
          rw [cN_f e0]
          unfold tbN
          rw [cN_f (by rw [e0, Bool.false_and])]
          exact l2 j hj
        · have c := Classical.not_not.mp c
          obtain ⟨o, ho, hoa⟩ := fnd_some hok hs
          rw [c] at hoa
          have e99 : m4.1 99 s = nI o := by
            rw [z4.i (by omega), hO.1 s hs, ho]; rfl
          have hsm := sm_le x s
          rw [e_vin (by omega) (by omega), e_cl (by omega), e99, e_vin (by omega) (by omega), e_cl (by omega), e_andn, e_eq0 (by omega), sm_0]
          refine ⟨by omega, by omega, by omega, fun m5 q5 => ⟨i, by omega, rfl, by omega, ?_⟩⟩
          have e995 : m5.1 99 s = nI o := by
            subst q5
            show mm_u2 m4.1 173 o (m4.1 173 o + nI 1) 99 s = _
            rw [u2_rj (by omega)]
            exact e99
          rw [e995, e_vin (by omega) (by omega), e_cl (by omega)]
          have hlj := fun j => hld_eq (k := k) (j := j) ho c
          have nxt : ∀ b : Bool, (s &&& x == x) = b → ∀ m6 : mm_Mem, m6 = (mm_u2 m5.1 (103 + i) o (m5.1 (103 + i) o + nI b.toNat), m5.2) → mm_wp (d + 3) sn kX11_tables 65 [some (.ref 82), some (.int (nI t)), some (.int (nI k)), some (.int (nI i)), some (.int (nI x)), some (.int (nI (s + 1)))] [] m6 (qV P) := by
            intro b eb m6 q6
            refine ihs m6 (z4.trans ?_) (fun a a1 a2 => ?_) (fun j hj => ⟨?_, ?_⟩)
            · subst q5; subst q6
              exact (fz_u2 (by omega) (by omega)).trans (fz_u2 (m := (_, _)) (by omega) (by omega))
            · subst q5; subst q6
              show mm_u2 (mm_u2 m4.1 173 o _) (103 + i) o _ a = _
              rw [u2_r a1, u2_r a2]
              exact l1 a a1 a2
            · subst q5; subst q6
              show mm_u2 (mm_u2 m4.1 173 o _) (103 + i) o (mm_u2 m4.1 173 o _ (103 + i) o + nI b.toNat) (103 + i) j = nI (cN (fun y => hld (fndS S).1 k j y && (y &&& x == x)) s + (hld (fndS S).1 k j s && (s &&& x == x)).toNat)
              rw [hlj, eb]
              by_cases e5 : j = o
              · subst e5
                rw [u2_s, u2_rj (by omega), (l2 j hj).1, e_add, decide_eq_true rfl, Bool.true_and]
                rfl
              · rw [u2_j e5, u2_rj (by omega), (l2 j hj).1, decide_eq_false (fun e => e5 e.symm), Bool.false_and]
                rfl
            · subst q5; subst q6
              show mm_u2 (mm_u2 m4.1 173 o _) (103 + i) o _ 173 j = nI (cN (hld (fndS S).1 k j) s + (hld (fndS S).1 k j s).toNat)
              rw [hlj, u2_rj (by omega)]
              by_cases e5 : j = o
              · subst e5
                rw [u2_s, (l2 j hj).2, e_add, decide_eq_true rfl]
                rfl
              · rw [u2_j e5, (l2 j hj).2, decide_eq_false (fun e => e5 e.symm)]
                rfl
          refine ⟨by omega, fun c2 => ⟨by omega, fun m6 q6 => nxt false ?_ m6 q6⟩, fun c2 => ⟨by omega, fun m6 q6 => nxt true ?_ m6 q6⟩⟩
          · rw [Nat.and_comm]; exact beq_eq_false_iff_ne.mpr c2
          · rw [Nat.and_comm]; exact beq_iff_eq.mpr (Classical.not_not.mp c2)
    · intro j _ hj ihj m3 z3 k1 k2
      refine v_X11_tables_27 ?_
      rw [e_vin (by omega) (by omega), e_cl (by omega), z3.i (by omega), hO.2 k hk]
      refine ⟨by omega, e_vF (by rw [e_le (by omega) (by omega)]; omega) ⟨i, by omega, rfl, ?_⟩⟩
      rw [e_vin (by omega) (by omega), e_cl (by omega), e_add]
      refine ⟨by omega, fun m4 q4 => ⟨by omega, fun m5 q5 => ihj m5 (z3.trans ?_) (fun a a1 a2 => ?_) (fun j' hj' => ?_)⟩⟩
      · subst q4; subst q5
        exact (fz_u2 (by omega) (by omega)).trans (fz_u2 (m := (_, _)) (by omega) (by omega))
      · subst q4; subst q5
        show mm_u2 (mm_u2 m3.1 (103 + i) j _) 173 j _ a = _
        rw [u2_r a2, u2_r a1]
        exact k1 a a1 a2
      · subst q4; subst q5
        show mm_u2 (mm_u2 m3.1 (103 + i) j (nI 0)) 173 j (nI 0) (103 + i) j' = nI 0 ∧ mm_u2 (mm_u2 m3.1 (103 + i) j (nI 0)) 173 j (nI 0) 173 j' = nI 0
        rw [u2_rj (by omega)]
        by_cases e5 : j' = j
        · subst e5; exact ⟨u2_s, u2_s⟩
        · rw [u2_j e5, u2_j e5, u2_rj (by omega)]
          exact k2 j' (by omega)
theorem mI_t {X : GS} {m m' : mm_Mem} (hX : okX X) (h : fz 99 173 m m') (hI : mI X m) : mI X m' := mI_sc hX (h.wide (by omega) (by omega)) hI
theorem m_table {d sn : Nat} {X : GS} {t k i j : Int32} {m : mm_Mem} {P : Int32 → mm_Mem → Prop} (hX : okX X) (hI : mI X m) (h : ∀ m', fz 82 211 m m' → mI X m' → P (A_table X.1 t k i j) m') : mm_sp (d + 5) sn kX11_table [.ref 82, .int t, .int k, .int i, .int j] m (qI P) := by
  refine v_X11_table ?_
  have hN := hX.1.1.2
  unfold A_table at h
  refine m_areSizes hI.1.1.1 hN (e_vb (fun e => ?_) (fun e => ?_))
  · obtain ⟨a, b, hab, hb, rfl, rfl⟩ := szs_t hN e
    rw [if_neg (by rw [e]; decide), e_cl (by omega), e_cl (by omega)] at h
    refine m_tables hI.1 hX.1 (by omega) hb ?_
    intro m1 z1 hO hT
    replace h := h m1 (z1.wide (by omega) (by omega)) (mI_t hX z1 hI)
    have ha2 := fnd_70 hX.1 (show a < 11 by omega)
    have hb2 := fnd_70 hX.1 (show b < 11 by omega)
    rw [e_vin (by omega) (by omega), e_vin (by omega) (by omega), e_cl (by omega), e_cl (by omega), hO.2 a (by omega)]
    refine ⟨by omega, s_in (e_pred (by omega)) (by omega) (e_vz (fun e2 => ?_) (fun e2 => ⟨by omega, ?_⟩))⟩
    · rw [if_pos e2] at h
      exact h
    rw [hO.2 b hb]
    refine s_in (e_pred (by omega)) (by omega) (e_vz (fun e3 => ?_) (fun e3 => ?_))
    · rw [if_neg (nz e2), if_pos e3] at h
      exact h
    · rw [if_neg (nz e2), if_neg (nz e3)] at h
      obtain ⟨i, hi, rfl⟩ := iz_t (by omega) e2
      obtain ⟨j, hj, rfl⟩ := iz_t (by omega) e3
      rw [e_cl (by omega), e_cl (by omega)] at h
      rw [e_vin (by omega) (by omega), e_cl (by omega)]
      exact ⟨i, by omega, rfl, by omega, by rw [hT.1 i hi j hj]; exact h⟩
  · rw [if_pos e] at h
    exact h m fz.refl hI
theorem chs_eq {num : Nat → Option Nat} {k c s o : Nat} (h : num s = some o) : chs num k c s = (decide (o < 31) && c.testBit o && bc s == k) := by
  unfold chs
  rw [h]
theorem chs_0 {num : Nat → Option Nat} {k c s : Nat} (h : num s = none) : chs num k c s = false := by
  unfold chs
  rw [h]
theorem fnd_none {S : St} (hok : okS S) {s : Nat} (hs : ¬ s < 2 ^ sN S) : (fndS S).1 s = none := by
  cases e : (fndS S).1 s with
  | none => rfl
  | some o => exact absurd ((fnd_oF hok).1 s o e).1 hs
theorem m_choose {d sn : Nat} {X : GS} {k c : Int32} {m : mm_Mem} {P : Int32 → mm_Mem → Prop} (hX : okX X) (hI : mI X m) (h : ∀ m', fz 83 211 m m' → mI (setS X (S_choose X.1 k c)) m' → P (A_choose X.1 k c) m') : mm_sp (d + 4) sn kX11_choose [.ref 82, .int k, .int c] m (qI P) := by
  refine v_X11_choose ?_
  have hN := hX.1.1.2
  have hp8 := p2_le hN
  have hp0 := Nat.two_pow_pos (sN X.1)
  unfold A_choose at h
  have bad : chk X.1 k c = false → P (-2) m := by
    intro e
    have e2 : S_choose X.1 k c = X.1 := by unfold S_choose; rw [if_neg (by rw [e]; decide)]
    rw [e2, if_neg (by rw [e]; decide)] at h
    exact h m fz.refl hI
  rw [e_l1, hI.1.1.1]
  refine s_inC (e_vb (fun e => ?_) (fun e => ?_))
  · obtain ⟨c1, c2⟩ := of_decide_eq_true e
    have eN : iz k (sN X.1 + 1) = true := by
      rw [iz_1 (by omega)]
      refine decide_eq_true ⟨fun c3 => c1 (Int32.lt_trans c3 (by decide)), Int32.not_lt.mpr c2⟩
    have eK : chk X.1 k c = true := by unfold chk; rw [eN, decide_eq_false c1]; rfl
    obtain ⟨k, hk, rfl⟩ := iz_t (by omega) eN
    refine m_finds hI.1 hX.1 ?_
    intro m1 z1 hO
    have hI1 := mI_f hX z1 hI
    have hk2 := fnd_70 hX.1 (show k < 11 by omega)
    rw [if_pos eK] at h
    have no : chc X.1 (nI k) c = false → P (-1) m1 := by
      intro e
      have e2 : S_choose X.1 (nI k) c = X.1 := by unfold S_choose; rw [if_pos eK, if_neg (by rw [e]; decide)]
      rw [e2, if_neg (by rw [e]; decide)] at h
      exact h m1 (z1.wide (by omega) (by omega)) hI1
    have body : chc X.1 (nI k) c = true → ∀ m3 : mm_Mem, m3 = (mm_u2 m1.1 83 42 (nI k), m1.2) → mm_wp (d + 3) sn kX11_choose 61 [some (.ref 82), some (.int (nI k)), some (.int c), some (.int (nI 0))] [] m3 (qI P) := by
      intro eC m3 q3
      have eC2 := eC
      unfold chc at eC2
      rw [Bool.and_eq_true, Bool.not_eq_true', decide_eq_false_iff_not] at eC2
      obtain ⟨e4, e5⟩ := nn_of (Int32.not_lt.mp eC2.1)
      have eS : S_choose X.1 (nI k) c = stB k (chs (fndS X.1).1 k c.toNatClampNeg) X.1 := by
        unfold S_choose
        rw [if_pos eK, if_pos eC, e_cl (by omega)]
      rw [if_pos eC, eS] at h
      generalize c.toNatClampNeg = b at *
      subst e4
      have u3 : ∀ x, m3.1 83 x = if x = 42 then nI k else m1.1 83 x := by
        intro x
        subst q3
        simp only [e_u2, true_and]
      have f3 : fr [83] m1 m3 := by subst q3; exact fr_u2 (by simp)
      clear q3
      refine lp_up (W := fun s => ∀ m4, fr [86] m3 m4 → rZ (m4.1 86) (chs (fndS X.1).1 k b) s → mm_wp (d + 3) sn kX11_choose 61 [some (.ref 82), some (.int (nI k)), some (.int (nI b)), some (.int (nI s))] [] m4 (qI P)) (Nat.zero_le 256) ?_ ?_ m3 fr.refl (fun s hs => by omega)
      · intro m4 f4 g4
        have f14 : fr [83, 86] m1 m4 := (f3.mono (by simp)).trans (f4.mono (by simp))
        have e83 : m4.1 83 = m3.1 83 := f4.i (by simp)
        refine v_X11_choose_61 (e_vT (by decide) (m_many shZ_86 g4 ?_))
        refine h m4 (fun a ha => ?_) (mI_S2 hX (fun a b1 b2 b3 => ?_) hI (rMs_B hX.1 hI.1 (fun x hx => ?_) ?_ g4 (fun a b1 b2 => ?_)))
        · have h1 := z1 a (by omega)
          have h2 := f14 a (by simp; omega)
          exact ⟨h2.1.trans h1.1, h2.2.trans h1.2⟩
        · have h1 := z1 a (by omega)
          have h2 := f14 a (by simp; omega)
          exact ⟨h2.1.trans h1.1, h2.2.trans h1.2⟩
        · rw [e83, u3, if_neg hx, z1.i (by omega)]
        · rw [e83, u3, if_pos rfl]
        · rw [f14.i (by simp; omega), z1.i (by omega)]
      · intro s _ hs ih m4 f4 g4
        have e83 : m4.1 83 0 = nI (sN X.1) := by rw [f4.i (by simp), u3, if_neg (by omega)]; exact hI1.1.1.1
        have e99 : m4.1 99 = m1.1 99 := by rw [f4.i (by simp), f3.i (by simp)]
        have nxt : ∀ v : Bool, chs (fndS X.1).1 k b s = v → ∀ m5 : mm_Mem, m5 = (mm_u2 m4.1 86 s (nI v.toNat), m4.2) → mm_wp (d + 3) sn kX11_choose 61 [some (.ref 82), some (.int (nI k)), some (.int (nI b)), some (.int (nI (s + 1)))] [] m5 (qI P) := by
          intro v ev m5 q5
          refine ih m5 (f4.trans (by subst q5; exact fr_u2 (by simp))) (fun t ht => ?_)
          subst q5
          simp only [e_u2, true_and]
          by_cases e : t = s
          · subst e; rw [if_pos rfl, ev]
          · rw [if_neg e]; exact g4 t (by omega)
        refine v_X11_choose_61 (e_vF (by rw [e_le (by omega) (by omega)]; omega) (m_whole e83 hN ?_))
        rw [e_lt (by omega) (by omega), e_vin (by omega) (by omega), e_cl (by omega), e_nar0, e_nar1, e_add]
        refine ⟨fun c5 => ⟨hs, fun m5 q5 => nxt false (chs_0 (fnd_none hX.1 (by omega))) m5 q5⟩, fun c5 => m_size hs ?_⟩
        obtain ⟨o, ho, hoa⟩ := fnd_some hX.1 (show s < 2 ^ sN X.1 by omega)
        have hbs := bc_le s
        have ho2 := (fnd_lt hX.1 ho).1
        have hce := chs_eq (k := k) (c := b) ho
        have hl : (b >>> o) &&& 1 ≤ 1 := Nat.and_le_right
        rw [e99, hO.1 s (by omega), ho, oI_s, e_eq (by omega) (by omega), e_le (by omega) (by omega)]
        refine ⟨fun c6 => ⟨hs, fun m5 q5 => nxt false (by rw [hce, beq_eq_false_iff_ne.mpr c6, Bool.and_false]) m5 q5⟩, fun c6 => ⟨hs, fun c7 => ⟨hs, fun m5 q5 => nxt false (by rw [hce, decide_eq_false (by omega)]; rfl) m5 q5⟩, fun c7 => ⟨hs, ?_⟩⟩⟩
        rw [e_shr (by omega) (by omega), e_and, e_eq (by omega) (by omega), e_bit]
        refine ⟨fun c8 => ⟨hs, fun m5 q5 => nxt false (by rw [hce, Bool.not_eq_true _ |>.mp c8, Bool.and_false, Bool.false_and]) m5 q5⟩, fun c8 => ⟨hs, fun m5 q5 => nxt true ?_ m5 q5⟩⟩
        rw [hce, decide_eq_true (by omega), Classical.not_not.mp c8, beq_iff_eq.mpr (Classical.not_not.mp c6)]
        rfl
    rw [e_vin (by omega) (by omega), e_cl (by omega), hO.2 k (by omega), e_le (by omega) (by omega)]
    have ec : chc X.1 (nI k) c = (!decide (c < 0) && !(decide ((fndS X.1).2 k < 31) && !(mm_shr c (nI ((fndS X.1).2 k)) == 0))) := by
      unfold chc hb
      rw [e_cl (by omega)]
    refine ⟨fun c3 => no ?_, fun c3 => ⟨by omega, fun c4 => body ?_, fun c4 => ⟨by omega, fun c5 => body ?_, fun c5 => no ?_⟩⟩⟩
    · rw [ec, decide_eq_true c3]; rfl
    · rw [ec, decide_eq_false c3, decide_eq_false (by omega)]; rfl
    · rw [ec, decide_eq_false c3, beq_iff_eq.mpr c5, Bool.not_true, Bool.and_false]; rfl
    · rw [ec, decide_eq_false c3, decide_eq_true (by omega), beq_eq_false_iff_ne.mpr c5]; rfl
  · refine bad ?_
    have e := of_decide_eq_false e
    unfold chk
    cases ez : iz k (sN X.1 + 1) with
    | false => rfl
    | true =>
      rw [iz_1 (by omega)] at ez
      have ez := of_decide_eq_true ez
      by_cases c1 : k < nI 1
      · rw [decide_eq_true c1]; rfl
      · exact absurd ⟨c1, Int32.not_lt.mp ez.2⟩ e
