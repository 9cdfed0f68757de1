-- the class's unlike
def eOk (st : NS) : Prop := ∀ i, i < 24 → i < st.1 → ∃ c, c < 16384 ∧ st.2.2 i = nI c
theorem ntI_eOk {ok : Nat → Bool} {w : Int32} {ch : Nat} {st : NS} (hc : ch < 16384) (h : eOk st) : eOk (ntI ok w ch st) := by
  unfold ntI
  split
  · intro i h24 hi
    have hi : i < st.1 + 1 := hi
    show ∃ c, c < 16384 ∧ (if st.1 < 24 then ud st.2.2 st.1 (nI ch) else st.2.2) i = nI c
    by_cases e : i = st.1
    · subst e
      exact ⟨ch, hc, by rw [if_pos h24, ud_s]⟩
    · obtain ⟨c, h1, h2⟩ := h i h24 (by omega)
      refine ⟨c, h1, ?_⟩
      split
      · rw [ud_n e]; exact h2
      · exact h2
  · exact h
theorem viI_eOk {ok : Nat → Bool} {w : Int32} : ∀ (c ch : Nat) (st : NS), c ≤ 14 → ch < 2 ^ 14 → eOk st → eOk (viI ok w c ch st)
  | 0, ch, st, _, h, e => ntI_eOk h e
  | c + 1, ch, st, hc, h, e => viI_eOk c _ _ (by omega) (Nat.or_lt_two_pow h (shl_lt (by omega))) (viI_eOk c _ _ (by omega) h e)
def ear (st : NS) (i : Nat) : Nat := (st.2.2 i).toNatClampNeg
theorem eOk_ear {st : NS} (h : eOk st) {i : Nat} (h1 : i < 24) (h2 : i < st.1) : ear st i < 16384 ∧ st.2.2 i = nI (ear st i) := by
  obtain ⟨c, hc, e⟩ := h i h1 h2
  unfold ear
  rw [e, e_cl (by omega)]
  exact ⟨hc, rfl⟩
/-- whether the i-th solution is like none before it -/
def newB (num : Nat → Option Nat) (k n : Nat) (st : NS) (i : Nat) : Bool := alN (fun e => !cpN (chs num k (ear st i)) (chs num k (ear st e)) n n idL 0 0) i
theorem s_early {d sn i : Nat} {w : Int32} {st : NS} {m : mm_Mem} {P : Int32 → mm_Mem → Prop} (hT : rNt w st m) (hE : eOk st) (h1 : i < 24) (h2 : i < st.1) (h : P (nI (ear st i)) m) : mm_sp (d + 1) sn kX1_earlySolution [.ref 66, .int (nI i)] m (qI P) := by
  refine v_X1_earlySolution ?_
  refine e_vF (by rw [e_lt0 (by omega)]; exact id) (e_vF (by rw [e_le (by omega) (by omega)]; omega) ?_)
  rw [e_vin (by omega) (by omega), e_cl (by omega), hT.2.2.2 i h1 h2, (eOk_ear hE h1 h2).2]
  exact ⟨h1, h⟩
theorem s_isLike {d sn k i : Nat} {X : GS} {w : Int32} {st : NS} {m : mm_Mem} {P : Int32 → mm_Mem → Prop} (hX : okX X) (hI : cI X m) (hO : rO (fndS X.1).1 (fndS X.1).2 m) (hk : k < 9) (hT : rNt w st m) (hE : eOk st) (h1 : i < 24) (h2 : i < st.1) (h : ∀ m', fz 73 81 m m' → P (nI (!newB (fndS X.1).1 k (sN X.1) st i).toNat) m') : mm_sp (d + 14) sn kX10_isLikeAnEarlierSolution [.ref 1, .int (nI k), .int (nI i)] m (qI P) := by
  have hS := fnd_oS hX.1
  have hN := hX.1.1.2
  refine v_X10_isLikeAnEarlierSolution ?_
  refine mm_sp.up (s_early (d := 0) hT hE h1 h2 ?_) (by omega)
  have hc := (eOk_ear hE h1 h2).1
  refine mm_sp.up (s_becomeChoice (d := 0) shB_78 (by omega) hO hS hk (by omega) ?_) (by omega)
  intro m1 f1 hB1
  have z1 : fz 73 81 m m1 := f1.z2 (by omega) (by omega)
  refine lp_up (W := fun e => ∀ m2, fz 73 81 m m2 → rB 78 k (chs (fndS X.1).1 k (ear st i)) m2 → (∀ x, x < e → (!cpN (chs (fndS X.1).1 k (ear st i)) (chs (fndS X.1).1 k (ear st x)) (sN X.1) (sN X.1) idL 0 0) = true) → mm_wp (d + 13) sn kX10_isLikeAnEarlierSolution 22 [some (.ref 1), some (.int (nI k)), some (.int (nI i)), some (.int (nI e))] [] m2 (qI P)) (Nat.zero_le i) ?_ ?_ m1 z1 hB1 (fun x hx => by omega)
  · intro m2 g0 _ g2
    refine v_X10_isLikeAnEarlierSolution_22 (e_vT (by rw [e_le (by omega) (by omega)]; omega) ?_)
    have := h m2 g0
    rw [show newB (fndS X.1).1 k (sN X.1) st i = true from alN_t g2] at this
    exact this
  · intro e _ he ih m2 g0 g1 g2
    refine v_X10_isLikeAnEarlierSolution_22 (e_vF (by rw [e_le (by omega) (by omega)]; omega) ?_)
    have hT2 : rNt w st m2 := by
      unfold rNt
      rw [g0.i (by omega), g0.i (by omega)]
      exact hT
    have hO2 : rO (fndS X.1).1 (fndS X.1).2 m2 := by
      unfold rO
      rw [g0.i (by omega), g0.i (by omega)]
      exact hO
    have hce := (eOk_ear hE (show e < 24 by omega) (show e < st.1 by omega)).1
    refine mm_sp.up (s_early (d := 0) hT2 hE (show e < 24 by omega) (show e < st.1 by omega) ?_) (by omega)
    refine mm_sp.up (s_becomeChoice (d := 0) shB_80 (by omega) hO2 hS hk (by omega) ?_) (by omega)
    intro m3 f3 hB3
    have z3 : fz 73 81 m m3 := g0.trans (f3.z2 (by omega) (by omega))
    have b3 : rB 78 k (chs (fndS X.1).1 k (ear st i)) m3 := fr_rB f3 (by simp) (by simp) g1
    rw [(fz_cI hX z3 (by omega) hI).1.1]
    refine mm_sp.up (s_areAlike (d := 0) shB_78 shB_80 (by omega) hN b3.2.2 hB3.2.2 ?_) (by omega)
    intro m4 z4
    rw [e_add]
    refine e_vz (fun e5 => ih m4 (z3.trans (z4.wide (by omega) (by omega))) (fz_rB z4 (by omega) b3) (fun x hx => ?_)) (fun e5 => ?_)
    · by_cases e6 : x = e
      · subst e6; rw [e5]; rfl
      · exact g2 x (by omega)
    · have := h m4 (z3.trans (z4.wide (by omega) (by omega)))
      rw [show newB (fndS X.1).1 k (sN X.1) st i = false from alN_f (p := fun e => !cpN (chs (fndS X.1).1 k (ear st i)) (chs (fndS X.1).1 k (ear st e)) (sN X.1) (sN X.1) idL 0 0) (s := e) (by rw [e5]; rfl) he] at this
      exact this
noncomputable def A_unlike (S : St) (t k a : Int32) : Int32 := if szs S t k = false then -2 else if imB a = false then -2 else if 6 < sN S then -3 else if ¬ (fndS S).2 k.toNatClampNeg ≤ 14 then -3 else if 24 < (solS S t.toNatClampNeg k.toNatClampNeg a.toNatClampNeg (nI 0)).1 then -3 else nI (cN (newB (fndS S).1 k.toNatClampNeg (sN S) (solS S t.toNatClampNeg k.toNatClampNeg a.toNatClampNeg (nI 0))) (solS S t.toNatClampNeg k.toNatClampNeg a.toNatClampNeg (nI 0)).1)
theorem c_unlike {d sn : Nat} {X : GS} {t k a : Int32} {m : mm_Mem} {P : Int32 → mm_Mem → Prop} (hX : okX X) (hI : cI X m) (h : ∀ m', fz 1 81 m m' → cI X m' → P (A_unlike X.1 t k a) m') : mm_sp (d + 21) sn kX10_unlike [.ref 1, .int t, .int k, .int a] m (qI P) := by
  refine v_X10_unlike ?_
  have hN := hX.1.1.2
  unfold A_unlike at h
  refine s_areSizes hI.1 hN (e_vz (fun e => ?_) (fun e => ?_))
  · rw [if_pos e] at h
    exact h m fz.refl hI
  · have n1 : ¬ szs X.1 t k = false := by rw [e]; decide
    rw [if_neg n1] at h
    refine s_isAim (e_vb (fun e2 => ?_) (fun e2 => ?_))
    · have n2 : ¬ imB a = false := by rw [e2]; decide
      rw [if_neg n2] at h
      rw [hI.1.1, e_lt (by omega) (by omega)]
      refine ⟨fun c => ?_, fun c => ?_⟩
      · rw [if_pos c] at h
        exact h m fz.refl hI
      · rw [if_neg c] at h
        obtain ⟨t, k, htk, hk, rfl, rfl⟩ := szs_t hN e
        obtain ⟨a, ha1, ha2, rfl⟩ := imB_t e2
        rw [e_cl (by omega), e_cl (by omega), e_cl (by omega)] at h
        refine mm_sp.up (s_loadChoices (d := 0) hX hI ⟨by omega, hk⟩ (fun hc m1 hz hI1 hO1 hCm => ?_) (fun hc m1 hz hI1 => ?_)) (by omega)
        · rw [if_neg (Classical.not_not.mpr hc)] at h
          refine e_vT (by decide) ?_
          refine mm_sp.up (s_solve (d := 0) (w := nI 0) (fnd_70 hX.1 (by omega)) ⟨amt_1 hX.1 hk, hc⟩ tA_8 (by omega) (rC_rA hc hCm) ?_) (by omega)
          intro m2 hz2 _ _ hT
          have hT : rNt (nI 0) (solS X.1 t k a (nI 0)) m2 := hT
          have hE : eOk (solS X.1 t k a (nI 0)) := viI_eOk _ _ _ hc (by decide) (fun i _ hi => absurd hi (Nat.not_lt_zero i))
          have hcnt : (solS X.1 t k a (nI 0)).1 ≤ 0 + 2 ^ (fndS X.1).2 k := viI_cnt _ _ _
          have hp : (2 : Nat) ^ (fndS X.1).2 k ≤ 2 ^ 14 := Nat.pow_le_pow_right (by decide) hc
          have hp : (2 : Nat) ^ (fndS X.1).2 k ≤ 16384 := hp
          have hI2 := fz_cI hX hz2 (by omega) hI1
          have hO2 : rO (fndS X.1).1 (fndS X.1).2 m2 := by
            unfold rO
            rw [hz2.i (by omega), hz2.i (by omega)]
            exact hO1
          have z2 : fz 1 81 m m2 := (hz.wide (by omega) (by omega)).trans (hz2.wide (by omega) (by omega))
          generalize solS X.1 t k a (nI 0) = st at h hT hE hcnt
          rw [hT.2.1, e_le (by omega) (by omega)]
          refine ⟨fun c3 => ?_, fun c3 => ?_⟩
          · rw [if_neg (by omega)] at h
            refine lp_up (W := fun i => ∀ m3, fz 73 81 m2 m3 → mm_wp (d + 20) sn kX10_unlike 73 [some (.ref 1), none, some (.int (nI k)), none, some (.int (nI (cN (newB (fndS X.1).1 k (sN X.1) st) i))), some (.int (nI i))] [] m3 (qI P)) (Nat.zero_le st.1) ?_ ?_ m2 fz.refl
            · intro m3 g0
              refine v_X10_unlike_73 ?_
              rw [g0.i (by omega), hT.2.1]
              exact e_vT (by rw [e_le (by omega) (by omega)]; omega) (h m3 (z2.trans (g0.wide (by omega) (by omega))) (fz_cI hX g0 (by omega) hI2))
            · intro i _ hi ih m3 g0
              refine v_X10_unlike_73 ?_
              rw [g0.i (by omega), hT.2.1]
              refine e_vF (by rw [e_le (by omega) (by omega)]; omega) ?_
              have hT3 : rNt (nI 0) st m3 := by
                unfold rNt
                rw [g0.i (by omega), g0.i (by omega)]
                exact hT
              have hO3 : rO (fndS X.1).1 (fndS X.1).2 m3 := by
                unfold rO
                rw [g0.i (by omega), g0.i (by omega)]
                exact hO2
              refine mm_sp.up (s_isLike (d := 0) hX (fz_cI hX g0 (by omega) hI2) hO3 (by omega) hT3 hE (by omega) hi ?_) (by omega)
              intro m4 g4
              have := ih m4 (g0.trans g4)
              rw [e_add, e_add]
              refine e_vb (fun e5 => ?_) (fun e5 => ?_)
              · rw [cN_f (by simpa using e5)] at this
                exact this
              · rw [cN_t (by simpa using e5)] at this
                exact this
          · rw [if_pos (by omega)] at h
            exact h m2 z2 hI2
        · rw [if_pos hc] at h
          exact e_vF (by decide) (h m1 (hz.wide (by omega) (by omega)) hI1)
    · rw [if_pos e2] at h
      exact h m fz.refl hI
