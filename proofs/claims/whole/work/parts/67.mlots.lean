-- THE MODEL: lots
def ltJ (num : Nat → Option Nat) (k : Nat) (z : Int32) (j : Nat) : Nat → Bool := fun s => match num s with
  | none => false
  | some o => decide (o < j) && (chb z o && bc s == k)
theorem ltJ_0 {num : Nat → Option Nat} {k j s : Nat} {z : Int32} (h : num s = none) : ltJ num k z j s = false := by
  unfold ltJ
  rw [h]
theorem ltJ_s {num : Nat → Option Nat} {k j s o : Nat} {z : Int32} (h : num s = some o) : ltJ num k z j s = (decide (o < j) && (chb z o && bc s == k)) := by
  unfold ltJ
  rw [h]
theorem e_orb {a b : Bool} : nI a.toNat ||| nI b.toNat = nI (a || b).toNat := by
  cases a <;> cases b <;> decide
theorem e_l20 : lN 20 = (nI 20).toInt64 := by decide
theorem m_lots {d sn : Nat} {X : GS} {k t z w : Int32} {m : mm_Mem} {P : Int32 → mm_Mem → Prop} (hX : okX X) (hI : mI X m) (h : ∀ m', fz 82 211 m m' → mI X m' → P (A_lots X.1 k t z w) m') : mm_sp (d + 4) sn kX11_lots [.ref 82, .int k, .int t, .int z, .int w] m (qI P) := by
  refine v_X11_lots ?_
  have hN := hX.1.1
  have hp8 := p2_le hN.2
  have hp0 := Nat.two_pow_pos (sN X.1)
  unfold A_lots at h
  refine m_isSize hI.1.1.1 hN.2 (e_vz (fun e => ?_) (fun e => ?_))
  · rw [if_pos e] at h
    exact h m fz.refl hI
  · rw [if_neg (by rw [e]; decide)] at h
    rw [e_l1, e_l20]
    refine s_inC (e_vb (fun e2 => ?_) (fun e2 => ?_))
    · obtain ⟨t1, t2⟩ := of_decide_eq_true e2
      rw [if_neg (fun hh => hh.elim t1 (fun hh => hh t2))] at h
      refine s_in (n := 2) (by decide) (by omega) (e_vb (fun e3 => ?_) (fun e3 => ?_))
      · rw [if_neg (by rw [e3]; decide)] at h
        obtain ⟨k, hk, rfl⟩ := iz_t (by omega) e
        have e4 : iz t 21 = true := by
          rw [iz_1 (n := 20) (by omega)]
          refine decide_eq_true ⟨fun hh => t1 ?_, Int32.not_lt.mpr t2⟩
          have : (0 : Int32) < nI 1 := by decide
          exact Int32.lt_trans hh this
        obtain ⟨t, ht, rfl⟩ := iz_t (n := 21) (by omega) e4
        obtain ⟨w, hw, rfl⟩ := iz_t (n := 2) (by omega) e3
        rw [e_cl (by omega), e_cl (by omega)] at h
        refine m_finds hI.1 hX.1 ?_
        intro m1 z1 hO
        have hI1 := mI_f hX z1 hI
        have hk2 := fnd_70 hX.1 (show k < 11 by omega)
        have ew0 : (nI w = 0) = (nI w = nI 0) := by rw [nI_0]
        generalize hpl : plN (fndS X.1).1 ((fndS X.1).2 k) k (sN X.1) z = pl at h
        have pl_s : ∀ i, pl (i + 1) = (sdn (pl i).1 ((fndS X.1).2 k), (pl i).2.1 + (evn (ltC (fndS X.1).1 k (pl i).1) (sN X.1)).toNat, (pl i).2.2 + cN (ltC (fndS X.1).1 k (pl i).1) 256) := fun i => by rw [← hpl]; rfl
        have pl_0 : pl 0 = (z, 0, 0) := by rw [← hpl]; rfl
        have W0 := lp_up (W := fun i => ∀ m2, fz 174 174 m1 m2 → mm_wp (d + 3) sn kX11_lots 52 [some (.ref 82), some (.int (nI k)), some (.int (nI t)), none, some (.int (nI w)), some (.int (pl i).1), some (.int (nI (pl i).2.1)), some (.int (nI (pl i).2.2)), some (.int (nI i)), none, none, none] [] m2 (qI P)) (Nat.zero_le t) ?_ ?_ m1 fz.refl
        · rw [pl_0] at W0
          exact W0
        · intro m2 z2
          replace h := h m2 ((z1.wide (by omega) (by omega)).trans (z2.wide (by omega) (by omega))) (mI_sc hX (z2.wide (by omega) (by omega)) hI1)
          refine v_X11_lots_52 (e_vT (Int32.le_refl _) ?_)
          rw [ew0]
          refine ⟨fun c => ?_, fun c => ?_⟩
          · rw [if_neg c] at h; exact h
          · rw [if_pos (Classical.not_not.mp c)] at h; exact h
        · intro i _ hi ih m2 z2
          refine v_X11_lots_52 (e_vF (by rw [e_le (by omega) (by omega)]; omega) ?_)
          have e9 := pl_s i
          rw [e9] at ih
          generalize hy : (pl i).1 = y at *
          refine lp_up (W := fun s => ∀ m3, fz 174 174 m1 m3 → (∀ x, x < s → m3.1 174 x = nI 0) → mm_wp (d + 3) sn kX11_lots 61 [some (.ref 82), some (.int (nI k)), some (.int (nI t)), none, some (.int (nI w)), some (.int y), some (.int (nI (pl i).2.1)), some (.int (nI (pl i).2.2)), some (.int (nI i)), some (.int (nI s)), none, none] [] m3 (qI P)) (Nat.zero_le 256) ?_ ?_ m2 z2 (fun x hx => by omega)
          · intro m3 z3 g3
            refine v_X11_lots_61 (e_vT (by decide) ?_)
            refine lp_up (W := fun j => ∀ m4, fz 174 174 m1 m4 → rZ (m4.1 174) (ltJ (fndS X.1).1 k y j) 256 → mm_wp (d + 3) sn kX11_lots 86 [some (.ref 82), some (.int (nI k)), some (.int (nI t)), none, some (.int (nI w)), some (.int (sdn y j)), some (.int (nI (pl i).2.1)), some (.int (nI (pl i).2.2)), some (.int (nI i)), some (.int (nI j)), none, none] [] m4 (qI P)) (Nat.zero_le ((fndS X.1).2 k)) ?_ ?_ m3 z3 (fun s hs => ?_)
            · intro m4 z4 g4
              have e83 : m4.1 83 0 = nI (sN X.1) := by rw [z4.i (by omega)]; exact hI1.1.1.1
              refine v_X11_lots_86 ?_
              rw [e_vin (by omega) (by omega), e_cl (by omega), z4.i (by omega), hO.2 k (by omega)]
              have g5 : rZ (m4.1 174) (ltC (fndS X.1).1 k y) 256 := by
                intro s hs
                rw [g4 s hs]
                congr 2
                unfold ltJ ltC
                cases e5 : (fndS X.1).1 s with
                | none => rfl
                | some o =>
                  have ho := ((fnd_oF hX.1).1 s o e5).2
                  show (decide (o < (fndS X.1).2 k) && (chb y o && bc s == k)) = (chb y o && bc s == k)
                  by_cases e6 : bc s = k
                  · rw [e6] at ho
                    rw [decide_eq_true ho, Bool.true_and]
                  · rw [beq_eq_false_iff_ne.mpr e6, Bool.and_false, Bool.and_false]
              refine ⟨by omega, e_vT (Int32.le_refl _) (m_whole e83 hN.2 (m_shareOf shZ_174 g5 (by omega) (shm_wx hN.2 (by omega)) ?_))⟩
              have hev : evn (ltC (fndS X.1).1 k y) (sN X.1) = !(shV (ltC (fndS X.1).1 k y) (2 ^ sN X.1 - 1) 1 == -5) := rfl
              rw [shV_lt0]
              have ih := ih m4 z4
              refine ⟨fun c => m_many shZ_174 g5 ?_, fun c => m_many shZ_174 g5 ?_⟩
              · rw [hev, beq_iff_eq.mpr c] at ih
                rw [e_add, e_add, e_add]
                exact ih
              · rw [hev, beq_eq_false_iff_ne.mpr c] at ih
                rw [e_add, e_add, e_add]
                exact ih
            · intro j _ hj ihj m4 z4 g4
              have esd : sdn y (j + 1) = sdn y j * nI 1103515245 + nI 12345 := rfl
              have ech : (mm_rem ((((sdn y j * (nI 1103515245)) + (nI 12345)) &&& (nI 2147483647)) / (nI 65536)) (nI 2) = nI 1) = (chb y j = true) := by
                unfold chb
                rw [esd, beq_iff_eq]
              rw [esd] at ihj
              refine v_X11_lots_86 ?_
              rw [e_vin (by omega) (by omega), e_cl (by omega), z4.i (by omega), hO.2 k (by omega), ech]
              refine ⟨by omega, e_vF (by rw [e_le (by omega) (by omega)]; omega) ?_⟩
              have body : ∀ b : Bool, chb y j = b → mm_wp (d + 3) sn kX11_lots 132 [some (.ref 82), some (.int (nI k)), some (.int (nI t)), none, some (.int (nI w)), some (.int ((sdn y j * (nI 1103515245)) + (nI 12345))), some (.int (nI (pl i).2.1)), some (.int (nI (pl i).2.2)), some (.int (nI i)), some (.int (nI j)), some (.int (nI b.toNat)), some (.int (nI 0))] [] m4 (qI P) := by
                intro b eb
                refine lp_up (W := fun s => ∀ m5, fz 174 174 m1 m5 → (∀ x, x < 256 → m5.1 174 x = nI (if x < s then ltJ (fndS X.1).1 k y (j + 1) x else ltJ (fndS X.1).1 k y j x).toNat) → mm_wp (d + 3) sn kX11_lots 132 [some (.ref 82), some (.int (nI k)), some (.int (nI t)), none, some (.int (nI w)), some (.int ((sdn y j * (nI 1103515245)) + (nI 12345))), some (.int (nI (pl i).2.1)), some (.int (nI (pl i).2.2)), some (.int (nI i)), some (.int (nI j)), some (.int (nI b.toNat)), some (.int (nI s))] [] m5 (qI P)) (Nat.zero_le (2 ^ sN X.1)) ?_ ?_ m4 z4 (fun x hx => by rw [if_neg (by omega)]; exact g4 x hx)
                · intro m5 z5 g5
                  have e83 : m5.1 83 0 = nI (sN X.1) := by rw [z5.i (by omega)]; exact hI1.1.1.1
                  refine v_X11_lots_132 (m_whole e83 hN.2 (e_vT (by rw [e_lt (by omega) (by omega)]; omega) ?_))
                  rw [e_add]
                  refine ihj m5 z5 (fun x hx => ?_)
                  rw [g5 x hx]
                  by_cases e5 : x < 2 ^ sN X.1
                  · rw [if_pos e5]
                  · rw [if_neg e5, ltJ_0 (fnd_none hX.1 e5), ltJ_0 (fnd_none hX.1 e5)]
                · intro s _ hs ihs m5 z5 g5
                  have e83 : m5.1 83 0 = nI (sN X.1) := by rw [z5.i (by omega)]; exact hI1.1.1.1
                  have hO5 : rOm (sN X.1) (fndS X.1).1 (fndS X.1).2 m5 := ⟨fun s hs => by rw [z5.i (by omega)]; exact hO.1 s hs, fun x hx => by rw [z5.i (by omega)]; exact hO.2 x hx⟩
                  obtain ⟨o, ho, hoa⟩ := fnd_some hX.1 hs
                  have hs5 := g5 s (by omega)
                  rw [if_neg (by omega)] at hs5
                  have nxt : ∀ c : Bool, (ltJ (fndS X.1).1 k y j s || c) = ltJ (fndS X.1).1 k y (j + 1) s → ∀ m6 : mm_Mem, m6 = (mm_u2 m5.1 174 s (vp_nar .boolean ((m5.1 174 s) ||| (nI c.toNat))), m5.2) → mm_wp (d + 3) sn kX11_lots 132 [some (.ref 82), some (.int (nI k)), some (.int (nI t)), none, some (.int (nI w)), some (.int ((sdn y j * (nI 1103515245)) + (nI 12345))), some (.int (nI (pl i).2.1)), some (.int (nI (pl i).2.2)), some (.int (nI i)), some (.int (nI j)), some (.int (nI b.toNat)), some (.int (nI (s + 1)))] [] m6 (qI P) := by
                    intro c ec m6 q6
                    rw [hs5, e_orb, e_nar, ec] at q6
                    refine ihs m6 (z5.trans (by subst q6; exact fz_u2 (by omega) (by omega))) (fun x hx => ?_)
                    subst q6
                    simp only [e_u2, true_and]
                    by_cases e5 : x = s
                    · subst e5; rw [if_pos rfl, if_pos (by omega)]
                    · rw [if_neg e5, g5 x hx]
                      by_cases e6 : x < s
                      · rw [if_pos e6, if_pos (by omega)]
                      · rw [if_neg e6, if_neg (by omega)]
                  refine v_X11_lots_132 (m_whole e83 hN.2 (e_vF (by rw [e_lt (by omega) (by omega)]; omega) ?_))
                  rw [e_vin (by omega) (by omega), e_cl (by omega), e_add]
                  have el1 := ltJ_s (k := k) (z := y) (j := j) ho
                  have el2 := ltJ_s (k := k) (z := y) (j := j + 1) ho
                  refine ⟨by omega, e_vz (fun e5 => ⟨by omega, fun m6 q6 => nxt false ?_ m6 q6⟩) (fun e5 => m_isIn hX.1 hO5 hs (by omega) (by omega) (e_vz (fun e6 => ⟨by omega, fun m6 q6 => nxt false ?_ m6 q6⟩) (fun e6 => ⟨by omega, fun m6 q6 => nxt true ?_ m6 q6⟩)))⟩
                  · rw [el1, el2, Bool.or_false]
                    by_cases e7 : o = j
                    · subst e7
                      rw [eb, e5, Bool.false_and, Bool.and_false, Bool.and_false]
                    · by_cases e8 : o < j
                      · rw [decide_eq_true e8, decide_eq_true (by omega)]
                      · rw [decide_eq_false e8, decide_eq_false (by omega)]
                  · rw [el1, el2, Bool.or_false]
                    by_cases e7 : o = j
                    · subst e7
                      have e9 : (bc s == k) = false := by
                        unfold hld at e6
                        rw [ho, beq_self_eq_true, Bool.true_and] at e6
                        exact e6
                      rw [e9, Bool.and_false, Bool.and_false, Bool.and_false]
                    · by_cases e8 : o < j
                      · rw [decide_eq_true e8, decide_eq_true (by omega)]
                      · rw [decide_eq_false e8, decide_eq_false (by omega)]
                  · unfold hld at e6
                    rw [Bool.and_eq_true, beq_iff_eq, ho] at e6
                    have e7 := Option.some.inj e6.1
                    subst e7
                    rw [el2, decide_eq_true (by omega), eb, e5, e6.2, Bool.or_true]
                    rfl
              refine ⟨fun c => body false (by simpa using c), fun c => body true (Classical.not_not.mp c)⟩
            · rw [g3 s hs]
              unfold ltJ
              cases (fndS X.1).1 s <;> rfl
          · intro s _ hs ihs m3 z3 g3
            refine v_X11_lots_61 (e_vF (by rw [e_le (by omega) (by omega)]; omega) ?_)
            rw [e_vin (by omega) (by omega), e_cl (by omega), e_nar0, e_add]
            refine ⟨hs, fun m4 q4 => ihs m4 (z3.trans (by subst q4; exact fz_u2 (by omega) (by omega))) (fun x hx => ?_)⟩
            subst q4
            simp only [e_u2, true_and]
            by_cases e5 : x = s
            · rw [if_pos e5]
            · rw [if_neg e5]; exact g3 x (by omega)
      · rw [if_pos e3] at h
        exact h m fz.refl hI
    · have e2 := of_decide_eq_false e2
      have n2 : t < nI 1 ∨ ¬ t ≤ nI 20 := by
        by_cases c : t < nI 1
        · exact Or.inl c
        · exact Or.inr (fun c2 => e2 ⟨c, c2⟩)
      rw [if_pos n2] at h
      exact h m fz.refl hI
