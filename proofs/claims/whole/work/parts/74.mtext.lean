-- THE MODEL: here, hasClause
/-- only the places of the reader's own in the model's object -/
def fx (m m' : mm_Mem) : Prop := (∀ a, a ≠ 82 → m'.1 a = m.1 a) ∧ m'.2 = m.2 ∧ ∀ x, x < 17 → m'.1 82 x = m.1 82 x
theorem fx.refl {m : mm_Mem} : fx m m := ⟨fun _ _ => rfl, rfl, fun _ _ => rfl⟩
theorem fx.trans {m1 m2 m3 : mm_Mem} (h : fx m1 m2) (g : fx m2 m3) : fx m1 m3 := ⟨fun a ha => (g.1 a ha).trans (h.1 a ha), g.2.1.trans h.2.1, fun x hx => (g.2.2 x hx).trans (h.2.2 x hx)⟩
theorem fx_u2 {m : mm_Mem} {k : Nat} {v : Int32} (h : 17 ≤ k) : fx m (mm_u2 m.1 82 k v, m.2) := ⟨fun a ha => u2_r ha, rfl, fun x hx => u2_j (by omega)⟩
theorem fx.z {m m' : mm_Mem} (h : fx m m') : fz 82 211 m m' := fun a ha => ⟨h.1 a (by omega), by rw [h.2.1]⟩
theorem mI_fx {X : GS} {m m' : mm_Mem} (h : fx m m') (hI : mI X m) : mI X m' := by
  obtain ⟨g1, g2, g3, g4, g5⟩ := hI
  have hr : ∀ g z S, g < 82 ∨ 82 < g → 82 < z → rMs g z S m → rMs g z S m' := by
    intro g z S hg hz hS
    obtain ⟨b1, b2, b3, b4, b5⟩ := hS
    unfold rMs
    rw [h.1 g (by omega), h.1 z (by omega)]
    exact ⟨b1, b2, b3, b4, fun i hi => by rw [h.1 _ (by omega)]; exact b5 i hi⟩
  refine ⟨hr _ _ _ (by omega) (by omega) g1, ?_, fun e => hr _ _ _ (by omega) (by omega) (g3 e), ⟨?_, fun j hj => ?_⟩, fun k hk => ?_⟩
  · rw [h.2.2 4 (by omega)]; exact g2
  · rw [h.2.2 16 (by omega)]; exact g4.1
  · rw [h.1 201 (by omega)]; exact g4.2 j hj
  · rw [h.1 202 (by omega), h.1 203 (by omega), h.2.1]; exact g5 k hk
theorem m_here {d sn p : Nat} {X : GS} {m : mm_Mem} {P : Int32 → mm_Mem → Prop} (hX : okX X) (hI : mI X m) (h17 : m.1 82 17 = nI p) (hp : p < 20000) (h : P (sI (sgc X.2.2.2.1 p)) m) : mm_sp (d + 1) sn kX11_here [.ref 82] m (qI P) := by
  have hT := hX.2.2.1
  have hT1 := hT.1
  refine v_X11_here ?_
  rw [h17, hI.2.2.2.1.1, e_le (by omega) (by omega), e_vin (by omega) (by omega), e_cl (by omega)]
  unfold sgc at h
  refine ⟨fun c => ?_, fun c => ⟨by omega, ?_⟩⟩
  · rw [if_neg (by omega)] at h
    exact h
  · rw [if_pos (by omega)] at h
    obtain ⟨x, hx, ex⟩ := hT.2 p (by omega)
    rw [hI.2.2.2.1.2 p (by omega), ex]
    rw [ex, e_cl (by omega), sI_n hx] at h
    exact h
theorem dgs_stop {T : TX} {p most : Nat} (h : dgs T p most < most) : isD T (p + dgs T p most) = false := by
  by_cases hx : ∃ j, j < most ∧ isD T (p + j) = false
  · obtain ⟨t, ⟨h1, h2⟩, h3⟩ := pk_least (fun j => j < most ∧ isD T (p + j) = false) hx
    have e : dgs T p most = t := dgs_s (by omega) (fun j hj => by
      cases e : isD T (p + j) with
      | true => rfl
      | false => exact absurd ⟨by omega, e⟩ (h3 j hj)) (fun _ => h2)
    rw [e]
    exact h2
  · have e : dgs T p most = most := dgs_s (Nat.le_refl _) (fun j hj => by
      cases e : isD T (p + j) with
      | true => rfl
      | false => exact absurd ⟨j, hj, e⟩ hx) (fun c => by omega)
    omega
theorem e_isD {T : TX} (hok : okTx T) (p : Nat) : decide (¬ sI (sgc T p) < nI 48 ∧ sI (sgc T p) ≤ nI 57) = isD T p := by
  unfold isD
  rcases sgc_ok hok p with hc | hc
  · rw [sI_n hc]
    refine decide_eq_decide.mpr ?_
    rw [e_lt (by omega) (by omega), e_le (by omega) (by omega)]
    omega
  · rw [hc]; decide
theorem m_hasClause {d sn s : Nat} {X : GS} {m : mm_Mem} {P : Int32 → mm_Mem → Prop} (hX : okX X) (hI : mI X m) (h17 : m.1 82 17 = nI s) (hs : s < 9000) (h0 : mdN (sgc X.2.2.2.1 s) = 0 → P (nI 0) m) (h1 : mdN (sgc X.2.2.2.1 s) ≠ 0 → ∀ m', fx m m' → m'.1 82 17 = nI (s + 1 + dgs X.2.2.2.1 (s + 1) (mdN (sgc X.2.2.2.1 s))) → m'.1 82 19 = nI (nmN X.2.2.2.1 (s + 1) (dgs X.2.2.2.1 (s + 1) (mdN (sgc X.2.2.2.1 s)))) → m'.1 82 20 = nI (bsN X.2.2.2.1 (s + 1) (dgs X.2.2.2.1 (s + 1) (mdN (sgc X.2.2.2.1 s)))) → P (nI (!decide (dgs X.2.2.2.1 (s + 1) (mdN (sgc X.2.2.2.1 s)) < ldN (sgc X.2.2.2.1 s))).toNat) m') : mm_sp (d + 2) sn kX11_hasClause [.ref 82] m (qI P) := by
  have hok := hX.2.2.1
  refine v_X11_hasClause (m_here hX hI h17 (by omega) ?_)
  have hcs := sgc_ok hok s
  have hT : okTx X.2.2.2.1 := hok
  generalize hTT : X.2.2.2.1 = T at *
  generalize hc : sgc T s = c at *
  have body : ∀ (ls ms : Nat), mdN c = ms → ldN c = ls → ms ≠ 0 → ∀ m2 : mm_Mem, m2 = (mm_u2 m.1 82 17 (m.1 82 17 + nI 1), m.2) → ∀ m3 : mm_Mem, m3 = (mm_u2 m2.1 82 18 (nI 0), m2.2) → ∀ m4 : mm_Mem, m4 = (mm_u2 m3.1 82 19 (nI 0), m3.2) → ∀ m5 : mm_Mem, m5 = (mm_u2 m4.1 82 20 (nI 0), m4.2) → mm_wp (d + 1) sn kX11_hasClause 99 [some (.ref 82), none, some (.int (nI ls)), some (.int (nI ms))] [] m5 (qI P) := by
    intro ls ms hms hls hm0 m2 q2 m3 q3 m4 q4 m5 q5
    have hmd := mdN_le c
    have hld := ldN_le c
    have h1 := h1 (by omega)
    rw [hms, hls] at h1
    have f5 : fx m m5 := by
      subst q2; subst q3; subst q4; subst q5
      exact (((fx_u2 (by omega)).trans (fx_u2 (m := (_, _)) (by omega))).trans (fx_u2 (m := (_, _)) (by omega))).trans (fx_u2 (m := (_, _)) (by omega))
    have a17 : m5.1 82 17 = nI (s + 1) := by
      subst q2; subst q3; subst q4; subst q5
      show mm_u2 (mm_u2 (mm_u2 (mm_u2 m.1 82 17 (m.1 82 17 + nI 1)) 82 18 (nI 0)) 82 19 (nI 0)) 82 20 (nI 0) 82 17 = _
      rw [u2_j (by omega), u2_j (by omega), u2_j (by omega), u2_s, h17, e_add]
    have a18 : m5.1 82 18 = nI 0 := by
      subst q2; subst q3; subst q4; subst q5
      show mm_u2 (mm_u2 (mm_u2 (mm_u2 m.1 82 17 (m.1 82 17 + nI 1)) 82 18 (nI 0)) 82 19 (nI 0)) 82 20 (nI 0) 82 18 = _
      rw [u2_j (by omega), u2_j (by omega), u2_s]
    have a19 : m5.1 82 19 = nI 0 := by
      subst q4; subst q5
      show mm_u2 (mm_u2 m3.1 82 19 (nI 0)) 82 20 (nI 0) 82 19 = _
      rw [u2_j (by omega), u2_s]
    have a20 : m5.1 82 20 = nI 0 := by
      subst q5
      show mm_u2 m4.1 82 20 (nI 0) 82 20 = _
      rw [u2_s]
    clear q2 q3 q4 q5
    have hDle := dgs_le (T := T) (p := s + 1) (most := ms)
    have hDd := dgs_d (T := T) (p := s + 1) (most := ms)
    have hDs := dgs_stop (T := T) (p := s + 1) (most := ms)
    generalize dgs T (s + 1) ms = D at *
    refine lp_up (W := fun j => ∀ m6, fx m m6 → m6.1 82 17 = nI (s + 1 + j) → m6.1 82 18 = nI j → m6.1 82 19 = nI (nmN T (s + 1) j) → m6.1 82 20 = nI (bsN T (s + 1) j) → mm_wp (d + 1) sn kX11_hasClause 99 [some (.ref 82), none, some (.int (nI ls)), some (.int (nI ms))] [] m6 (qI P)) (Nat.zero_le D) ?_ ?_ m5 f5 a17 a18 a19 a20
    · intro m6 f6 b17 b18 b19 b20
      have fin := h1 m6 f6 b17 b19 b20
      have fin2 : ((nI D < nI ls) → (P (nI 0) m6)) ∧ (¬ (nI D < nI ls) → (P (nI 1) m6)) := by
        rw [e_lt (by omega) (by omega)]
        refine ⟨fun c2 => ?_, fun c2 => ?_⟩
        · rw [decide_eq_true c2] at fin; exact fin
        · rw [decide_eq_false c2] at fin; exact fin
      refine v_X11_hasClause_99 ?_
      rw [b18, e_le (by omega) (by omega)]
      refine ⟨fun _ => fin2, fun c2 => m_here hX (mI_fx f6 hI) b17 (by omega) ?_⟩
      have e48 : lN 48 = (nI 48).toInt64 := by decide
      have e57 : lN 57 = (nI 57).toInt64 := by decide
      rw [e48, e57]
      refine s_inC ?_
      rw [hTT, e_isD hT, hDs (by omega)]
      rw [b18]
      exact e_vT (by decide) fin2
    · intro j _ hj ih m6 f6 b17 b18 b19 b20
      refine v_X11_hasClause_99 ?_
      rw [b18]
      refine e_vF (by rw [e_le (by omega) (by omega)]; omega) (m_here hX (mI_fx f6 hI) b17 (by omega) ?_)
      have e48 : lN 48 = (nI 48).toInt64 := by decide
      have e57 : lN 57 = (nI 57).toInt64 := by decide
      rw [e48, e57]
      refine s_inC ?_
      rw [hTT, e_isD hT, hDd j hj]
      refine e_vF (by decide) (m_here hX (mI_fx f6 hI) b17 (by omega) ?_)
      rw [hTT]
      have hdj := isD_9 (hDd j hj)
      have hsj : sI (sgc T (s + 1 + j)) = nI (sgc T (s + 1 + j)) := sI_n (by omega)
      intro m7 q7
      have en : nmN T (s + 1) (j + 1) = nmN T (s + 1) j * 10 + (sgc T (s + 1 + j) - 48) := rfl
      have eb : bsN T (s + 1) (j + 1) = bsN T (s + 1) j ||| 1 <<< (sgc T (s + 1 + j) - 48) := rfl
      have e9 : 10 * nmN T (s + 1) j + sgc T (s + 1 + j) - 48 = nmN T (s + 1) (j + 1) := by rw [en]; omega
      rw [b19, hsj, e_mul, e_add, e_sub (by omega), e9] at q7
      have f7 : fx m6 m7 := by subst q7; exact fx_u2 (by omega)
      have u7 : ∀ x, m7.1 82 x = if x = 19 then nI (nmN T (s + 1) (j + 1)) else m6.1 82 x := by
        intro x
        subst q7
        simp only [e_u2, true_and]
      refine m_here hX (mI_fx (f6.trans f7) hI) (by rw [u7, if_neg (by omega)]; exact b17) (by omega) ?_
      rw [hTT, hsj, u7, if_neg (by omega), b20, e_sub hdj.1, e_shl (by omega), e_or, ← eb]
      intro m8 q8 m9 q9 m10 q10
      have f10 : fx m7 m10 := by
        subst q8; subst q9; subst q10
        exact ((fx_u2 (by omega)).trans (fx_u2 (m := (_, _)) (by omega))).trans (fx_u2 (m := (_, _)) (by omega))
      have u10 : ∀ x, m10.1 82 x = if x = 17 then nI (s + 1 + j + 1) else if x = 18 then nI (j + 1) else if x = 20 then nI (bsN T (s + 1) (j + 1)) else m7.1 82 x := by
        intro x
        have w17 : m9.1 82 17 = nI (s + 1 + j) := by
          subst q8; subst q9
          show mm_u2 (mm_u2 m7.1 82 20 (nI (bsN T (s + 1) (j + 1)))) 82 18 (mm_u2 m7.1 82 20 (nI (bsN T (s + 1) (j + 1))) 82 18 + nI 1) 82 17 = _
          rw [u2_j (by omega), u2_j (by omega), u7, if_neg (by omega)]
          exact b17
        have w18 : m8.1 82 18 = nI j := by
          subst q8
          show mm_u2 m7.1 82 20 (nI (bsN T (s + 1) (j + 1))) 82 18 = _
          rw [u2_j (by omega), u7, if_neg (by omega)]
          exact b18
        rw [w17, e_add] at q10
        rw [w18, e_add] at q9
        subst q8; subst q9; subst q10
        simp only [e_u2, true_and]
      refine ih m10 ((f6.trans f7).trans f10) ?_ ?_ ?_ ?_
      · rw [u10, if_pos rfl, Nat.add_assoc]
      · rw [u10, if_neg (by omega), if_pos rfl]
      · rw [u10, if_neg (by omega), if_neg (by omega), if_neg (by omega), u7, if_pos rfl]
      · rw [u10, if_neg (by omega), if_neg (by omega), if_pos rfl]
  have q : ∀ n, n < 128 → (sI c = nI n) = (c = n) := by
    intro n hn
    rcases hcs with hc | hc
    · rw [sI_n hc, e_eq (by omega) (by omega)]
    · subst hc
      apply propext
      refine ⟨fun e => ?_, fun e => by omega⟩
      have e2 : sI 200 = -1 := rfl
      rw [e2] at e
      have := e_m1 (a := n) (by omega)
      exact (this.mp e.symm).elim
  rw [q 110 (by omega), q 104 (by omega), q 98 (by omega), q 103 (by omega), q 107 (by omega)]
  by_cases c110 : c = 110
  · exact e_vT c110 (e_vF (by omega) (e_vT (by omega) (body 1 1 (by rw [c110]; rfl) (by rw [c110]; rfl) (by omega))))
  · refine e_vF c110 ?_
    by_cases c98 : c = 98
    · exact e_vF (not_not_intro c98) (e_vF (by omega) (e_vF (not_not_intro c98) (body 1 8 (by rw [c98]; rfl) (by rw [c98]; rfl) (by omega))))
    · refine e_vT c98 ?_
      by_cases c103 : c = 103
      · exact e_vT c103 (e_vF (by omega) (e_vT c98 (body 2 2 (by rw [c103]; rfl) (by rw [c103]; rfl) (by omega))))
      · refine e_vF c103 ?_
        by_cases c107 : c = 107
        · exact e_vF (not_not_intro c107) (e_vF (by omega) (e_vT c98 (body 2 2 (by rw [c107]; rfl) (by rw [c107]; rfl) (by omega))))
        · refine e_vT c107 ?_
          by_cases c104 : c = 104
          · exact e_vF (not_not_intro c104) (e_vT c104 (body 3 8 (by rw [c104]; rfl) (by rw [c104]; rfl) (by omega)))
          · refine e_vT c104 (e_vF c104 (e_vT c98 (h0 ?_)))
            unfold mdN
            rw [if_neg c98, if_neg c103, if_neg c104, if_neg c107, if_neg c110]
