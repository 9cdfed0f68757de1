-- THE MODEL: isDone, read
theorem fz83 {m m' : mm_Mem} (h : fz 83 211 m m') : fz 82 211 m m' := h.wide (by omega) (by omega)
theorem A_points_0 {S : St} {v : Int32} (hN : 3 ≤ sN S ∧ sN S ≤ 8) : (A_points S v ≤ 0) = (A_points S v < 0) := by
  unfold A_points
  split
  · rw [e_le0 (by omega), e_lt0 (by omega)]
    exact eq_false (by omega)
  · decide
theorem m_isDone {d sn s D : Nat} {X : GS} {m : mm_Mem} {P : Int32 → mm_Mem → Prop} (hX : okX X) (hI : mI X m) (hc : sgc X.2.2.2.1 s = 98 ∨ sgc X.2.2.2.1 s = 103 ∨ sgc X.2.2.2.1 s = 104 ∨ sgc X.2.2.2.1 s = 107 ∨ sgc X.2.2.2.1 s = 110) (hD : D ≤ 8) (hd : ∀ j, j < D → isD X.2.2.2.1 (s + 1 + j) = true) (h19 : m.1 82 19 = nI (nmN X.2.2.2.1 (s + 1) D)) (h20 : m.1 82 20 = nI (bsN X.2.2.2.1 (s + 1) D)) (h : ∀ m', fz 83 211 m m' → mI (setS X (clS X.1 X.2.2.2.1 s D)) m' → P (nI (!decide (clA X.1 X.2.2.2.1 s D < 0)).toNat) m') : mm_sp (d + 12) sn kX11_isDone [.ref 82, .int (sI (sgc X.2.2.2.1 s))] m (qI P) := by
  have hv := nmN_lt hd
  have h8 := nm_8 hD
  have fin : ∀ (a : Int32) (m' : mm_Mem), P (nI (!decide (a < 0)).toNat) m' → ((a < 0) → (P (nI 0) m')) ∧ (¬ (a < 0) → (P (nI 1) m')) := by
    intro a m' hp
    refine ⟨fun c => ?_, fun c => ?_⟩
    · rw [decide_eq_true c] at hp; exact hp
    · rw [decide_eq_false c] at hp; exact hp
  refine v_X11_isDone ?_
  rw [h19, h20, e_div (by omega) (by omega) (by omega), e_rem (by omega) (by omega) (by omega)]
  unfold clA clS at h
  generalize hcc : sgc X.2.2.2.1 s = c at *
  have hs : sI c = nI c := sI_n (by omega)
  have hm : nmN X.2.2.2.1 (s + 1) D % 10 < 10 := Nat.mod_lt _ (by decide)
  have q : ∀ n, n < 128 → n ≠ c → ¬ (sI c = nI n) := fun n hn hne e => by
    rw [hs, e_eq (by omega) (by omega)] at e
    omega
  have no : ∀ {Q : Prop} (n : Nat), n < 128 → n ≠ c → (sI c = nI n → Q) := fun n hn hne e => absurd e (q n hn hne)
  refine ⟨fun e => ?_, fun e => ?_, no 105 (by omega) (by omega), no 106 (by omega) (by omega), fun e => ?_, no 108 (by omega) (by omega), no 109 (by omega) (by omega), fun e => ?_, fun a1 a2 _ _ a3 _ _ a4 => ?_⟩
  · rw [hs] at e
    have e := e_in (by omega) (by omega) e
    have n1 : ¬ c = 98 := by omega
    rw [if_neg n1, if_neg n1, if_pos e, if_pos e] at h
    exact mm_sp.up (m_way (d := 0) hX hI (fun m' g0 g1 => fin _ _ (h m' g0 g1))) (by omega)
  · rw [hs] at e
    have e := e_in (by omega) (by omega) e
    have n1 : ¬ c = 98 := by omega
    have n2 : ¬ c = 103 := by omega
    rw [if_neg n1, if_neg n1, if_neg n2, if_neg n2, if_pos e, if_pos e] at h
    exact mm_sp.up (m_hand (d := 0) hX hI (fun m' g0 g1 => fin _ _ (h m' g0 g1))) (by omega)
  · rw [hs] at e
    have e := e_in (by omega) (by omega) e
    have n1 : ¬ c = 98 := by omega
    have n2 : ¬ c = 103 := by omega
    have n3 : ¬ c = 104 := by omega
    rw [if_neg n1, if_neg n1, if_neg n2, if_neg n2, if_neg n3, if_neg n3, if_pos e, if_pos e] at h
    rw [e_shl (by omega)]
    exact mm_sp.up (m_choose (d := 0) hX hI (fun m' g0 g1 => fin _ _ (h m' g0 g1))) (by omega)
  · rw [hs] at e
    have e := e_in (by omega) (by omega) e
    have n1 : ¬ c = 98 := by omega
    have n2 : ¬ c = 103 := by omega
    have n3 : ¬ c = 104 := by omega
    have n4 : ¬ c = 107 := by omega
    rw [if_neg n1, if_neg n1, if_neg n2, if_neg n2, if_neg n3, if_neg n3, if_neg n4, if_neg n4, if_pos e, if_pos e] at h
    refine mm_sp.up (m_points (d := 0) hX hI (fun m' g0 g1 => ?_)) (by omega)
    rw [A_points_0 hX.1.1]
    exact fin _ _ (h m' g0 g1)
  · have r : ∀ n, n < 128 → ¬ sI c = nI n → c ≠ n := fun n hn a e => a (by rw [e, sI_n hn])
    have b1 := r 103 (by omega) a1
    have b2 := r 104 (by omega) a2
    have b3 := r 107 (by omega) a3
    have b4 := r 110 (by omega) a4
    have e : c = 98 := by omega
    rw [if_pos e, if_pos e] at h
    exact mm_sp.up (m_block (d := 0) hX hI (fun m' g0 g1 => fin _ _ (h m' g0 g1))) (by omega)
theorem dc_end {T : TX} {s : Nat} (h : T.1 ≤ s) : ∀ (r : Nat) (a : St × Nat), dcS T r s a = a
  | 0, _ => rfl
  | r + 1, a => if_pos h
theorem mdN_c {c : Nat} (h : mdN c ≠ 0) : c = 98 ∨ c = 103 ∨ c = 104 ∨ c = 107 ∨ c = 110 := by
  unfold mdN at h
  split at h
  · omega
  · split at h
    · omega
    · split at h
      · omega
      · split at h
        · omega
        · split at h
          · omega
          · omega
theorem m_doneL {d sn : Nat} {X : GS} {P : Int32 → mm_Mem → Prop} {m0 : mm_Mem} (hX : okX X) : ∀ (r s : Nat) (a : St × Nat) (m : mm_Mem), r ≤ 12 → s + 20 * r < 8000 → a.2 + r < 1000 → (X.2.2.2.1.1 ≤ s ∨ fl X.2.2.2.1 r s = -1) → okS a.1 → fz 82 211 m0 m → mI (setS X a.1) m → m.1 82 17 = nI s → (∀ m' m'', fz 82 211 m0 m' → mI (setS X (dcS X.2.2.2.1 r s a).1) m' → m'' = (mm_u2 m'.1 82 16 (nI 0), m'.2) → P (nI (dcS X.2.2.2.1 r s a).2) m'') → mm_wp (d + 13) sn kX11_read 118 [some (.ref 82), none, none, some (.int (nI a.2)), none, none] [] m (qI P) := by
  intro r
  induction r with
  | zero =>
    intro s a m hr hs ha hf hS hz hI h17 h
    have hT1 := hX.2.2.1.1
    have hle : X.2.2.2.1.1 ≤ s := by
      rcases hf with hf | hf
      · exact hf
      · have hf : nI s = -1 := hf
        rw [e_m1 (by omega)] at hf
        exact hf.elim
    refine v_X11_read_118 ?_
    rw [h17, show m.1 82 16 = nI X.2.2.2.1.1 from hI.2.2.2.1.1]
    exact e_vT (by rw [e_le (by omega) (by omega)]; exact hle) (fun m1 q1 => h m m1 hz hI q1)
  | succ r ih =>
    intro s a m hr hs ha hf hS hz hI h17 h
    have hX1 := okX_S hX hS
    have hok := hX.2.2.1
    have hT1 := hok.1
    by_cases hle : X.2.2.2.1.1 ≤ s
    · rw [dc_end hle] at h
      refine v_X11_read_118 ?_
      rw [h17, show m.1 82 16 = nI X.2.2.2.1.1 from hI.2.2.2.1.1]
      exact e_vT (by rw [e_le (by omega) (by omega)]; exact hle) (fun m1 q1 => h m m1 hz hI q1)
    · have hf : fl X.2.2.2.1 (r + 1) s = -1 := hf.resolve_left hle
      have hmd := mdN_le (sgc X.2.2.2.1 s)
      have hld := ldN_le (sgc X.2.2.2.1 s)
      have hDle := dgs_le (T := X.2.2.2.1) (p := s + 1) (most := mdN (sgc X.2.2.2.1 s))
      have hDd := dgs_d (T := X.2.2.2.1) (p := s + 1) (most := mdN (sgc X.2.2.2.1 s))
      unfold fl at hf
      have hm0 : mdN (sgc X.2.2.2.1 s) ≠ 0 := fun e => by
        rw [if_pos e, e_m1 (by omega)] at hf
        exact hf
      rw [if_neg hm0] at hf
      generalize hDD : dgs X.2.2.2.1 (s + 1) (mdN (sgc X.2.2.2.1 s)) = D at *
      have hge : ¬ D < ldN (sgc X.2.2.2.1 s) := fun e => by
        rw [if_pos e, e_m1 (by omega)] at hf
        exact hf
      rw [if_neg hge] at hf
      have hnext : sgc X.2.2.2.1 (s + 1 + D) = 59 ∧ fl X.2.2.2.1 r (s + 1 + D + 1) = -1 ∧ ¬ X.2.2.2.1.1 ≤ s + 1 + D ∨ X.2.2.2.1.1 ≤ s + 1 + D ∧ sgc X.2.2.2.1 (s + 1 + D) = 200 := by
        by_cases c : X.2.2.2.1.1 ≤ s + 1 + D
        · refine Or.inr ⟨c, ?_⟩
          unfold sgc
          exact if_neg (by omega)
        · rw [if_neg c] at hf
          by_cases c2 : sgc X.2.2.2.1 (s + 1 + D) = 59 ∧ r ≠ 0
          · rw [if_pos c2] at hf
            exact Or.inl ⟨c2.1, hf, c⟩
          · rw [if_neg c2, e_m1 (by omega)] at hf
            exact hf.elim
      have hnd : isD X.2.2.2.1 (s + 1 + D) = false := by
        unfold isD
        refine decide_eq_false ?_
        rcases hnext with ⟨e, _⟩ | ⟨_, e⟩ <;> omega
      have hD8 : dgs X.2.2.2.1 (s + 1) 8 = D := dgs_s (by omega) hDd (fun _ => hnd)
      have hdc : dcS X.2.2.2.1 (r + 1) s a = dcS X.2.2.2.1 r (s + 1 + D + 1) (clS a.1 X.2.2.2.1 s D, a.2 + (!decide (clA a.1 X.2.2.2.1 s D < 0)).toNat) := by
        show (if X.2.2.2.1.1 ≤ s then a else dcS X.2.2.2.1 r (s + 1 + dgs X.2.2.2.1 (s + 1) 8 + 1) (clS a.1 X.2.2.2.1 s (dgs X.2.2.2.1 (s + 1) 8), a.2 + (!decide (clA a.1 X.2.2.2.1 s (dgs X.2.2.2.1 (s + 1) 8) < 0)).toNat)) = _
        rw [if_neg hle, hD8]
      rw [hdc] at h
      have hb1 : (!decide (clA a.1 X.2.2.2.1 s D < 0)).toNat ≤ 1 := Bool.toNat_le _
      have hSn := okS_cl (T := X.2.2.2.1) (s := s) (len := D) hS
      refine v_X11_read_118 ?_
      rw [h17, show m.1 82 16 = nI X.2.2.2.1.1 from hI.2.2.2.1.1]
      refine e_vF (by rw [e_le (by omega) (by omega)]; omega) (m_here hX1 hI h17 (by omega) ?_)
      have hTs : (setS X a.1).2.2.2.1 = X.2.2.2.1 := rfl
      rw [hTs]
      refine mm_sp.up (m_hasClause (d := 0) hX1 hI h17 (by omega) (fun e => absurd e hm0) (fun _ m1 f1 b17 b19 b20 => ?_)) (by omega)
      rw [hTs, hDD] at b17 b19 b20
      rw [hTs, hDD, decide_eq_false hge]
      have hI1 := mI_fx f1 hI
      refine m_here hX1 hI1 b17 (by omega) ?_
      rw [hTs, b17]
      have step : ∀ (e' : Nat), e' = s + 1 + D + 1 ∧ fl X.2.2.2.1 r e' = -1 ∨ e' = s + 1 + D ∧ X.2.2.2.1.1 ≤ e' → ∀ m5 : mm_Mem, m5 = (mm_u2 m1.1 82 17 (nI e'), m1.2) → mm_sp (d + 13) sn kX11_isDone [.ref 82, .int (sI (sgc X.2.2.2.1 s))] m5 (qI fun x7 m6 => ((x7 = 0) → (mm_wp (d + 13) sn kX11_read 118 [some (.ref 82), none, none, some (.int (nI a.2 + (nI 0))), none, none] [] m6 (qI P))) ∧ (¬ (x7 = 0) → (mm_wp (d + 13) sn kX11_read 118 [some (.ref 82), none, none, some (.int (nI a.2 + (nI 1))), none, none] [] m6 (qI P)))) := by
        intro e' he' m5 q5
        have f5 : fx m1 m5 := by subst q5; exact fx_u2 (by omega)
        have u5 : ∀ x, m5.1 82 x = if x = 17 then nI e' else m1.1 82 x := by
          intro x
          subst q5
          simp only [e_u2, true_and]
        refine mm_sp.up (m_isDone (X := setS X a.1) (d := 0) (s := s) (D := D) hX1 (mI_fx f5 hI1) (mdN_c hm0) (by omega) hDd (by rw [u5, if_neg (by omega)]; exact b19) (by rw [u5, if_neg (by omega)]; exact b20) (fun m6 z6 hI6 => ?_)) (by omega)
        have hI6 : mI (setS X (clS a.1 X.2.2.2.1 s D)) m6 := hI6
        have w17 : m6.1 82 17 = nI e' := by rw [z6.i (by omega), u5, if_pos rfl]
        have z06 : fz 82 211 m0 m6 := ((hz.trans f1.z).trans f5.z).trans (fz83 z6)
        have hT2 : (setS X a.1).1 = a.1 := rfl
        have key : ∀ b : Bool, (!decide (clA a.1 X.2.2.2.1 s D < 0)) = b → mm_wp (d + 13) sn kX11_read 118 [some (.ref 82), none, none, some (.int (nI (a.2 + b.toNat))), none, none] [] m6 (qI P) := by
          intro b eb
          rw [eb] at h hb1
          refine ih e' (clS a.1 X.2.2.2.1 s D, a.2 + b.toNat) m6 (by omega) (by omega) (by show a.2 + b.toNat + r < 1000; omega) ?_ hSn z06 hI6 w17 ?_
          · rcases he' with ⟨_, e2⟩ | ⟨_, e2⟩
            · exact Or.inr e2
            · exact Or.inl e2
          · rcases he' with ⟨e1, _⟩ | ⟨e1, e2⟩
            · rw [e1]; exact h
            · rw [dc_end e2]
              rw [dc_end (show X.2.2.2.1.1 ≤ s + 1 + D + 1 by omega)] at h
              exact h
        rw [hTs, hT2]
        rw [e_add, e_add]
        refine e_vz (fun e => ?_) (fun e => ?_)
        · exact key false e
        · exact key true e
      refine ⟨fun c => ?_, fun c => ?_⟩
      · intro m5 q5
        rw [e_add, Nat.add_zero] at q5
        refine e_vF (by decide) (step (s + 1 + D) (Or.inr ⟨rfl, ?_⟩) m5 q5)
        rcases hnext with ⟨e, _⟩ | ⟨e, _⟩
        · rw [e] at c
          exact absurd (sI_n (by omega)) c
        · exact e
      · intro m5 q5
        rw [e_add] at q5
        refine e_vF (by decide) (step (s + 1 + D + 1) (Or.inl ⟨rfl, ?_⟩) m5 q5)
        rcases hnext with ⟨_, e, _⟩ | ⟨_, e⟩
        · exact e
        · rw [e] at c
          exact absurd (Classical.not_not.mp c) (by decide)
/-- what follows the look for the fault -/
def aft (d sn : Nat) (m0 : mm_Mem) (P : Int32 → mm_Mem → Prop) (v : Int32) : Prop := (v = -1 → ∀ m1, fx m0 m1 → m1.1 82 17 = nI 0 → mm_wp (d + 13) sn kX11_read 118 [some (.ref 82), none, none, some (.int (nI 0)), none, none] [] m1 (qI P)) ∧ ∀ e, e < 20000 → v = nI e → ∀ m1, fx m0 m1 → ∀ m2 : mm_Mem, m2 = (mm_u2 m1.1 82 16 (nI 0), m1.2) → P (-10 - nI e) m2
theorem m_readL1 {d sn r q s : Nat} {X : GS} {P : Int32 → mm_Mem → Prop} {m0 m : mm_Mem} (hX : okX X) (hI0 : mI X m0) (hq : r + q = 11) (hs : s + 20 * r < 8000) (hf : fx m0 m) (h17 : m.1 82 17 = nI s) (ha : aft d sn m0 P (fl X.2.2.2.1 (r + 1) s)) (rec : r ≠ 0 → ∀ (s' : Nat) (m' : mm_Mem), s' + 20 * (r - 1) < 8000 → fx m0 m' → m'.1 82 17 = nI s' → aft d sn m0 P (fl X.2.2.2.1 (r - 1 + 1) s') → mm_sp (d + 13) sn kX11_hasClause [.ref 82] m' (qI fun x6 m3 => ((x6 = 0) → (mm_wp (d + 13) sn kX11_read 9 [some (.ref 82), some (.int (nI (q + 1) + nI 1)), some (.int (nI 0)), none, none, none] [] m3 (qI P))) ∧ (¬ (x6 = 0) → (mm_wp (d + 13) sn kX11_read 9 [some (.ref 82), some (.int (nI (q + 1) + nI 1)), some (.int (nI 1)), none, none, none] [] m3 (qI P))))) : mm_sp (d + 13) sn kX11_hasClause [.ref 82] m (qI fun x6 m3 => ((x6 = 0) → (mm_wp (d + 13) sn kX11_read 9 [some (.ref 82), some (.int (nI q + nI 1)), some (.int (nI 0)), none, none, none] [] m3 (qI P))) ∧ (¬ (x6 = 0) → (mm_wp (d + 13) sn kX11_read 9 [some (.ref 82), some (.int (nI q + nI 1)), some (.int (nI 1)), none, none, none] [] m3 (qI P)))) := by
  have hok := hX.2.2.1
  have hT1 := hok.1
  have bad : ∀ (v : Int32) (e : Nat) (m1 : mm_Mem), e < 20000 → fl X.2.2.2.1 (r + 1) s = nI e → fx m0 m1 → m1.1 82 17 = nI e → mm_wp (d + 13) sn kX11_read 9 [some (.ref 82), some (.int v), some (.int (nI 0)), none, none, none] [] m1 (qI P) := by
    intro v e m1 he ev f1 b17
    refine v_X11_read_9 (e_vT (by decide) (e_vF (by decide) (fun m2 q2 => ?_)))
    have w : m2.1 82 17 = nI e := by
      subst q2
      show mm_u2 m1.1 82 16 (nI 0) 82 17 = _
      rw [u2_j (by omega)]
      exact b17
    rw [w]
    exact ha.2 e he ev m1 f1 m2 q2
  have hmd := mdN_le (sgc X.2.2.2.1 s)
  have hld := ldN_le (sgc X.2.2.2.1 s)
  have hDle := dgs_le (T := X.2.2.2.1) (p := s + 1) (most := mdN (sgc X.2.2.2.1 s))
  refine mm_sp.up (m_hasClause (d := 0) hX (mI_fx hf hI0) h17 (by omega) (fun e => ?_) (fun hm0 m1 f1 b17 _ _ => ?_)) (by omega)
  · exact e_vT (by decide) (bad _ s m (by omega) (by unfold fl; rw [if_pos e]) hf h17)
  · have f01 := hf.trans f1
    have hI1 := mI_fx f01 hI0
    unfold fl at ha bad
    rw [if_neg hm0] at ha bad
    generalize dgs X.2.2.2.1 (s + 1) (mdN (sgc X.2.2.2.1 s)) = D at *
    by_cases c : D < ldN (sgc X.2.2.2.1 s)
    · rw [if_pos c] at bad
      rw [decide_eq_true c]
      exact e_vT (by decide) (bad _ (s + 1 + D) m1 (by omega) rfl f01 b17)
    · rw [if_neg c] at ha bad
      rw [decide_eq_false c]
      refine e_vF (by decide) ?_
      rw [e_add]
      refine v_X11_read_9 (e_vF (by decide) (e_vF (by rw [e_eq0 (by omega)]; omega) ?_))
      rw [show m1.1 82 16 = nI X.2.2.2.1.1 from hI1.2.2.2.1.1, b17, e_le (by omega) (by omega), e_le0 (by omega), e_le (by omega) (by omega), e_add, e_add]
      refine ⟨fun c2 => e_vT (by decide) (fun m9 q9 => ?_), fun c2 => e_vF (by omega) ⟨fun c3 m9 q9 => ?_, fun c3 => m_here hX hI1 b17 (by omega) ?_⟩⟩
      · rw [if_pos c2] at ha
        refine ha.1 rfl m9 (f01.trans (by subst q9; exact fx_u2 (by omega))) ?_
        subst q9
        show mm_u2 m1.1 82 17 (nI 0) 82 17 = _
        rw [u2_s]
      · rw [if_neg c2, if_neg (fun hh => hh.2 (by omega))] at bad
        refine bad _ (s + 1 + D) m9 (by omega) rfl (f01.trans (by subst q9; exact fx_u2 (by omega))) ?_
        subst q9
        show mm_u2 m1.1 82 17 (nI (s + 1 + D + 0)) 82 17 = _
        rw [u2_s]
        rfl
      · rw [if_neg c2] at ha bad
        have q59 : (sI (sgc X.2.2.2.1 (s + 1 + D)) = nI 59) = (sgc X.2.2.2.1 (s + 1 + D) = 59) := by
          rcases sgc_ok hok (s + 1 + D) with hc | hc
          · rw [sI_n hc, e_eq (by omega) (by omega)]
          · rw [hc]
            exact propext ⟨fun e => absurd e (by decide), fun e => by omega⟩
        rw [q59, b17, e_add, e_add]
        refine ⟨fun c4 m9 q9 => ?_, fun c4 m9 q9 => ?_⟩
        · rw [if_neg (fun hh => c4 hh.1)] at bad
          refine bad _ (s + 1 + D) m9 (by omega) rfl (f01.trans (by subst q9; exact fx_u2 (by omega))) ?_
          subst q9
          show mm_u2 m1.1 82 17 (nI (s + 1 + D + 0)) 82 17 = _
          rw [u2_s]
          rfl
        · have hr0 : r ≠ 0 := by omega
          rw [if_pos ⟨Classical.not_not.mp c4, hr0⟩] at ha
          have e9 : r - 1 + 1 = r := by omega
          refine (rec hr0 (s + 1 + D + 1) m9 (by omega) (f01.trans (by subst q9; exact fx_u2 (by omega))) ?_ (by rw [e9]; exact ha)).to (fun _ _ hh => by rw [e_add] at hh; exact hh)
          subst q9
          show mm_u2 m1.1 82 17 (nI (s + 1 + D + 1)) 82 17 = _
          rw [u2_s]
theorem m_readL {d sn : Nat} {X : GS} {P : Int32 → mm_Mem → Prop} {m0 : mm_Mem} (hX : okX X) (hI0 : mI X m0) : ∀ (r q s : Nat) (m : mm_Mem), r + q = 11 → s + 20 * r < 8000 → fx m0 m → m.1 82 17 = nI s → aft d sn m0 P (fl X.2.2.2.1 (r + 1) s) → mm_sp (d + 13) sn kX11_hasClause [.ref 82] m (qI fun x6 m3 => ((x6 = 0) → (mm_wp (d + 13) sn kX11_read 9 [some (.ref 82), some (.int (nI q + nI 1)), some (.int (nI 0)), none, none, none] [] m3 (qI P))) ∧ (¬ (x6 = 0) → (mm_wp (d + 13) sn kX11_read 9 [some (.ref 82), some (.int (nI q + nI 1)), some (.int (nI 1)), none, none, none] [] m3 (qI P)))) := by
  intro r
  induction r with
  | zero => exact fun q s m hq hs hf h17 ha => m_readL1 hX hI0 hq hs hf h17 ha (fun c => absurd rfl c)
  | succ r ih => exact fun q s m hq hs hf h17 ha => m_readL1 hX hI0 hq hs hf h17 ha (fun _ s' m' h1 h2 h3 h4 => by
      have := ih (q + 1) s' m' (by omega) h1 h2 h3 h4
      exact this)
theorem m_read {d sn : Nat} {X : GS} {m : mm_Mem} {P : Int32 → mm_Mem → Prop} (hX : okX X) (hI : mI X m) (h : ∀ m', fz 82 211 m m' → mI (X_read X) m' → P (A_read X) m') : mm_sp (d + 14) sn kX11_read [.ref 82] m (qI P) := by
  refine v_X11_read ?_
  unfold A_read X_read at h
  intro m1 q1
  have f1 : fx m m1 := by subst q1; exact fx_u2 (by omega)
  have b17 : m1.1 82 17 = nI 0 := by
    subst q1
    show mm_u2 m.1 82 17 (nI 0) 82 17 = _
    rw [u2_s]
  have gone : ∀ (Y : GS) (m2 m3 : mm_Mem), mI Y m2 → m3 = (mm_u2 m2.1 82 16 (nI 0), m2.2) → Y.2.2.2.1.2 = X.2.2.2.1.2 → mI (setX Y (0, X.2.2.2.1.2)) m3 := by
    intro Y m2 m3 hI2 q3 _
    have o : ∀ a, a ≠ 82 → m3.1 a = m2.1 a := fun a ha => by subst q3; exact u2_r ha
    have o2 : m3.2 = m2.2 := by subst q3; rfl
    have u : ∀ x, m3.1 82 x = if x = 16 then nI 0 else m2.1 82 x := by
      intro x
      subst q3
      simp only [e_u2, true_and]
    obtain ⟨g1, g2, g3, g4, g5⟩ := hI2
    have hr : ∀ g z S, 82 < g → 82 < z → rMs g z S m2 → rMs g z S m3 := by
      intro g z S hg hz hS
      obtain ⟨b1, b2, b3, b4, b5⟩ := hS
      unfold rMs
      rw [o g (by omega), o z (by omega)]
      exact ⟨b1, b2, b3, b4, fun i hi => by rw [o _ (by omega)]; exact b5 i hi⟩
    refine ⟨hr _ _ _ (by omega) (by omega) g1, ?_, fun e => hr _ _ _ (by omega) (by omega) (g3 e), ⟨?_, fun j hj => absurd hj (Nat.not_lt_zero j)⟩, fun k hk => ?_⟩
    · rw [u, if_neg (by omega)]; exact g2
    · rw [u, if_pos rfl]; rfl
    · rw [o 202 (by omega), o 203 (by omega), o2]; exact g5 k hk
  have ha : aft d sn m P (fl X.2.2.2.1 12 0) := by
    refine ⟨fun hv m2 f2 c17 => ?_, fun e he hv m2 f2 m3 q3 => ?_⟩
    · rw [if_pos hv, if_pos hv] at h
      refine m_doneL (m0 := m) hX 12 0 (X.1, 0) m2 (by omega) (by omega) (show 0 + 12 < 1000 by omega) (Or.inr hv) hX.1 f2.z (mI_fx f2 hI) c17 (fun m' m'' z' hI' q' => ?_)
      refine h m'' (z'.trans (by subst q'; exact fz_u2 (by omega) (by omega))) ?_
      exact gone _ m' m'' hI' q' rfl
    · have n1 : ¬ fl X.2.2.2.1 12 0 = -1 := by rw [hv, e_m1 (by omega)]; exact id
      rw [if_neg n1, if_neg n1, hv] at h
      exact h m3 (f2.z.trans (by subst q3; exact fz_u2 (by omega) (by omega))) (gone X m2 m3 (mI_fx f2 hI) q3 rfl)
  refine v_X11_read_9 (e_vF (by decide) (e_vT (by decide) (e_vT (by decide) (e_vF (by decide) ?_))))
  exact m_readL hX hI 11 0 0 m1 (by omega) (by omega) f1 b17 ha
