-- CHOICES that solve: the search
def kp (m m' : mm_Mem) : Prop := fz 66 72 m m' ∧ (∀ x, (x = 67 ∨ x = 68 ∨ x = 71) → m'.1 x = m.1 x) ∧ ∀ x, x < 9 → m'.1 66 x = m.1 66 x ∨ x = 9
theorem kp.refl {m : mm_Mem} : kp m m := ⟨fz.refl, fun _ _ => rfl, fun _ _ => Or.inl rfl⟩
theorem kp.trans {m1 m2 m3 : mm_Mem} (h : kp m1 m2) (g : kp m2 m3) : kp m1 m3 := ⟨h.1.trans g.1, fun x hx => (g.2.1 x hx).trans (h.2.1 x hx), fun x hx => by
  rcases h.2.2 x hx with a | a
  · rcases g.2.2 x hx with b | b
    · exact Or.inl (b.trans a)
    · exact Or.inr b
  · exact Or.inr a⟩
theorem kp.f {m m' : mm_Mem} (h : kp m m') {x : Nat} (hx : x < 9) : m'.1 66 x = m.1 66 x := by
  rcases h.2.2 x hx with a | a
  · exact a
  · omega
theorem kp_ch {m m' : mm_Mem} (h : fz 69 70 m m') : kp m m' := ⟨h.wide (by omega) (by omega), fun x hx => h.i (by omega), fun x _ => Or.inl (by rw [h.i (by omega)])⟩
theorem kp_rA {A : Nat → Nat → Nat} {R C : Nat} {m m' : mm_Mem} (h : kp m m') (hA : rA A R C m) : rA A R C m' := ⟨(h.f (by omega)).trans hA.1, (h.f (by omega)).trans hA.2.1, fun i hi j hj => by rw [h.2.1 67 (Or.inl rfl)]; exact hA.2.2 i hi j hj⟩
theorem ch_rNt {w : Int32} {st : NS} {m m' : mm_Mem} (h : fz 69 70 m m') (hN : rNt w st m) : rNt w st m' := by
  unfold rNt
  rw [h.i (by omega), h.i (by omega)]
  exact hN
theorem csl_f {R : Nat} {nd fe : Nat → Int} (h : cslB R nd fe = false) : ∃ i, i < R ∧ ¬ (0 ≤ nd i ∧ nd i ≤ fe i) := by
  apply Classical.byContradiction
  intro hn
  have : cslB R nd fe = true := alN_t (fun i hi => decide_eq_true (Classical.byContradiction fun e => hn ⟨i, hi, e⟩))
  rw [this] at h
  cases h
theorem csl_t {R : Nat} {nd fe : Nat → Int} (h : cslB R nd fe = true) : ∀ i, i < R → 0 ≤ nd i ∧ nd i ≤ fe i := fun i hi => of_decide_eq_true (alN_of h i hi)
def ndI (A : Nat → Nat → Nat) (C aim ch : Nat) : Nat → Int := fun i => (aim : Int) - smN (A i) ch C
def feI (A : Nat → Nat → Nat) (c : Nat) : Nat → Int := fun i => (totN (A i) c : Int)
theorem rNF_eq {R : Nat} {nd fe nd' fe' : Nat → Int} {m : mm_Mem} (h : rNF R nd fe m) (h1 : ∀ i, i < R → nd i = nd' i) (h2 : ∀ i, i < R → fe i = fe' i) : rNF R nd' fe' m := fun i hi => by
  rw [← h1 i hi, ← h2 i hi]
  exact h i hi
theorem csl_vi {A : Nat → Nat → Nat} {R C aim c ch : Nat} {w : Int32} {st : NS} (hc : c ≤ C) (hb : ∀ j, j < c → ch.testBit j = false) (h : cslB R (ndI A C aim ch) (feI A c) = false) : viI (slB A R C aim) w c ch st = st := by
  obtain ⟨i, hi, e⟩ := csl_f h
  unfold ndI feI at e
  exact viI_none hi c ch st hc hb (by omega)
theorem s_search {sn R C aim : Nat} {w : Int32} {A : Nat → Nat → Nat} (hR : R ≤ 70) (hC : C ≤ 14) (hA8 : ∀ i j, A i j ≤ 256) (haim : aim ≤ 1000) : ∀ (c : Nat) {d ch : Nat} {st : NS} {m : mm_Mem} {P : mm_Mem → Prop}, c ≤ C → (∀ j, j < c → ch.testBit j = false) → st.1 + 2 ^ c ≤ 20000 → (c = 0 → slB A R C aim ch = true) → rA A R C m → rNF R (ndI A C aim ch) (feI A c) m → rNt w st m → (∀ m', kp m m' → rNF R (ndI A C aim ch) (feI A c) m' → rNt w (viI (slB A R C aim) w c ch st) m' → P m') → mm_sp (d + c + 4) sn kX1_searchSolutions [.ref 66, .int (nI c - nI 1), .int (nI ch)] m (qV P)
  | 0, d, ch, st, m, P, _, _, hst, h0, hA, hN, hT, h => by
    refine v_X1_searchSolutions ?_
    refine e_vT (by decide) (e_vF (by decide) ?_)
    have e1 : 2 ^ 0 = 1 := rfl
    refine mm_sp.up (s_note (d := 0) (h0 rfl) (by omega) hT ?_) (by omega)
    intro m' g0 g1 g2 g3
    refine h m' ⟨g0, fun x hx => g1 x (by omega) (by omega), fun x hx => Or.inl (g2 x hx)⟩ (fun i hi => ?_) g3
    rw [g1 69 (by omega) (by omega), g1 70 (by omega) (by omega)]
    exact hN i hi
  | c + 1, d, ch, st, m, P, hcC, hb, hst, _, hA, hN, hT, h => by
    have e0 : nI (c + 1) - nI 1 = nI c := e_sub (by omega)
    rw [e0]
    have ep : 2 ^ (c + 1) = 2 ^ c + 2 ^ c := by rw [Nat.pow_succ]; omega
    have hp0 := Nat.two_pow_pos c
    have hbc := hb c (by omega)
    have hb' : ∀ j, j < c → ch.testBit j = false := fun j hj => hb j (by omega)
    have hb2 : ∀ j, j < c → (ch ||| 1 <<< c).testBit j = false := fun j hj => by
      have e8 : decide (c = j) = false := decide_eq_false (by omega)
      rw [Nat.testBit_or, hb' j hj, tb_shl, e8]
      rfl
    have sme : ∀ i, smN (A i) (ch ||| 1 <<< c) C = smN (A i) ch C + A i c := fun i => by
      have e2 := smN_or (f := A i) hbc C
      rw [if_pos (by omega)] at e2
      exact e2
    have hbd : ∀ x, ∀ i, i < R → (-100000 ≤ ndI A C aim x i ∧ ndI A C aim x i ≤ 100000) ∧ -100000 ≤ feI A c i ∧ feI A c i ≤ 100000 := by
      intro x i _
      have h1 := smN_le (ch := x) (hA8 i) C
      have h2 := totN_le (hA8 i) c
      unfold ndI feI
      omega
    have st0 : ∀ x, cslB R (ndI A C aim x) (feI A c) = true → c = 0 → slB A R C aim x = true := by
      intro x hx hc0
      subst hc0
      refine alN_t (fun i hi => beq_iff_eq.mpr ?_)
      have := csl_t hx i hi
      unfold ndI feI at this
      have e : totN (A i) 0 = 0 := rfl
      rw [e] at this
      omega
    have cnt1 := viI_cnt (ok := slB A R C aim) (w := w) c ch st
    refine v_X1_searchSolutions (e_vT (by rw [e_lt (by omega) (by omega)]; omega) (e_vT (by rw [e_0le (by omega)]; trivial) ?_))
    have z0 : nI 0 = iI 0 := by decide
    have z1 : nI 1 = iI 1 := by decide
    -- the last step
    have last : ∀ m2, kp m m2 → rNF R (ndI A C aim (ch ||| 1 <<< c)) (feI A c) m2 → rNt w (viI (slB A R C aim) w (c + 1) ch st) m2 → mm_sp (d + c + 4) sn kX1_change [.ref 66, .int (nI c), .int (nI 1), .int (nI 1)] m2 (qV fun m5 => P m5) := by
      intro m2 k2 n2 t2
      rw [z1]
      refine mm_sp.up (s_change (d := 0) (kp_rA k2 hA) hR hC hA8 (by omega) n2 ?_) (by omega)
      intro m3 f3 n3
      refine h m3 (k2.trans (kp_ch f3)) (rNF_eq n3 (fun i _ => ?_) (fun i _ => ?_)) (ch_rNt f3 t2)
      · show ndI A C aim (ch ||| 1 <<< c) i + 1 * (A i c : Int) = ndI A C aim ch i
        unfold ndI
        rw [sme i]
        omega
      · show feI A c i + 1 * (A i c : Int) = feI A (c + 1) i
        unfold feI
        show (totN (A i) c : Int) + 1 * (A i c : Int) = ((totN (A i) c + A i c : Nat) : Int)
        omega
    -- with the column
    have tail : ∀ m2, kp m m2 → rNF R (ndI A C aim ch) (feI A c) m2 → rNt w (viI (slB A R C aim) w c ch st) m2 → mm_sp (d + c + 4) sn kX1_change [.ref 66, .int (nI c), .int (-1), .int (nI 0)] m2 (qV fun m3 => mm_sp (d + c + 4) sn kX1_canSolve [.ref 66] m3 (qI fun x7 m4 => ((x7 = 0) → (mm_sp (d + c + 4) sn kX1_change [.ref 66, .int (nI c), .int (nI 1), .int (nI 1)] m4 (qV fun m5 => P m5))) ∧ (¬ (x7 = 0) → (mm_sp (d + c + 4) sn kX1_searchSolutions [.ref 66, .int (nI c - (nI 1)), .int (nI ch ||| (mm_shl (nI 1) (nI c)))] m4 (qV fun m6 => mm_sp (d + c + 4) sn kX1_change [.ref 66, .int (nI c), .int (nI 1), .int (nI 1)] m6 (qV fun m7 => P m7)))))) := by
      intro m2 k2 n2 t2
      rw [z0, iI_m1]
      refine mm_sp.up (s_change (d := 0) (kp_rA k2 hA) hR hC hA8 (by omega) n2 ?_) (by omega)
      intro m3 f3 n3
      have k3 := k2.trans (kp_ch f3)
      have n3 : rNF R (ndI A C aim (ch ||| 1 <<< c)) (feI A c) m3 := rNF_eq n3 (fun i _ => by
        show ndI A C aim ch i + (-1) * (A i c : Int) = _
        unfold ndI
        rw [sme i]
        omega) (fun i _ => by
        show feI A c i + 0 * (A i c : Int) = _
        omega)
      have t3 := ch_rNt f3 t2
      refine mm_sp.up (s_canSolve (d := 0) (kp_rA k3 hA).1 hR (hbd _) n3 ?_) (by omega)
      refine e_vz (fun e => last m3 k3 n3 ?_) (fun e => ?_)
      · show rNt w (viI (slB A R C aim) w c (ch ||| 1 <<< c) (viI (slB A R C aim) w c ch st)) m3
        rw [csl_vi (by omega) hb2 e]
        exact t3
      · rw [e_shl (by omega), e_or]
        refine mm_sp.up (s_search hR hC hA8 haim c (d := d) (by omega) hb2 (by omega) (st0 _ e) (kp_rA k3 hA) n3 t3 ?_) (by omega)
        intro m4 k4 n4 t4
        exact last m4 (k3.trans k4) n4 t4
    rw [z0, iI_m1]
    refine mm_sp.up (s_change (d := 0) hA hR hC hA8 (by omega) hN ?_) (by omega)
    intro m1 f1 n1
    have k1 := kp_ch f1
    have n1 : rNF R (ndI A C aim ch) (feI A c) m1 := rNF_eq n1 (fun i _ => by
      show ndI A C aim ch i + 0 * (A i c : Int) = _
      omega) (fun i _ => by
      show feI A (c + 1) i + (-1) * (A i c : Int) = _
      unfold feI
      show ((totN (A i) c + A i c : Nat) : Int) + (-1) * (A i c : Int) = _
      omega)
    have t1 := ch_rNt f1 hT
    rw [← z0, ← iI_m1]
    refine mm_sp.up (s_canSolve (d := 0) (kp_rA k1 hA).1 hR (hbd _) n1 ?_) (by omega)
    refine e_vz (fun e => tail m1 k1 n1 ?_) (fun e => ?_)
    · rw [csl_vi (by omega) hb' e]
      exact t1
    · refine mm_sp.up (s_search hR hC hA8 haim c (d := d) (by omega) hb' (by omega) (st0 _ e) (kp_rA k1 hA) n1 t1 ?_) (by omega)
      intro m2 k2 n2 t2
      exact tail m2 (k1.trans k2) n2 t2
