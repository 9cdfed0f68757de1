-- THE MODEL: tape, item, shift, judge, feed
theorem mI_T {X : GS} {k l : Nat} {s : Int32} {f : Nat → Int64} {m m' : mm_Mem} (hX : okX X) (hk : k < 6) (hI : mI X m) (hz : ∀ a, a ≠ 202 → a ≠ 203 → m'.1 a = m.1 a) (h2 : ∀ a, a ≠ 205 + k → a ≠ 211 → m'.2 a = m.2 a) (h202 : ∀ x, m'.1 202 x = if x = k then s else m.1 202 x) (h203 : ∀ x, m'.1 203 x = if x = k then nI l else m.1 203 x) (hf : ∀ i, i < 60 → m'.2 (205 + k) i = f i) : mI (setT X k s l f) m' := by
  obtain ⟨g1, g2, g3, g4, g5⟩ := hI
  have hr : ∀ g z S, g < 200 → z < 190 → sC S ≤ 4 → rMs g z S m → rMs g z S m' := by
    intro g z S hg hz2 hc hS
    obtain ⟨b1, b2, b3, b4, b5⟩ := hS
    unfold rMs
    rw [hz g (by omega) (by omega), hz z (by omega) (by omega)]
    exact ⟨b1, b2, b3, b4, fun i hi => by rw [hz _ (by omega) (by omega)]; exact b5 i hi⟩
  refine ⟨hr _ _ _ (by omega) (by omega) hX.1.2.1.2 g1, ?_, fun e => hr _ _ _ (by omega) (by omega) (hX.2.1 e).2.1.2 (g3 e), ⟨?_, fun j hj => ?_⟩, fun j hj => ?_⟩
  · rw [hz 82 (by omega) (by omega)]; exact g2
  · rw [hz 82 (by omega) (by omega)]; exact g4.1
  · rw [hz 201 (by omega) (by omega)]; exact g4.2 j hj
  · show m'.1 202 j = ud (gSo X) k s j ∧ m'.1 203 j = nI (ud (gLn X) k l j) ∧ ∀ i, i < 60 → m'.2 (205 + j) i = ud (gIt X) k f j i
    rw [h202, h203]
    by_cases e : j = k
    · subst e
      rw [if_pos rfl, if_pos rfl, ud_s, ud_s, ud_s]
      exact ⟨rfl, rfl, hf⟩
    · rw [if_neg e, if_neg e, ud_n e, ud_n e, ud_n e, h2 _ (by omega) (by omega)]
      exact g5 j hj
theorem le4 {v : Int32} : (v ≤ nI 4) = (v < nI 5) := by
  apply propext
  rw [Int32.le_iff_toInt_le, Int32.lt_iff_toInt_lt, nI_toInt (by omega), nI_toInt (by omega)]
  omega
theorem m_tape {d sn : Nat} {X : GS} {t v n : Int32} {m : mm_Mem} {P : Int32 → mm_Mem → Prop} (hX : okX X) (hI : mI X m) (h : ∀ m', fz 82 211 m m' → mI (X_tape X t v n) m' → P (A_tape t v n) m') : mm_sp (d + 3) sn kX11_tape [.ref 82, .int t, .int v, .int n] m (qI P) := by
  refine v_X11_tape ?_
  unfold A_tape X_tape at h
  refine m_isTape (e_vb (fun e => ?_) (fun e => ?_))
  · rw [if_neg (nz e), if_neg (nz e)] at h
    obtain ⟨k, hk, rfl⟩ := iz_t (by omega) e
    rw [e_cl (by omega)] at h
    have body : ∀ (l : Nat) (s : Int32), (∀ m', fz 82 211 m m' → mI (setT X k s l (fun _ => lN 0)) m' → P (nI 1) m') → ∀ m4 : mm_Mem, m4 = (mm_u2 (mm_u2 m.1 202 k s) 203 k (nI l), m.2) → mm_wp (d + 2) sn kX11_tape 72 [some (.ref 82), some (.int (nI k)), none, none, some (.int (nI 0))] [] m4 (qI P) := by
      intro l s hp m4 q4
      have u : ∀ a x, m4.1 a x = if a = 203 ∧ x = k then nI l else if a = 202 ∧ x = k then s else m.1 a x := by
        intro a x
        subst q4
        simp only [e_u2]
      have u2 : m4.2 = m.2 := by subst q4; rfl
      have f4 : fr [202, 203] m m4 := by
        subst q4
        exact (fr_u2 (by simp)).trans (fr_u2 (m := (_, _)) (by simp))
      clear q4
      refine lp_up (W := fun i => ∀ m5 : mm_Mem, m5.1 = m4.1 → (∀ a, a ≠ 205 + k → m5.2 a = m4.2 a) → (∀ x, x < i → m5.2 (205 + k) x = lN 0) → mm_wp (d + 2) sn kX11_tape 72 [some (.ref 82), some (.int (nI k)), none, none, some (.int (nI i))] [] m5 (qI P)) (Nat.zero_le 60) ?_ ?_ m4 rfl (fun a _ => rfl) (fun x hx => by omega)
      · intro m5 g0 g1 g2
        refine v_X11_tape_72 (e_vT (by decide) (hp m5 (fun a ha => ⟨?_, ?_⟩) (mI_T hX hk hI (fun a a1 a2 => ?_) (fun a a1 _ => ?_) (fun x => ?_) (fun x => ?_) g2)))
        · rw [g0, f4.i (by simp; omega)]
        · rw [g1 a (by omega), u2]
        · rw [g0, f4.i (by simp; omega)]
        · rw [g1 a a1, u2]
        · rw [g0, u, if_neg (by omega)]
          simp only [true_and]
        · rw [g0, u]
          simp only [true_and]
          rw [if_neg (show ¬ (203 = 202 ∧ x = k) by omega)]
      · intro i _ hi ih m5 g0 g1 g2
        refine v_X11_tape_72 (e_vF (by rw [e_le (by omega) (by omega)]; omega) ⟨k, hk, rfl, ?_⟩)
        rw [e_vin (by omega) (by omega), e_cl (by omega), e_add]
        refine ⟨hi, fun m6 q6 => ih m6 (by subst q6; exact g0) (fun a ha => ?_) (fun x hx => ?_)⟩
        · subst q6
          show mm_u2 m5.2 (205 + k) i (lN 0) a = _
          rw [u2_r ha, g1 a ha]
        · subst q6
          simp only [e_u2, true_and]
          by_cases e5 : x = i
          · rw [if_pos e5]
          · rw [if_neg e5]; exact g2 x (by omega)
    have em : ((-1 : Int64)) = (-1 : Int32).toInt64 := by decide
    rw [e_l4, em, e_vin (by omega) (by omega), e_cl (by omega)]
    refine s_inC (e_vz (fun e2 => ?_) (fun e2 => ?_))
    · have c := of_decide_eq_false e2
      have c2 : v < -1 ∨ ¬ v < nI 5 := by
        rw [le4] at c
        by_cases c3 : v < -1
        · exact Or.inl c3
        · exact Or.inr (fun c4 => c ⟨c3, c4⟩)
      rw [if_pos c2, if_pos c2] at h
      exact h m fz.refl hI
    · have c := of_decide_eq_true e2
      rw [le4] at c
      have c2 : ¬ (v < -1 ∨ ¬ v < nI 5) := fun hh => hh.elim c.1 (fun hh => hh c.2)
      rw [if_neg c2, if_neg c2] at h
      have neg : v < 0 → v = -1 := by
        intro hv
        rw [Int32.lt_iff_toInt_lt] at hv
        have c1 := c.1
        rw [Int32.lt_iff_toInt_lt] at c1
        rw [← Int32.toInt_inj]
        have e1 : (-1 : Int32).toInt = -1 := rfl
        have e0 : (0 : Int32).toInt = 0 := rfl
        rw [e1] at c1 ⊢
        rw [e0] at hv
        omega
      have st : (v < 0 ∨ (n ≤ nI 60 ∧ 0 ≤ n)) → vp_in (nI k) 6 ∧ (∀ m3 : mm_Mem, m3 = (mm_u2 m.1 202 k v, m.2) → (((0 ≤ v) → (vp_in (nI k) 6 ∧ (∀ m4 : mm_Mem, m4 = (mm_u2 m3.1 203 k n, m3.2) → (mm_wp (d + 2) sn kX11_tape 72 [some (.ref 82), some (.int (nI k)), none, none, some (.int (nI 0))] [] m4 (qI P))))) ∧ (¬ (0 ≤ v) → (vp_in (nI k) 6 ∧ (∀ m5 : mm_Mem, m5 = (mm_u2 m3.1 203 k (nI 0), m3.2) → (mm_wp (d + 2) sn kX11_tape 72 [some (.ref 82), some (.int (nI k)), none, none, some (.int (nI 0))] [] m5 (qI P))))))) := by
        intro hc
        rw [e_vin (by omega) (by omega)]
        refine ⟨hk, fun m3 q3 => ⟨fun c5 => ⟨hk, fun m4 q4 => ?_⟩, fun c5 => ⟨hk, fun m4 q4 => ?_⟩⟩⟩
        · have hv1 : ¬ v = -1 := fun e => by subst e; revert c5; decide
          have hc : n ≤ nI 60 ∧ 0 ≤ n := by
            rcases hc with hc | hc
            · exact absurd c5 (Int32.not_le.mpr hc)
            · exact hc
          have hc1 : ¬ ¬ n ≤ nI 60 := not_not_intro hc.1
          have hc2 : ¬ ¬ 0 ≤ n := not_not_intro hc.2
          rw [if_neg hv1, if_neg hv1, if_neg hc1, if_neg hc1, if_neg hc2, if_neg hc2] at h
          obtain ⟨l, hl, rfl⟩ := n60 hc.1 hc.2
          rw [e_cl (by omega)] at h
          exact body l v h m4 (by subst q3; exact q4)
        · have hv1 := neg (Int32.not_le.mp c5)
          rw [if_pos hv1, if_pos hv1] at h
          exact body 0 v h m4 (by subst q3; exact q4)
      have hge : ¬ v < 0 → ¬ v = -1 := fun c5 e => c5 (by subst e; decide)
      rw [e_vin (by omega) (by omega)] at st
      refine ⟨fun c3 => ⟨fun _ => st (Or.inl c3), fun c4 => absurd c3 c4⟩, fun c3 => ⟨fun c4 => ⟨fun c5 => absurd c5 c3, fun _ => ⟨fun c6 => st (Or.inr ⟨c4, c6⟩), fun c6 => ?_⟩⟩, fun c4 => ?_⟩⟩
      · rw [if_neg (hge c3), if_neg (hge c3), if_neg (Classical.not_not.mpr c4), if_neg (Classical.not_not.mpr c4), if_pos c6, if_pos c6] at h
        exact h m fz.refl hI
      · rw [if_neg (hge c3), if_neg (hge c3), if_pos c4, if_pos c4] at h
        exact h m fz.refl hI
  · rw [if_pos e, if_pos e] at h
    exact h m fz.refl hI
theorem so_ge {X : GS} {k : Nat} (hX : okX X) (hk : k < 6) : (0 ≤ gSo X k) = ¬ (gSo X k = -1) := by
  rcases (hX.2.2.2 k hk).1 with ⟨e, _⟩ | ⟨q, hq, e⟩
  · have e : gSo X k = -1 := e
    rw [e]; decide
  · have e : gSo X k = nI q := e
    rw [e, e_m1 (by omega), e_0le (by omega)]
    simp
theorem so_lt {X : GS} {k : Nat} (hX : okX X) (hk : k < 6) : (gSo X k < 0) = (gSo X k = -1) := by
  have h := so_ge hX hk
  apply propext
  constructor
  · intro c
    refine Classical.byContradiction fun c2 => ?_
    rw [← h] at c2
    exact absurd c2 (Int32.not_le.mpr c)
  · intro c; rw [c]; decide
theorem m_item {d sn : Nat} {X : GS} {t i : Int32} {v : Int64} {m : mm_Mem} {P : Int32 → mm_Mem → Prop} (hX : okX X) (hI : mI X m) (h : ∀ m', fz 82 211 m m' → mI (X_item X t i v) m' → P (A_item X t i) m') : mm_sp (d + 3) sn kX11_item [.ref 82, .int t, .int i, .long v] m (qI P) := by
  refine v_X11_item ?_
  unfold A_item X_item at h
  refine m_isTape (e_vb (fun e => ?_) (fun e => ?_))
  · rw [if_neg (nz e), if_neg (nz e)] at h
    obtain ⟨k, hk, rfl⟩ := iz_t (by omega) e
    rw [e_cl (by omega)] at h ⊢
    obtain ⟨g0, g1, g2⟩ := hI.2.2.2.2 k hk
    have hl : gLn X k ≤ 60 := (hX.2.2.2 k hk).2
    rw [e_vin (by omega) (by omega), g0, g1, so_ge hX hk]
    refine ⟨hk, fun c => ⟨hk, ?_⟩, fun c => ?_⟩
    · rw [if_neg c, if_neg c] at h
      refine s_in (e_pred (by omega)) (by omega) (e_vb (fun e2 => ?_) (fun e2 => ?_))
      · rw [if_pos e2, if_pos e2] at h
        obtain ⟨j, hj, rfl⟩ := iz_t (by omega) e2
        rw [e_cl (by omega)] at h ⊢
        rw [e_vin (by omega) (by omega), g0]
        have body : ∀ w : Int64, cutv (gSo X k) v = w → ∀ m3 : mm_Mem, m3 = (m.1, mm_u2 m.2 (205 + k) j w) → P (nI 1) m3 := by
          intro w ew m3 q3
          rw [ew] at h
          refine h m3 (fun a ha => ⟨?_, ?_⟩) (mI_T hX hk hI (fun a _ _ => ?_) (fun a a1 _ => ?_) (fun x => ?_) (fun x => ?_) (fun x hx => ?_))
          · subst q3; rfl
          · subst q3
            exact u2_r (by omega)
          · subst q3; rfl
          · subst q3
            exact u2_r a1
          · subst q3
            show m.1 202 x = _
            by_cases e5 : x = k
            · subst e5; rw [if_pos rfl, g0]
            · rw [if_neg e5]
          · subst q3
            show m.1 203 x = _
            by_cases e5 : x = k
            · subst e5; rw [if_pos rfl, g1]
            · rw [if_neg e5]
          · subst q3
            simp only [e_u2, true_and]
            by_cases e5 : x = j
            · subst e5; rw [if_pos rfl, ud_s]
            · rw [if_neg e5, ud_n e5]; exact g2 x hx
        have hz : (gSo X k = 0) = (gSo X k = nI 0) := by rw [nI_0]
        have hj60 : vp_in (nI j) 60 := by rw [e_vin (by omega) (by omega)]; omega
        unfold cutv at body
        refine ⟨k, hk, rfl, hk, ⟨fun c0 => ⟨hk, ⟨fun c1 => ⟨hk, ⟨fun c2 => ⟨hk, ⟨fun c3 => ?_, fun c3 => ⟨by omega, fun m3 q3 => body _ ?_ m3 q3⟩⟩⟩, fun c2 => ⟨by omega, fun m3 q3 => body _ ?_ m3 q3⟩⟩⟩, fun c1 => ⟨by omega, fun m3 q3 => body _ ?_ m3 q3⟩⟩⟩, fun c0 => ⟨by omega, fun m3 q3 => body _ ?_ m3 q3⟩⟩⟩
        · rw [hz] at c0
          have c4 : gSo X k = nI 4 := by
            rcases (hX.2.2.2 k hk).1 with ⟨e5, _⟩ | ⟨q, hq, e5⟩
            · exact absurd e5 c
            · have e5 : gSo X k = nI q := e5
              rw [e5] at c0 c1 c2 c3 ⊢
              have : q ≠ 0 := fun e => c0 (by rw [e])
              have : q ≠ 1 := fun e => c1 (by rw [e])
              have : q ≠ 2 := fun e => c2 (by rw [e])
              have : q ≠ 3 := fun e => c3 (by rw [e])
              have : q = 4 := by omega
              rw [this]
          rw [if_neg c0, if_neg c1, if_neg c2, if_pos c4] at body
          refine ⟨fun c5 => ⟨by omega, fun m3 q3 => body _ (if_pos c5) m3 q3⟩, fun c5 => ⟨by omega, fun m3 q3 => body _ (if_neg c5) m3 q3⟩⟩
        · rw [hz] at c0
          have c3 := Classical.not_not.mp c3
          rw [c3]; rfl
        · have c2 := Classical.not_not.mp c2
          rw [c2]; rfl
        · have c1 := Classical.not_not.mp c1
          rw [c1]; rfl
        · have c0 := Classical.not_not.mp c0
          rw [hz] at c0
          rw [c0]; rfl
      · rw [if_neg (nt e2), if_neg (nt e2)] at h
        exact h m fz.refl hI
    · have c := Classical.not_not.mp c
      rw [if_pos c, if_pos c] at h
      exact h m fz.refl hI
  · rw [if_pos e, if_pos e] at h
    exact h m fz.refl hI
theorem e_sblt {l a n : Nat} (hl : l < 10000) (ha : a < 2147483648) (hn : n < 2147483648) : (nI l - nI a < nI n) = (l < n + a) := by
  apply propext
  rw [Int32.lt_iff_toInt_lt, Int32.toInt_sub, nI_toInt (show l < 2147483648 by omega), nI_toInt ha, nI_toInt hn, bm (by omega) (by omega)]
  omega
theorem e_ltsb {l a n : Nat} (hl : l < 10000) (ha : a < 2147483648) (hn : n < 2147483648) : (nI n < nI l - nI a) = (n + a < l) := by
  apply propext
  rw [Int32.lt_iff_toInt_lt, Int32.toInt_sub, nI_toInt (show l < 2147483648 by omega), nI_toInt ha, nI_toInt hn, bm (by omega) (by omega)]
  omega
theorem e_lesb {l a n : Nat} (hl : l < 10000) (ha : a < 2147483648) (hn : n < 2147483648) : (nI n ≤ nI l - nI a) = (n + a ≤ l) := by
  apply propext
  rw [Int32.le_iff_toInt_le, Int32.toInt_sub, nI_toInt (show l < 2147483648 by omega), nI_toInt ha, nI_toInt hn, bm (by omega) (by omega)]
  omega
theorem hpl_n {l a b : Nat} (hl : l ≤ 60) (ha : a < 2147483648) (hb : b < 2147483648) : hpl l (nI a) (nI b) = decide (a + b ≤ l) := by
  unfold hpl
  refine decide_eq_decide.mpr ?_
  rw [e_sblt (by omega) ha hb, e_lt0 ha, e_lt0 hb, e_lt (by omega) ha]
  exact ⟨fun hh => by have := hh.2.2.2; omega, fun hh => ⟨id, id, by omega, by omega⟩⟩
theorem m_shift {d sn : Nat} {X : GS} {t i o j n : Int32} {m : mm_Mem} {P : Int32 → mm_Mem → Prop} (hX : okX X) (hI : mI X m) (h : ∀ m', fz 82 211 m m' → mI (X_shift X t i o j n) m' → P (A_shift X t i o j n) m') : mm_sp (d + 3) sn kX11_shift [.ref 82, .int t, .int i, .int o, .int j, .int n] m (qI P) := by
  refine v_X11_shift ?_
  unfold A_shift X_shift at h
  refine m_isTape (e_vz (fun e => ?_) (fun e => ?_))
  · rw [if_pos (Or.inl e), if_pos (Or.inl e)] at h
    exact h m fz.refl hI
  · refine m_isTape (e_vb (fun e2 => ?_) (fun e2 => ?_))
    · have n1 : ¬ (iz t 6 = false ∨ iz o 6 = false) := by rw [e, e2]; decide
      rw [if_neg n1, if_neg n1] at h
      obtain ⟨k, hk, rfl⟩ := iz_t (by omega) e
      obtain ⟨q, hq, rfl⟩ := iz_t (by omega) e2
      rw [e_cl (by omega), e_cl (by omega)] at h
      rw [e_cl (by omega), e_cl (by omega)]
      obtain ⟨g0, g1, g2⟩ := hI.2.2.2.2 k hk
      obtain ⟨k0, k1, k2⟩ := hI.2.2.2.2 q hq
      have hl : gLn X k ≤ 60 := (hX.2.2.2 k hk).2
      have hl2 : gLn X q ≤ 60 := (hX.2.2.2 q hq).2
      rw [e_vin (by omega) (by omega), e_vin (by omega) (by omega), g0, k0, g1, k1, so_lt hX hk, so_ge hX hq]
      refine ⟨hk, fun c => ?_, fun c => ⟨hq, fun c2 => ⟨hk, hq, fun c3 => ?_, fun c3 => ?_⟩, fun c2 => ?_⟩⟩
      · rw [if_pos (Or.inl c), if_pos (Or.inl c)] at h
        exact h m fz.refl hI
      · have n2 : ¬ (gSo X k = -1 ∨ gSo X q = -1) := fun hh => hh.elim c c2
        rw [if_neg n2, if_neg n2, if_neg (not_not_intro c3), if_neg (not_not_intro c3)] at h
        have bad : ¬ (hpl (gLn X k) i n = true ∧ hpl (gLn X q) j n = true) → P (-13) m := by
          intro hb
          rw [if_neg hb, if_neg hb] at h
          exact h m fz.refl hI
        refine ⟨fun c4 => bad (fun hh => (of_decide_eq_true hh.1).1 c4), fun c4 => ⟨fun c5 => bad (fun hh => (of_decide_eq_true hh.1).2.1 c5), fun c5 => ⟨fun c6 => bad (fun hh => (of_decide_eq_true hh.2).2.1 c6), fun c6 => ?_⟩⟩⟩
        obtain ⟨en, hn⟩ := nn_of (Int32.not_lt.mp c4)
        obtain ⟨ei, hi⟩ := nn_of (Int32.not_lt.mp c5)
        obtain ⟨ej, hj⟩ := nn_of (Int32.not_lt.mp c6)
        generalize n.toNatClampNeg = b at *
        generalize i.toNatClampNeg = a at *
        generalize j.toNatClampNeg = a2 at *
        subst en; subst ei; subst ej
        rw [hpl_n hl hi hn, hpl_n hl2 hj hn] at bad h
        rw [e_sblt (by omega) hi hn, e_lesb (by omega) hj hn]
        refine ⟨hk, fun c7 => bad (fun hh => by have := of_decide_eq_true hh.1; omega), fun c7 => ⟨hq, fun c8 => ?_, fun c8 => bad (fun hh => by have := of_decide_eq_true hh.2; omega)⟩⟩
        have hcc : decide (a + b ≤ gLn X k) = true ∧ decide (a2 + b ≤ gLn X q) = true := ⟨decide_eq_true (by omega), decide_eq_true (by omega)⟩
        rw [if_pos hcc, if_pos hcc] at h
        refine lp_up (W := fun x => ∀ m1 : mm_Mem, m1.1 = m.1 → (∀ y, y ≠ 211 → m1.2 y = m.2 y) → (∀ y, y < x → m1.2 211 y = m.2 (205 + k) (a + y)) → mm_wp (d + 2) sn kX11_shift 102 [some (.ref 82), some (.int (nI k)), some (.int (nI a)), some (.int (nI q)), some (.int (nI a2)), some (.int (nI b)), some (.int (nI x))] [] m1 (qI P)) (Nat.zero_le b) ?_ ?_ m rfl (fun _ _ => rfl) (fun y hy => by omega)
        · intro m1 p0 p1 p2
          refine v_X11_shift_102 (e_vT (Int32.le_refl _) ?_)
          refine lp_up (W := fun x => ∀ m2 : mm_Mem, m2.1 = m.1 → (∀ y, y ≠ 211 → y ≠ 205 + q → m2.2 y = m.2 y) → m2.2 211 = m1.2 211 → (∀ y, m2.2 (205 + q) y = if a2 ≤ y ∧ y < a2 + x then m.2 (205 + k) (a + (y - a2)) else m.2 (205 + q) y) → mm_wp (d + 2) sn kX11_shift 136 [some (.ref 82), none, none, some (.int (nI q)), some (.int (nI a2)), some (.int (nI b)), some (.int (nI x))] [] m2 (qI P)) (Nat.zero_le b) ?_ ?_ m1 p0 (fun y y1 _ => p1 y y1) rfl (fun y => ?_)
          · intro m2 r0 r1 r2 r3
            refine v_X11_shift_136 (e_vT (Int32.le_refl _) (h m2 (fun y hy => ⟨by rw [r0], r1 y (by omega) (by omega)⟩) (mI_T hX hq hI (fun y _ _ => by rw [r0]) (fun y y1 y2 => r1 y y2 y1) (fun x => ?_) (fun x => ?_) (fun x hx => ?_))))
            · rw [r0]
              by_cases e5 : x = q
              · subst e5; rw [if_pos rfl, k0]
              · rw [if_neg e5]
            · rw [r0]
              by_cases e5 : x = q
              · subst e5; rw [if_pos rfl, k1]
              · rw [if_neg e5]
            · rw [r3]
              by_cases e5 : a2 ≤ x ∧ x < a2 + b
              · rw [if_pos e5, pk_cpy_in e5.1 e5.2]
                exact g2 _ (by omega)
              · rw [if_neg e5, pk_cpy_out (by omega)]
                exact k2 x hx
          · intro x _ hx ih m2 r0 r1 r2 r3
            refine v_X11_shift_136 (e_vF (by rw [e_le (by omega) (by omega)]; omega) ⟨q, hq, rfl, ?_⟩)
            rw [e_add, e_vin (by omega) (by omega), e_vin (by omega) (by omega), e_cl (by omega), e_cl (by omega), r2, p2 x hx, e_add]
            refine ⟨by omega, by omega, fun m3 q3 => ih m3 (by subst q3; exact r0) (fun y y1 y2 => ?_) ?_ (fun y => ?_)⟩
            · subst q3
              show mm_u2 m2.2 (205 + q) _ _ y = _
              rw [u2_r y2, r1 y y1 y2]
            · subst q3
              show mm_u2 m2.2 (205 + q) _ _ 211 = _
              rw [u2_r (by omega), r2]
            · subst q3
              simp only [e_u2, true_and]
              by_cases e5 : y = a2 + x
              · subst e5
                rw [if_pos rfl, if_pos (by omega)]
                have : a2 + x - a2 = x := by omega
                rw [this]
              · rw [if_neg e5, r3]
                by_cases e6 : a2 ≤ y ∧ y < a2 + x
                · rw [if_pos e6, if_pos (by omega)]
                · rw [if_neg e6, if_neg (by omega)]
          · rw [if_neg (by omega), p1 _ (by omega)]
        · intro x _ hx ih m1 p0 p1 p2
          refine v_X11_shift_102 (e_vF (by rw [e_le (by omega) (by omega)]; omega) ⟨k, hk, rfl, ?_⟩)
          rw [e_add, e_vin (by omega) (by omega), e_vin (by omega) (by omega), e_cl (by omega), e_cl (by omega), p1 _ (by omega), e_add]
          refine ⟨by omega, by omega, fun m2 q2 => ih m2 (by subst q2; exact p0) (fun y hy => ?_) (fun y hy => ?_)⟩
          · subst q2
            show mm_u2 m1.2 211 _ _ y = _
            rw [u2_r hy, p1 y hy]
          · subst q2
            simp only [e_u2, true_and]
            by_cases e5 : y = x
            · subst e5; rw [if_pos rfl]
            · rw [if_neg e5]; exact p2 y (by omega)
      · have n2 : ¬ (gSo X k = -1 ∨ gSo X q = -1) := fun hh => hh.elim c c2
        rw [if_neg n2, if_neg n2, if_pos c3, if_pos c3] at h
        exact h m fz.refl hI
      · have c2 := Classical.not_not.mp c2
        rw [if_pos (Or.inr c2), if_pos (Or.inr c2)] at h
        exact h m fz.refl hI
    · rw [if_pos (Or.inr e2), if_pos (Or.inr e2)] at h
      exact h m fz.refl hI
theorem m_feed {d sn : Nat} {X : GS} {c : Int32} {m : mm_Mem} {P : Int32 → mm_Mem → Prop} (hX : okX X) (hI : mI X m) (h : ∀ m', fz 82 211 m m' → mI (X_feed X c) m' → P (A_feed X c) m') : mm_sp (d + 2) sn kX11_feed [.ref 82, .int c] m (qI P) := by
  refine v_X11_feed ?_
  unfold A_feed X_feed at h
  have e127 : lN 127 = (nI 127).toInt64 := by decide
  have hT := hX.2.2.1
  obtain ⟨g1, g2, g3, g4, g5⟩ := hI
  rw [e127]
  refine s_in (n := 128) (by decide) (by omega) (e_vb (fun e => ?_) (fun e => ?_))
  · rw [if_neg (nz e), if_neg (nz e)] at h
    have hT1 := hT.1
    rw [g4.1, e_eq (by omega) (by omega), e_vin (by omega) (by omega), e_cl (by omega)]
    refine ⟨fun c2 => ⟨by omega, fun m2 q2 m3 q3 => ?_⟩, fun c2 => ?_⟩
    · rw [if_neg c2, if_neg c2] at h
      have u82 : ∀ x, m3.1 82 x = if x = 16 then nI (X.2.2.2.1.1 + 1) else m.1 82 x := by
        intro x
        subst q2; subst q3
        simp only [e_u2, true_and]
        rw [if_neg (show ¬ (82 = 201 ∧ 16 = X.2.2.2.1.1) by omega), if_neg (show ¬ (82 = 201 ∧ x = X.2.2.2.1.1) by omega), g4.1, e_add]
      have u201 : ∀ x, m3.1 201 x = if x = X.2.2.2.1.1 then c else m.1 201 x := by
        intro x
        subst q2; subst q3
        simp only [e_u2, true_and]
        rw [if_neg (show ¬ (201 = 82 ∧ x = 16) by omega)]
      have f3 : fr [82, 201] m m3 := by
        subst q2; subst q3
        exact (fr_u2 (by simp)).trans (fr_u2 (m := (_, _)) (by simp))
      rw [u82, if_pos rfl]
      have hr : ∀ g z S, g < 200 → z < 190 → 82 < g → 82 < z → sC S ≤ 4 → rMs g z S m → rMs g z S m3 := by
        intro g z S hg hz2 hg2 hz3 hc hS
        obtain ⟨b1, b2, b3, b4, b5⟩ := hS
        unfold rMs
        rw [f3.i (by simp; omega), f3.i (by simp; omega)]
        exact ⟨b1, b2, b3, b4, fun i hi => by rw [f3.i (by simp; omega)]; exact b5 i hi⟩
      refine h m3 (fun a ha => f3 a (by simp; omega)) ⟨hr _ _ _ (by omega) (by omega) (by omega) (by omega) hX.1.2.1.2 g1, ?_, fun e => hr _ _ _ (by omega) (by omega) (by omega) (by omega) (hX.2.1 e).2.1.2 (g3 e), ⟨?_, fun j hj => ?_⟩, fun k hk => ?_⟩
      · rw [u82, if_neg (by omega)]; exact g2
      · rw [u82, if_pos rfl]; rfl
      · have hj : j < X.2.2.2.1.1 + 1 := hj
        show m3.1 201 j = ud X.2.2.2.1.2 X.2.2.2.1.1 c j
        rw [u201]
        by_cases e5 : j = X.2.2.2.1.1
        · rw [if_pos e5, e5, ud_s]
        · rw [if_neg e5, ud_n e5]; exact g4.2 j (by omega)
      · rw [f3.i (by simp), f3.i (by simp), f3.l (by simp; omega)]
        exact g5 k hk
    · have c2 := Classical.not_not.mp c2
      rw [if_pos c2, if_pos c2] at h
      exact h m fz.refl ⟨g1, g2, g3, g4, g5⟩
  · rw [if_pos e, if_pos e] at h
    exact h m fz.refl ⟨g1, g2, g3, g4, g5⟩
theorem m_judge {d sn : Nat} {X : GS} {t i : Int32} {m : mm_Mem} {P : Int32 → mm_Mem → Prop} (hX : okX X) (hI : mI X m) (h : ∀ m', fz 82 211 m m' → mI X m' → P (A_judge X t i) m') : mm_sp (d + 3) sn kX11_judge [.ref 82, .int t, .int i] m (qI P) := by
  refine v_X11_judge ?_
  have h := h m fz.refl hI
  unfold A_judge at h
  refine m_isTape (e_vb (fun e => ?_) (fun e => ?_))
  · rw [if_neg (by rw [e]; decide)] at h
    obtain ⟨k, hk, rfl⟩ := iz_t (by omega) e
    rw [e_cl (by omega)] at h ⊢
    obtain ⟨g0, g1, g2⟩ := hI.2.2.2.2 k hk
    have hl : gLn X k ≤ 60 := (hX.2.2.2 k hk).2
    have hl0 : gSo X k = -1 → gLn X k = 0 := by
      intro e5
      rcases (hX.2.2.2 k hk).1 with ⟨_, e6⟩ | ⟨q, hq, e6⟩
      · exact e6
      · have e6 : gSo X k = nI q := e6
        rw [e5] at e6
        exact absurd e6.symm (by rw [e_m1 (by omega)]; exact id)
    have body : P (jd (sB X.1) (gLn X k) (gIt X k) i (cN (sB X.1) 256)) m → mm_wp (d + 2) sn kX11_judge 37 [some (.ref 82), some (.int (nI k)), some (.int i), some (.int (nI 0)), some (.int (nI 0))] [] m (qI P) := by
      intro hp
      refine lp_up (W := fun s => P (jd (sB X.1) (gLn X k) (gIt X k) i (cN (sB X.1) 256 - cN (sB X.1) s)) m → mm_wp (d + 2) sn kX11_judge 37 [some (.ref 82), some (.int (nI k)), some (.int i), some (.int (nI (cN (sB X.1) s))), some (.int (nI s))] [] m (qI P)) (Nat.zero_le 256) ?_ ?_ hp
      · intro hp
        rw [Nat.sub_self] at hp
        exact v_X11_judge_37 (e_vT (by decide) hp)
      · intro s _ hs ih hp
        refine v_X11_judge_37 (e_vF (by rw [e_le (by omega) (by omega)]; omega) ?_)
        have hcl := cN_le (sB X.1) s
        rw [e_vin (by omega) (by omega), e_cl (by omega), hI.1.2.2.2.1 s hs, e_cl (by omega), e_vin (by omega) (by omega), g0, g1, e_add, e_add, so_lt hX hk]
        refine ⟨hs, e_vz (fun e3 => ?_) (fun e3 => ?_)⟩
        · rw [cN_f e3] at ih; exact ih hp
        · rw [cN_t e3] at ih
          have hct := cN_t e3
          have hcm := cN_mono (p := sB X.1) (show s + 1 ≤ 256 by omega)
          generalize hr : cN (sB X.1) 256 - (cN (sB X.1) s + 1) = r at ih
          have er : cN (sB X.1) 256 - cN (sB X.1) s = r + 1 := by omega
          have er2 : cN (sB X.1) 256 - (r + 1) = cN (sB X.1) s := by omega
          rw [er] at hp
          unfold jd at hp
          rw [er2] at hp
          refine ⟨fun c => ?_, fun c => ⟨hk, fun c2 => ?_, fun c2 => ⟨hk, ?_⟩⟩⟩
          · rw [if_pos (Or.inl c)] at hp
            exact hp
          · have h0 : ¬ (nI (cN (sB X.1) s) < nI (gLn X k) - i) := by
              obtain ⟨ei, hi⟩ := nn_of (Int32.not_lt.mp c)
              rw [ei, e_ltsb (by omega) hi (by omega), hl0 c2]
              omega
            rw [if_pos (Or.inr h0)] at hp
            exact hp
          · obtain ⟨ei, hi⟩ := nn_of (Int32.not_lt.mp c)
            generalize i.toNatClampNeg = a at *
            subst ei
            rw [e_ltsb (by omega) (by omega) hi]
            have hlt : (nI (cN (sB X.1) s) < nI (gLn X k) - nI a) = (cN (sB X.1) s + a < gLn X k) := e_ltsb (by omega) hi (by omega)
            refine ⟨fun c3 => ⟨k, hk, rfl, ?_⟩, fun c3 => ?_⟩
            · rw [if_neg (fun hh => hh.elim c (fun hh => hh (by rw [hlt]; omega))), nthV_s hs e3 rfl, e_add] at hp
              rw [e_add, e_vin (by omega) (by omega), e_cl (by omega), g2 _ (by omega)]
              unfold itV at hp
              rw [if_pos (iz_j (by omega) (by omega)), e_cl (by omega)] at hp
              refine ⟨by omega, fun c4 => ?_, fun c4 => ?_⟩
              · rw [if_pos c4] at hp
                rw [e_add]
                exact ih hp
              · rw [if_neg c4] at hp
                exact hp
            · rw [if_pos (Or.inr (by rw [hlt]; omega))] at hp
              exact hp
    rw [e_vin (by omega) (by omega), g0]
    refine ⟨hk, fun c => ?_, fun c => ⟨hk, fun c2 => ?_, fun c2 => ?_⟩⟩
    · rw [if_pos (Or.inl c)] at h
      exact body h
    · rw [if_pos (Or.inr c2)] at h
      exact body h
    · rw [if_neg (fun hh => hh.elim c c2)] at h
      exact h
  · rw [if_pos e] at h
    exact h
