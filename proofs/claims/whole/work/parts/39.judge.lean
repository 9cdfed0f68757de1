-- the class's shift, judge, feed
def hpl (l : Nat) (i n : Int32) : Bool := decide (¬ n < 0 ∧ ¬ i < 0 ∧ ¬ nI l < i ∧ ¬ (nI l - i < n))
theorem s_hasPlaces {d sn a l : Nat} {i n : Int32} {m : mm_Mem} {P : Int32 → mm_Mem → Prop} (ha : shT a) (h1 : m.1 a 1 = nI l) (h : P (nI (hpl l i n).toNat) m) : mm_sp (d + 1) sn kX7_hasPlaces [.ref a, .int i, .int n] m (qI P) := by
  refine v_X7_hasPlaces ha ?_
  rw [h1]
  unfold hpl at h
  refine ⟨fun c => ?_, fun c => ⟨fun c2 => ?_, fun c2 => ⟨fun c3 => ?_, fun c3 => ⟨fun c4 => ?_, fun c4 => ?_⟩⟩⟩⟩
  · rw [decide_eq_false (fun e => e.1 c)] at h; exact h
  · rw [decide_eq_false (fun e => e.2.1 c2)] at h; exact h
  · rw [decide_eq_false (fun e => e.2.2.1 c3)] at h; exact h
  · rw [decide_eq_false (fun e => e.2.2.2 c4)] at h; exact h
  · rw [decide_eq_true ⟨c, c2, c3, c4⟩] at h; exact h
theorem hpl_t {l : Nat} {i n : Int32} (hl : l ≤ 60) (h : hpl l i n = true) : ∃ a b, a + b ≤ l ∧ i = nI a ∧ n = nI b := by
  have h := of_decide_eq_true h
  obtain ⟨e1, e2⟩ := nn_of (Int32.not_lt.mp h.1)
  obtain ⟨e3, e4⟩ := nn_of (Int32.not_lt.mp h.2.1)
  have h3 := h.2.2.1
  have h4 := h.2.2.2
  rw [e3, e_lt (by omega) e4] at h3
  rw [e3, e_sub (by omega), e1, e_lt (by omega) e2] at h4
  exact ⟨_, _, by omega, e3, e1⟩
def A_shift (X : GS) (t i o j n : Int32) : Int32 := if iz t 6 = false ∨ iz o 6 = false then -1 else if gSo X t.toNatClampNeg = -1 ∨ gSo X o.toNatClampNeg = -1 then -11 else if gSo X t.toNatClampNeg ≠ gSo X o.toNatClampNeg then -12 else if hpl (gLn X t.toNatClampNeg) i n = true ∧ hpl (gLn X o.toNatClampNeg) j n = true then n else -13
def X_shift (X : GS) (t i o j n : Int32) : GS := if iz t 6 = false ∨ iz o 6 = false then X else if gSo X t.toNatClampNeg = -1 ∨ gSo X o.toNatClampNeg = -1 then X else if gSo X t.toNatClampNeg ≠ gSo X o.toNatClampNeg then X else if hpl (gLn X t.toNatClampNeg) i n = true ∧ hpl (gLn X o.toNatClampNeg) j n = true then setT X o.toNatClampNeg (gSo X o.toNatClampNeg) (gLn X o.toNatClampNeg) (va_cpy (gIt X t.toNatClampNeg) (gIt X o.toNatClampNeg) i.toNatClampNeg j.toNatClampNeg n.toNatClampNeg) else X
theorem okX_shift {X : GS} {t i o j n : Int32} (hX : okX X) : okX (X_shift X t i o j n) := by
  unfold X_shift
  split
  · exact hX
  · next h1 =>
    have h1 : iz o 6 = true := by
      cases e : iz o 6 with
      | true => rfl
      | false => exact absurd (Or.inr e) h1
    obtain ⟨k, hk, rfl⟩ := iz_t (by omega) h1
    rw [e_cl (by omega)]
    split
    · exact hX
    · split
      · exact hX
      · split
        · exact okX_T hX (hX.2.2.2 k hk).1 (hX.2.2.2 k hk).2
        · exact hX
theorem c_shift {d sn : Nat} {X : GS} {t i o j n : Int32} {m : mm_Mem} {P : Int32 → mm_Mem → Prop} (hX : okX X) (hI : cI X m) (h : ∀ m', fz 1 81 m m' → cI (X_shift X t i o j n) m' → P (A_shift X t i o j n) m') : mm_sp (d + 3) sn kX10_shift [.ref 1, .int t, .int i, .int o, .int j, .int n] m (qI P) := by
  refine v_X10_shift ?_
  unfold A_shift X_shift at h
  refine s_tapeAt (fun k hk e => ?_) (fun e => ?_)
  · subst e
    refine v_so ⟨shT_k hk, ?_⟩
    refine s_tapeAt (fun q hq e => ?_) (fun e => ?_)
    · subst e
      have n1 : ¬ (iz (nI k) 6 = false ∨ iz (nI q) 6 = false) := by rw [iz_j hk (by omega), iz_j hq (by omega)]; decide
      rw [if_neg n1, if_neg n1, e_cl (show k < 2147483648 by omega), e_cl (show q < 2147483648 by omega)] at h
      refine v_so ⟨shT_k hq, ?_⟩
      obtain ⟨g0, g1, g2⟩ := hI.2.2.2.2 k hk
      obtain ⟨f0, f1, f2⟩ := hI.2.2.2.2 q hq
      have hlk := (hX.2.2.2 k hk).2
      have hlq := (hX.2.2.2 q hq).2
      have g0 : m.1 (47 + 2 * k) 0 = gSo X k := g0
      have g1 : m.1 (47 + 2 * k) 1 = nI (gLn X k) := g1
      have f0 : m.1 (47 + 2 * q) 0 = gSo X q := f0
      have f1 : m.1 (47 + 2 * q) 1 = nI (gLn X q) := f1
      have g2 : ∀ i, i < 60 → m.2 (48 + 2 * k) i = gIt X k i := g2
      have f2 : ∀ i, i < 60 → m.2 (48 + 2 * q) i = gIt X q i := f2
      have hlk : gLn X k ≤ 60 := hlk
      have hlq : gLn X q ≤ 60 := hlq
      rw [g0, f0]
      refine ⟨fun c => ?_, fun c => ⟨fun c2 => ⟨fun c3 => ?_, fun c3 => ?_⟩, fun c2 => ?_⟩⟩
      · rw [if_pos (Or.inl c), if_pos (Or.inl c)] at h
        exact h m fz.refl hI
      · have n2 : ¬ (gSo X k = -1 ∨ gSo X q = -1) := fun hh => hh.elim c c2
        have n3 : ¬ (gSo X k ≠ gSo X q) := fun hh => hh c3
        rw [if_neg n2, if_neg n2, if_neg n3, if_neg n3] at h
        refine s_hasPlaces (shT_k hk) g1 (e_vz (fun e => ?_) (fun e => ?_))
        · have n4 : ¬ (hpl (gLn X k) i n = true ∧ hpl (gLn X q) j n = true) := fun hh => by rw [e] at hh; cases hh.1
          rw [if_neg n4, if_neg n4] at h
          exact h m fz.refl hI
        · refine s_hasPlaces (shT_k hq) f1 (e_vb (fun e2 => ?_) (fun e2 => ?_))
          · rw [if_pos ⟨e, e2⟩, if_pos ⟨e, e2⟩] at h
            refine v_X7_copyItems (by omega) (shT_k hq) (shT_k hk) ?_
            refine s_hasPlaces (shT_k hq) f1 ?_
            rw [e2]
            refine e_vF (by decide) ?_
            refine s_hasPlaces (shT_k hk) g1 ?_
            rw [e]
            refine e_vT (by decide) ?_
            obtain ⟨a, b, hab, rfl, rfl⟩ := hpl_t hlk e
            obtain ⟨a2, b2, hab2, rfl, eb⟩ := hpl_t hlq e2
            have eb : b2 = b := by
              have hb : b < 2147483648 := by omega
              exact (e_in hb (by omega) eb).symm
            subst eb
            rw [e_cl (show a < 2147483648 by omega), e_cl (show a2 < 2147483648 by omega), e_cl (show b2 < 2147483648 by omega)] at h ⊢
            rw [e_lt0 (by omega), e_lt0 (by omega), e_lt0 (by omega)]
            refine ⟨⟨id, id, id, by omega, by omega⟩, fun m1 e1 => ?_⟩
            have ek : 47 + 2 * k + 1 = 48 + 2 * k := by omega
            have eq9 : 47 + 2 * q + 1 = 48 + 2 * q := by omega
            rw [ek, eq9] at e1
            have hz : fz (47 + 2 * q) (48 + 2 * q) m m1 := by
              subst e1
              exact fun x hx => ⟨rfl, row_n (by omega)⟩
            refine h m1 (hz.wide (by omega) (by omega)) (cI_T hX hq hz hI ?_ ?_ (fun y hy => ?_))
            · subst e1; exact f0
            · subst e1; exact f1
            · subst e1
              show mm_row m.2 (48 + 2 * q) (va_cpy (m.2 (48 + 2 * k)) (m.2 (48 + 2 * q)) a a2 b2) (48 + 2 * q) y = _
              rw [row_s]
              by_cases c5 : a2 ≤ y ∧ y < a2 + b2
              · rw [pk_cpy_in c5.1 c5.2, pk_cpy_in c5.1 c5.2]
                exact g2 _ (by omega)
              · rw [pk_cpy_out (by omega), pk_cpy_out (by omega)]
                exact f2 y hy
          · have n4 : ¬ (hpl (gLn X k) i n = true ∧ hpl (gLn X q) j n = true) := fun hh => by rw [e2] at hh; cases hh.2
            rw [if_neg n4, if_neg n4] at h
            exact h m fz.refl hI
      · have n2 : ¬ (gSo X k = -1 ∨ gSo X q = -1) := fun hh => hh.elim c c2
        rw [if_neg n2, if_neg n2, if_pos c3, if_pos c3] at h
        exact h m fz.refl hI
      · have c2 := Classical.not_not.mp c2
        rw [if_pos (Or.inr c2), if_pos (Or.inr c2)] at h
        exact h m fz.refl hI
    · rw [if_pos (Or.inr e), if_pos (Or.inr e)] at h
      exact v_no (h m fz.refl hI)
  · rw [if_pos (Or.inl e), if_pos (Or.inl e)] at h
    refine v_no (s_tapeAt (fun q hq e => v_so ⟨shT_k hq, h m fz.refl hI⟩) (fun e => v_no (h m fz.refl hI)))
/-- judge, from the end of the blocks on: r of them are left -/
noncomputable def jd (B : Nat → Bool) (l : Nat) (f : Nat → Int64) (i : Int32) : Nat → Int32
  | 0 => -5
  | r + 1 => if i < 0 ∨ ¬ (nI (cN B 256 - (r + 1)) < nI l - i) then nI (100 + (cN B 256 - (r + 1))) else if lg_cmp (itV l f (i + nI (cN B 256 - (r + 1)))) (nthV B (cN B 256 - (r + 1))).toInt64 = 0 then jd B l f i r else nI (cN B 256 - (r + 1))
noncomputable def A_judge (X : GS) (t i : Int32) : Int32 := if iz t 6 = false then -1 else if gSo X t.toNatClampNeg = -1 ∨ gSo X t.toNatClampNeg = nI 1 then jd (sB X.1) (gLn X t.toNatClampNeg) (gIt X t.toNatClampNeg) i (cN (sB X.1) 256) else -12
theorem c_judge {d sn : Nat} {X : GS} {t i : Int32} {m : mm_Mem} {P : Int32 → mm_Mem → Prop} (hX : okX X) (hI : cI X m) (h : ∀ m', fz 1 81 m m' → cI X m' → P (A_judge X t i) m') : mm_sp (d + 4) sn kX10_judge [.ref 1, .int t, .int i] m (qI P) := by
  refine v_X10_judge ?_
  have h := h m fz.refl hI
  unfold A_judge at h
  refine s_tapeAt (fun k hk e => ?_) (fun e => ?_)
  · subst e
    have n1 : ¬ iz (nI k) 6 = false := by rw [iz_j hk (by omega)]; decide
    rw [if_neg n1, e_cl (by omega)] at h
    refine v_so ⟨shT_k hk, ?_⟩
    obtain ⟨g0, g1, g2⟩ := hI.2.2.2.2 k hk
    have g0 : m.1 (47 + 2 * k) 0 = gSo X k := g0
    have g1 : m.1 (47 + 2 * k) 1 = nI (gLn X k) := g1
    have ek : 47 + 2 * k + 1 = 48 + 2 * k := by omega
    have g2 : ∀ i, i < 60 → m.2 (47 + 2 * k + 1) i = gIt X k i := by rw [ek]; exact g2
    have hl : gLn X k ≤ 60 := (hX.2.2.2 k hk).2
    have hb := hI.1.2.2.2.1
    have hc := cN_le (sB X.1) 256
    have body : ∀ r, r ≤ cN (sB X.1) 256 → P (jd (sB X.1) (gLn X k) (gIt X k) i r) m → mm_wp (d + 3) sn kX10_judge 34 [some (.ref 1), none, some (.int i), some (.ref (47 + 2 * k)), some (.int (nI (cN (sB X.1) 256 - r)))] [] m (qI P) := by
      intro r
      induction r with
      | zero =>
        intro _ hp
        refine v_X10_judge_34 (shT_k hk) ?_
        rw [hb.2.1]
        exact e_vT (by rw [e_le (by omega) (by omega)]; omega) hp
      | succ r ih =>
        intro hr hp
        refine v_X10_judge_34 (shT_k hk) ?_
        rw [hb.2.1, g1]
        refine e_vF (by rw [e_le (by omega) (by omega)]; omega) ?_
        unfold jd at hp
        refine ⟨fun c => ?_, fun c => ⟨fun c2 => ?_, fun c2 => ?_⟩⟩
        · rw [if_pos (Or.inl c)] at hp
          rw [e_add]; exact hp
        · rw [if_neg (fun hh => hh.elim c (fun hh => hh c2))] at hp
          refine s_itemAt (shT_k hk) hl g1 g2 ?_
          refine s_setAt (shS_b shS_2) hb.2.2 (by omega) ?_
          refine ⟨fun c3 => ?_, fun c3 => ?_⟩
          · rw [if_pos c3] at hp
            rw [e_add]
            have e9 : cN (sB X.1) 256 - (r + 1) + 1 = cN (sB X.1) 256 - r := by omega
            rw [e9]
            exact ih (by omega) hp
          · rw [if_neg c3] at hp
            exact hp
        · rw [if_pos (Or.inr c2)] at hp
          rw [e_add]; exact hp
    have start : P (jd (sB X.1) (gLn X k) (gIt X k) i (cN (sB X.1) 256)) m → mm_wp (d + 3) sn kX10_judge 34 [some (.ref 1), none, some (.int i), some (.ref (47 + 2 * k)), some (.int (nI 0))] [] m (qI P) := by
      intro hp
      have := body _ (Nat.le_refl _) hp
      rw [Nat.sub_self] at this
      exact this
    rw [g0]
    refine ⟨fun c => ?_, fun c => ⟨fun c2 => ?_, fun c2 => ?_⟩⟩
    · rw [if_pos (Or.inl c)] at h
      exact start h
    · rw [if_pos (Or.inr c2)] at h
      exact start h
    · rw [if_neg (fun hh => hh.elim c c2)] at h
      exact h
  · rw [if_pos e] at h
    exact v_no h
def A_feed (X : GS) (c : Int32) : Int32 := if iz c 128 = false then -2 else if X.2.2.2.1.1 = 100 then -4 else nI (X.2.2.2.1.1 + 1)
def setX (X : GS) (t : Nat × (Nat → Int32)) : GS := (X.1, X.2.1, X.2.2.1, t, X.2.2.2.2)
def X_feed (X : GS) (c : Int32) : GS := if iz c 128 = false then X else if X.2.2.2.1.1 = 100 then X else setX X (X.2.2.2.1.1 + 1, ud X.2.2.2.1.2 X.2.2.2.1.1 c)
theorem okX_feed {X : GS} {c : Int32} (hX : okX X) : okX (X_feed X c) := by
  unfold X_feed
  split
  · exact hX
  · next h1 =>
    have h1 : iz c 128 = true := by simpa using h1
    obtain ⟨c, hc, rfl⟩ := iz_t (by omega) h1
    split
    · exact hX
    · have := hX.2.2.1.1
      refine ⟨hX.1, hX.2.1, ⟨?_, fun j hj => ?_⟩, hX.2.2.2⟩
      · show X.2.2.2.1.1 + 1 ≤ 100
        omega
      · have hj : j < X.2.2.2.1.1 + 1 := hj
        show ∃ q, q < 128 ∧ ud X.2.2.2.1.2 X.2.2.2.1.1 (nI c) j = nI q
        by_cases e : j = X.2.2.2.1.1
        · subst e
          exact ⟨c, hc, ud_s⟩
        · rw [ud_n e]
          exact hX.2.2.1.2 j (by omega)
theorem cI_X {X : GS} {t : Nat × (Nat → Int32)} {m m' : mm_Mem} (hX : okX X) (hz : fz 44 45 m m') (hI : cI X m) (h : rX t m') : cI (setX X t) m' := by
  obtain ⟨g1, g2, g3, g4, g5⟩ := hI
  refine ⟨fz_rS hX.1.2.1 hz (by omega) g1, ?_, fun e => fz_rS (hX.2.1 e).2.1 hz (by omega) (g3 e), h, fun k hk => ⟨?_, ?_, fun i hi => ?_⟩⟩
  · rw [hz.i (by omega)]; exact g2
  · rw [hz.i (by omega)]; exact (g5 k hk).1
  · rw [hz.i (by omega)]; exact (g5 k hk).2.1
  · rw [hz.l (by omega)]; exact (g5 k hk).2.2 i hi
theorem c_feed {d sn : Nat} {X : GS} {c : Int32} {m : mm_Mem} {P : Int32 → mm_Mem → Prop} (hX : okX X) (hI : cI X m) (h : ∀ m', fz 1 81 m m' → cI (X_feed X c) m' → P (A_feed X c) m') : mm_sp (d + 2) sn kX10_feed [.ref 1, .int c] m (qI P) := by
  refine v_X10_feed ?_
  have hl := hX.2.2.1.1
  unfold A_feed X_feed at h
  refine ⟨fun c1 => ?_, fun c1 => ⟨fun c2 => ?_, fun c2 => ?_⟩⟩
  · rw [if_pos (iz_no1 c1), if_pos (iz_no1 c1)] at h
    exact h m fz.refl hI
  · have e : iz c 128 = true := by
      rw [iz_1 (n := 127) (by omega)]
      exact decide_eq_true ⟨c1, Int32.not_lt.mpr c2⟩
    have n1 : ¬ iz c 128 = false := by rw [e]; decide
    rw [if_neg n1, if_neg n1] at h
    refine v_X8_append ?_
    have h0 := hI.2.2.2.1.1
    rw [h0, e_vin (by omega) (by omega), e_cl (by omega)]
    refine e_vF (by rw [e_lt0 (by omega)]; exact id) ?_
    rw [e_lt (by omega) (by omega)]
    refine ⟨fun c3 => ⟨c3, fun m1 e1 m2 e2 => e_vT (by decide) ?_⟩, fun c3 => e_vF (by decide) ?_⟩
    · rw [if_neg (by omega), if_neg (by omega)] at h
      have hz : fz 44 45 m m2 := by
        subst e1; subst e2
        exact (fz_u2 (by omega) (by omega)).trans (fz_u2 (m := (_, _)) (by omega) (by omega))
      have e44 : m2.1 44 0 = nI (X.2.2.2.1.1 + 1) := by
        subst e1; subst e2
        show mm_u2 (mm_u2 m.1 45 X.2.2.2.1.1 c) 44 0 (mm_u2 m.1 45 X.2.2.2.1.1 c 44 0 + nI 1) 44 0 = _
        rw [u2_s, u2_rj (by omega), h0, e_add]
      rw [e44]
      refine h m2 (hz.wide (by omega) (by omega)) (cI_X hX hz hI ⟨e44, fun j hj => ?_⟩)
      have hj : j < X.2.2.2.1.1 + 1 := hj
      subst e1; subst e2
      show mm_u2 (mm_u2 m.1 45 X.2.2.2.1.1 c) 44 0 (mm_u2 m.1 45 X.2.2.2.1.1 c 44 0 + nI 1) 45 j = ud X.2.2.2.1.2 X.2.2.2.1.1 c j
      rw [u2_rj (by omega)]
      by_cases e3 : j = X.2.2.2.1.1
      · subst e3
        rw [u2_s, ud_s]
      · rw [u2_j e3, ud_n e3]
        exact hI.2.2.2.1.2 j (by omega)
    · rw [if_pos (by omega), if_pos (by omega)] at h
      exact h m fz.refl hI
  · have e : iz c 128 = false := by
      rw [iz_1 (n := 127) (by omega)]
      exact decide_eq_false (fun e => e.2 (Int32.not_le.mp c2))
    rw [if_pos e, if_pos e] at h
    exact h m fz.refl hI
