-- the class's tapes and feed
def gSo (X : GS) : Nat → Int32 := X.2.2.2.2.1
def gLn (X : GS) : Nat → Nat := X.2.2.2.2.2.1
def gIt (X : GS) : Nat → Nat → Int64 := X.2.2.2.2.2.2
def setT (X : GS) (k : Nat) (s : Int32) (l : Nat) (f : Nat → Int64) : GS := (X.1, X.2.1, X.2.2.1, X.2.2.2.1, (ud (gSo X) k s, ud (gLn X) k l, ud (gIt X) k f))
theorem okX_T {X : GS} {k l : Nat} {s : Int32} {f : Nat → Int64} (hX : okX X) (hs : s = -1 ∧ l = 0 ∨ ∃ q, q < 5 ∧ s = nI q) (hl : l ≤ 60) : okX (setT X k s l f) := by
  refine ⟨hX.1, hX.2.1, hX.2.2.1, fun j hj => ?_⟩
  show (ud (gSo X) k s j = -1 ∧ ud (gLn X) k l j = 0 ∨ ∃ q, q < 5 ∧ ud (gSo X) k s j = nI q) ∧ ud (gLn X) k l j ≤ 60
  by_cases e : j = k
  · subst e
    rw [ud_s, ud_s]
    exact ⟨hs, hl⟩
  · rw [ud_n e, ud_n e]
    exact hX.2.2.2 j hj
theorem cI_T {X : GS} {k l : Nat} {s : Int32} {f : Nat → Int64} {m m' : mm_Mem} (hX : okX X) (hk : k < 6) (hz : fz (47 + 2 * k) (48 + 2 * k) m m') (hI : cI X m) (h0 : m'.1 (47 + 2 * k) 0 = s) (h1 : m'.1 (47 + 2 * k) 1 = nI l) (h2 : ∀ i, i < 60 → m'.2 (48 + 2 * k) i = f i) : cI (setT X k s l f) m' := by
  obtain ⟨g1, g2, g3, g4, g5⟩ := hI
  refine ⟨fz_rS hX.1.2.1 hz (by omega) g1, ?_, fun e => fz_rS (hX.2.1 e).2.1 hz (by omega) (g3 e), ⟨?_, fun j hj => ?_⟩, fun j hj => ?_⟩
  · rw [hz.i (by omega)]; exact g2
  · rw [hz.i (by omega)]; exact g4.1
  · rw [hz.i (by omega)]; exact g4.2 j hj
  · show m'.1 (47 + 2 * j) 0 = ud (gSo X) k s j ∧ m'.1 (47 + 2 * j) 1 = nI (ud (gLn X) k l j) ∧ ∀ i, i < 60 → m'.2 (48 + 2 * j) i = ud (gIt X) k f j i
    by_cases e : j = k
    · subst e
      rw [ud_s, ud_s, ud_s]
      exact ⟨h0, h1, h2⟩
    · rw [ud_n e, ud_n e, ud_n e, hz.i (by omega), hz.l (by omega)]
      exact g5 j hj
theorem s_tapeAt {d sn : Nat} {v : Int32} {m : mm_Mem} {P : Option Nat → mm_Mem → Prop} (h1 : ∀ j, j < 6 → v = nI j → P (some (47 + 2 * j)) m) (h0 : iz v 6 = false → P none m) : mm_sp (d + 1) sn kX10_tapeAt [.ref 1, .int v] m (qR P) := by
  refine v_X10_tapeAt ?_
  refine ⟨fun c => h0 (iz_no1 c), fun c => ⟨fun c2 => ?_, fun c2 => h0 (iz_no2 c2)⟩⟩
  obtain ⟨j, hj, e⟩ := iz_t (i := v) (n := 6) (by omega) (iz_of c c2)
  exact ⟨j, hj, e, h1 j hj e⟩
theorem shT_k {k : Nat} (hk : k < 6) : shT (47 + 2 * k) := (shT_i k hk).2
theorem s_become {d sn a l : Nat} {v : Int32} {m : mm_Mem} {P : mm_Mem → Prop} (ha : shT a) (h0 : a ≠ 0) (hl : l ≤ 60) (h : ∀ m', fz a (a + 1) m m' → m'.1 a 0 = v → m'.1 a 1 = nI l → (∀ i, i < 60 → m'.2 (a + 1) i = lN 0) → P m') : mm_sp (d + 2) sn kX7_become [.ref a, .int v, .int (nI l)] m (qV P) := by
  refine v_X7_become (by omega) ha ?_
  intro m1 e1 m2 e2
  have e3 : (if nI 0 < if nI 60 < nI l then nI 60 else nI l then if nI 60 < nI l then nI 60 else nI l else nI 0) = nI l := by
    rw [if_neg (show ¬ nI 60 < nI l by rw [e_lt (by omega) (by omega)]; omega)]
    by_cases e : l = 0
    · subst e; rfl
    · rw [if_pos (by rw [e_lt (by omega) (by omega)]; omega)]
  rw [e3] at e2
  refine s_fillL (N := 60) ⟨by omega, ha.2.2⟩ (by omega) ?_
  intro m3 hf hs hi
  refine h m3 ?_ ?_ ?_ hi
  · have hz : fz a (a + 1) m m2 := by
      subst e1; subst e2
      exact (fz_u2 (by omega) (by omega)).trans (fz_u2 (m := (_, _)) (by omega) (by omega))
    exact hz.trans (hf.z1 (by omega) (by omega))
  · rw [hs]
    subst e1; subst e2
    show mm_u2 (mm_u2 m.1 a 0 v) a 1 (nI l) a 0 = v
    rw [u2_j (by omega), u2_s]
  · rw [hs]
    subst e1; subst e2
    show mm_u2 (mm_u2 m.1 a 0 v) a 1 (nI l) a 1 = nI l
    rw [u2_s]
theorem s_isPlace {d sn a l : Nat} {v : Int32} {m : mm_Mem} {P : Int32 → mm_Mem → Prop} (ha : shT a) (hl : l ≤ 60) (h1 : m.1 a 1 = nI l) (h : P (nI (iz v l).toNat) m) : mm_sp (d + 1) sn kX7_isPlace [.ref a, .int v] m (qI P) := by
  refine v_X7_isPlace ha ?_
  rw [h1]
  refine ⟨fun c => ?_, fun c => ⟨fun c2 => ?_, fun c2 => ?_⟩⟩
  · rw [iz_no1 c] at h; exact h
  · rw [iz_no2 (Int32.not_lt.mpr c2)] at h; exact h
  · have e := iz_of c (Int32.not_le.mp c2)
    rw [e] at h
    obtain ⟨j, hj, rfl⟩ := iz_t (by omega) e
    refine e_vF (by rw [e_le (by omega) (by omega)]; omega) h
def itV (l : Nat) (f : Nat → Int64) (i : Int32) : Int64 := if iz i l = true then f i.toNatClampNeg else -9223372036854775808
theorem s_itemAt {d sn a l : Nat} {v : Int32} {f : Nat → Int64} {m : mm_Mem} {P : Int64 → mm_Mem → Prop} (ha : shT a) (hl : l ≤ 60) (h1 : m.1 a 1 = nI l) (h2 : ∀ i, i < 60 → m.2 (a + 1) i = f i) (h : P (itV l f v) m) : mm_sp (d + 2) sn kX7_itemAt [.ref a, .int v] m (qL P) := by
  refine v_X7_itemAt ha ?_
  unfold itV at h
  refine s_isPlace ha hl h1 (e_vz (fun e => ?_) (fun e => ?_))
  · rw [if_neg (by rw [e]; decide)] at h
    exact h
  · rw [if_pos e] at h
    obtain ⟨j, hj, rfl⟩ := iz_t (by omega) e
    rw [e_cl (by omega)] at h ⊢
    rw [e_vin (by omega) (by omega), h2 j (by omega)]
    exact ⟨by omega, h⟩
def A_tape (t v n : Int32) : Int32 := if iz t 6 = false then -1 else if v < -1 ∨ ¬ v < nI 5 then -2 else if v = -1 then nI 1 else if ¬ n ≤ nI 60 then -2 else if ¬ 0 ≤ n then -14 else nI 1
def X_tape (X : GS) (t v n : Int32) : GS := if iz t 6 = false then X else if v < -1 ∨ ¬ v < nI 5 then X else if v = -1 then setT X t.toNatClampNeg v 0 (fun _ => lN 0) else if ¬ n ≤ nI 60 then X else if ¬ 0 ≤ n then X else setT X t.toNatClampNeg v n.toNatClampNeg (fun _ => lN 0)
theorem so_5 {v : Int32} (h1 : ¬ v < -1) (h2 : v < nI 5) (h3 : ¬ v = -1) : ∃ q, q < 5 ∧ v = nI q := by
  have e1 : (-1 : Int32).toInt = -1 := rfl
  have e2 : (nI 5).toInt = 5 := by decide
  rw [Int32.lt_iff_toInt_lt, e1] at h1
  rw [Int32.lt_iff_toInt_lt, e2] at h2
  rw [← Int32.toInt_inj, e1] at h3
  refine ⟨v.toInt.toNat, by omega, ?_⟩
  rw [← Int32.toInt_inj, nI_toInt (by omega)]
  omega
theorem n60 {n : Int32} (h1 : n ≤ nI 60) (h2 : 0 ≤ n) : ∃ l, l ≤ 60 ∧ n = nI l := by
  obtain ⟨e1, e2⟩ := nn_of h2
  rw [e1, e_le e2 (by omega)] at h1
  exact ⟨_, h1, e1⟩
theorem okX_tape {X : GS} {t v n : Int32} (hX : okX X) : okX (X_tape X t v n) := by
  unfold X_tape
  split
  · exact hX
  · split
    · exact hX
    · split
      · next h => exact okX_T hX (Or.inl ⟨h, rfl⟩) (by omega)
      · split
        · exact hX
        · split
          · exact hX
          · next h1 h2 h3 h4 h5 =>
            obtain ⟨l, hl, rfl⟩ := n60 (Classical.not_not.mp h4) (Classical.not_not.mp h5)
            have h2 := not_or.mp h2
            refine okX_T hX (Or.inr (so_5 h2.1 (Classical.not_not.mp h2.2) h3)) ?_
            rw [e_cl (by omega)]
            exact hl
theorem c_tape {d sn : Nat} {X : GS} {t v n : Int32} {m : mm_Mem} {P : Int32 → mm_Mem → Prop} (hX : okX X) (hI : cI X m) (h : ∀ m', fz 1 81 m m' → cI (X_tape X t v n) m' → P (A_tape t v n) m') : mm_sp (d + 3) sn kX10_tape [.ref 1, .int t, .int v, .int n] m (qI P) := by
  refine v_X10_tape ?_
  unfold A_tape X_tape at h
  refine s_tapeAt (fun k hk e => ?_) (fun e => ?_)
  · subst e
    have n1 : ¬ iz (nI k) 6 = false := by rw [iz_j hk (by omega)]; decide
    rw [if_neg n1, if_neg n1] at h
    rw [e_cl (by omega)] at h
    refine v_so ⟨shT_k hk, ?_⟩
    refine ⟨fun c => ?_, fun c => ⟨fun c2 => ?_, fun c2 => ?_⟩⟩
    · rw [if_pos (Or.inl c), if_pos (Or.inl c)] at h
      exact h m fz.refl hI
    · have n2 : ¬ (v < -1 ∨ ¬ v < nI 5) := by
        rintro (c3 | c3)
        · exact c c3
        · exact c3 c2
      rw [if_neg n2, if_neg n2] at h
      refine ⟨fun e => e_vT e (e_vF (fun hn => hn e) ?_), fun e => ⟨fun c3 => e_vF e ⟨fun c4 => e_vT e ?_, fun c4 => ?_⟩, fun c3 => ?_⟩⟩
      · rw [if_pos e, if_pos e] at h
        refine s_become (shT_k hk) (by omega) (show 0 ≤ 60 by omega) ?_
        intro m1 hz g0 g1 g2
        have e9 : 47 + 2 * k + 1 = 48 + 2 * k := by omega
        rw [e9] at hz g2
        exact h m1 (hz.wide (by omega) (by omega)) (cI_T hX hk hz hI g0 g1 g2)
      · rw [if_neg e, if_neg e, if_neg (Classical.not_not.mpr c3), if_neg (Classical.not_not.mpr c3), if_neg (Classical.not_not.mpr c4), if_neg (Classical.not_not.mpr c4)] at h
        obtain ⟨l, hl, rfl⟩ := n60 c3 c4
        rw [e_cl (by omega)] at h
        refine s_become (shT_k hk) (by omega) hl ?_
        intro m1 hz g0 g1 g2
        have e9 : 47 + 2 * k + 1 = 48 + 2 * k := by omega
        rw [e9] at hz g2
        exact h m1 (hz.wide (by omega) (by omega)) (cI_T hX hk hz hI g0 g1 g2)
      · rw [if_neg e, if_neg e, if_neg (Classical.not_not.mpr c3), if_neg (Classical.not_not.mpr c3), if_pos c4, if_pos c4] at h
        exact h m fz.refl hI
      · rw [if_neg e, if_neg e, if_pos c3, if_pos c3] at h
        exact h m fz.refl hI
    · rw [if_pos (Or.inr c2), if_pos (Or.inr c2)] at h
      exact h m fz.refl hI
  · rw [if_pos e, if_pos e] at h
    exact v_no (h m fz.refl hI)
def cutv (s : Int32) (v : Int64) : Int64 := if s = nI 0 then v.toInt32.toInt8.toInt32.toInt64 else if s = nI 1 then v.toInt32.toInt16.toInt32.toInt64 else if s = nI 2 then v.toInt32.toInt64 else if s = nI 4 then (if lg_cmp v (lN 0) = 0 then lN 0 else lN 1) else v
theorem s_cut {d sn a : Nat} {v : Int64} {s : Int32} {m : mm_Mem} {P : Int64 → mm_Mem → Prop} (ha : shT a) (hs : m.1 a 0 = s) (h : P (cutv s v) m) : mm_sp (d + 1) sn kX7_cut [.ref a, .long v] m (qL P) := by
  refine v_X7_cut ha ?_
  rw [hs]
  unfold cutv at h
  refine ⟨fun e => ?_, fun e => ?_, fun e => ?_, fun e => ?_, fun e => ?_, fun e0 e1 e2 e3 e4 => ?_⟩
  · rw [if_pos e] at h; exact h
  · subst e
    rw [if_neg (by decide), if_pos rfl] at h; exact h
  · subst e
    rw [if_neg (by decide), if_neg (by decide), if_pos rfl] at h; exact h
  · subst e
    rw [if_neg (by decide), if_neg (by decide), if_neg (by decide), if_neg (by decide)] at h; exact h
  · subst e
    rw [if_neg (by decide), if_neg (by decide), if_neg (by decide), if_pos rfl] at h
    refine ⟨fun c => ?_, fun c => ?_⟩
    · rw [if_pos c] at h; exact h
    · rw [if_neg c] at h; exact h
  · rw [if_neg e0, if_neg e1, if_neg e2, if_neg e4] at h; exact h
def A_item (X : GS) (t i : Int32) : Int32 := if iz t 6 = false then -1 else if gSo X t.toNatClampNeg = -1 then -11 else if iz i (gLn X t.toNatClampNeg) = true then nI 1 else -13
def X_item (X : GS) (t i : Int32) (v : Int64) : GS := if iz t 6 = false then X else if gSo X t.toNatClampNeg = -1 then X else if iz i (gLn X t.toNatClampNeg) = true then setT X t.toNatClampNeg (gSo X t.toNatClampNeg) (gLn X t.toNatClampNeg) (ud (gIt X t.toNatClampNeg) i.toNatClampNeg (cutv (gSo X t.toNatClampNeg) v)) else X
theorem okX_item {X : GS} {t i : Int32} {v : Int64} (hX : okX X) : okX (X_item X t i v) := by
  unfold X_item
  split
  · exact hX
  · next h1 =>
    have h1 : iz t 6 = true := by simpa using h1
    obtain ⟨k, hk, rfl⟩ := iz_t (by omega) h1
    rw [e_cl (by omega)]
    split
    · exact hX
    · split
      · exact okX_T hX (hX.2.2.2 k hk).1 (hX.2.2.2 k hk).2
      · exact hX
theorem c_item {d sn : Nat} {X : GS} {t i : Int32} {v : Int64} {m : mm_Mem} {P : Int32 → mm_Mem → Prop} (hX : okX X) (hI : cI X m) (h : ∀ m', fz 1 81 m m' → cI (X_item X t i v) m' → P (A_item X t i) m') : mm_sp (d + 3) sn kX10_item [.ref 1, .int t, .int i, .long v] m (qI P) := by
  refine v_X10_item ?_
  unfold A_item X_item at h
  refine s_tapeAt (fun k hk e => ?_) (fun e => ?_)
  · subst e
    have n1 : ¬ iz (nI k) 6 = false := by rw [iz_j hk (by omega)]; decide
    rw [if_neg n1, if_neg n1, e_cl (by omega)] at h
    refine v_so ⟨shT_k hk, ?_⟩
    obtain ⟨g0, g1, g2⟩ := hI.2.2.2.2 k hk
    have hl := (hX.2.2.2 k hk).2
    have g0 : m.1 (47 + 2 * k) 0 = gSo X k := g0
    have g1 : m.1 (47 + 2 * k) 1 = nI (gLn X k) := g1
    have g2 : ∀ i, i < 60 → m.2 (48 + 2 * k) i = gIt X k i := g2
    have hl : gLn X k ≤ 60 := hl
    rw [g0, g1]
    refine ⟨fun e => ?_, fun e => ?_⟩
    · rw [if_neg e, if_neg e] at h
      refine ⟨fun c => ?_, fun c => ⟨fun c2 => ?_, fun c2 => ?_⟩⟩
      · rw [if_neg (by rw [iz_no1 c]; decide), if_neg (by rw [iz_no1 c]; decide)] at h
        exact h m fz.refl hI
      · have ei := iz_of c c2
        rw [if_pos ei, if_pos ei] at h
        refine v_X7_put (shT_k hk) ?_
        refine s_isPlace (shT_k hk) hl g1 ?_
        rw [ei]
        refine e_vF (by decide) ?_
        refine s_cut (shT_k hk) g0 ?_
        obtain ⟨i, hi, rfl⟩ := iz_t (by omega) ei
        rw [e_cl (by omega)] at h ⊢
        rw [e_vin (by omega) (by omega)]
        refine ⟨by omega, fun m1 e1 => ?_⟩
        have hz : fz (47 + 2 * k) (48 + 2 * k) m m1 := by subst e1; exact fz_u2l (by omega) (by omega)
        refine h m1 (hz.wide (by omega) (by omega)) (cI_T hX hk hz hI ?_ ?_ (fun j hj => ?_))
        · subst e1; exact g0
        · subst e1; exact g1
        · subst e1
          show mm_u2 m.2 (47 + 2 * k + 1) i (cutv (gSo X k) v) (48 + 2 * k) j = ud (gIt X k) i (cutv (gSo X k) v) j
          have e9 : 48 + 2 * k = 47 + 2 * k + 1 := by omega
          rw [e9]
          by_cases e2 : j = i
          · subst e2
            rw [u2_s, ud_s]
          · rw [u2_j e2, ud_n e2, ← e9]
            exact g2 j hj
      · rw [if_neg (by rw [iz_no2 c2]; decide), if_neg (by rw [iz_no2 c2]; decide)] at h
        exact h m fz.refl hI
    · rw [if_pos (Classical.not_not.mp e), if_pos (Classical.not_not.mp e)] at h
      exact h m fz.refl hI
  · rw [if_pos e, if_pos e] at h
    exact v_no (h m fz.refl hI)
def A_peek (X : GS) (t i : Int32) : Int64 := if iz t 6 = true then itV (gLn X t.toNatClampNeg) (gIt X t.toNatClampNeg) i else -9223372036854775808
theorem c_peek {d sn : Nat} {X : GS} {t i : Int32} {m : mm_Mem} {P : Int64 → mm_Mem → Prop} (hX : okX X) (hI : cI X m) (h : ∀ m', fz 1 81 m m' → cI X m' → P (A_peek X t i) m') : mm_sp (d + 3) sn kX10_peek [.ref 1, .int t, .int i] m (qL P) := by
  refine v_X10_peek ?_
  have h := h m fz.refl hI
  unfold A_peek at h
  refine s_tapeAt (fun k hk e => ?_) (fun e => ?_)
  · subst e
    rw [if_pos (iz_j hk (by omega)), e_cl (by omega)] at h
    refine v_so ⟨shT_k hk, ?_⟩
    obtain ⟨_, g1, g2⟩ := hI.2.2.2.2 k hk
    refine s_itemAt (shT_k hk) (hX.2.2.2 k hk).2 g1 (fun i hi => ?_) h
    have e9 : 47 + 2 * k + 1 = 48 + 2 * k := by omega
    rw [e9]
    exact g2 i hi
  · rw [if_neg (by rw [e]; decide)] at h
    exact v_no h
