-- the class's calls about orbits
theorem fnd_oF {S : St} (h : okS S) : oF (sN S) (2 ^ sN S) (fndS S) := fndN_ok h.1.2 (okS_T h) _ (Nat.le_refl _)
theorem fnd_oS {S : St} (h : okS S) : oS (fndS S).1 (fndS S).2 := by
  obtain ⟨h1, h2⟩ := oF_o (fnd_oF h) (p2_le h.1.2)
  exact ⟨fun s o _ e => h1 s o e, fun k _ => h2 k⟩
theorem e_lv {x n : Nat} (hx : x < n) : x ≤ n := Nat.le_of_lt hx
def A_orbits (S : St) (k : Int32) : Int32 := if iz k (sN S + 1) = true then nI ((fndS S).2 k.toNatClampNeg) else -2
theorem c_orbits {d sn : Nat} {X : GS} {k : Int32} {m : mm_Mem} {P : Int32 → mm_Mem → Prop} (hX : okX X) (hI : cI X m) (h : ∀ m', fz 1 81 m m' → cI X m' → P (A_orbits X.1 k) m') : mm_sp (d + 5) sn kX10_orbits [.ref 1, .int k] m (qI P) := by
  refine v_X10_orbits ?_
  have hN := hX.1.1.2
  unfold A_orbits at h
  refine s_isSize shS_2 hI.1.1 hN (e_vb (fun e => ?_) (fun e => ?_))
  · obtain ⟨k, hk, rfl⟩ := iz_t (by omega) e
    refine s_find hI.1 hX.1 ?_
    intro m1 hz hO
    rw [if_pos e, e_cl (by omega)] at h
    exact s_amountOf hO (by omega) (h m1 (hz.wide (by omega) (by omega)) (fz_cI hX hz (by omega) hI))
  · rw [if_neg (by rw [e]; decide)] at h
    exact h m fz.refl hI
noncomputable def A_orbit (S : St) (k i w : Int32) : Int32 := if iz k (sN S + 1) = false then -2 else if iz i ((fndS S).2 k.toNatClampNeg) = false then -1 else if w = nI 0 then nthV (hld (fndS S).1 k.toNatClampNeg i.toNatClampNeg) 0 else if w = nI 1 then nI (cN (hld (fndS S).1 k.toNatClampNeg i.toNatClampNeg) 256) else if w = nI 2 then lstV (hld (fndS S).1 k.toNatClampNeg i.toNatClampNeg) 256 else -1
theorem c_orbit {d sn : Nat} {X : GS} {k i w : Int32} {m : mm_Mem} {P : Int32 → mm_Mem → Prop} (hX : okX X) (hI : cI X m) (h : ∀ m', fz 1 81 m m' → cI X m' → P (A_orbit X.1 k i w) m') : mm_sp (d + 5) sn kX10_orbit [.ref 1, .int k, .int i, .int w] m (qI P) := by
  refine v_X10_orbit ?_
  have hN := hX.1.1.2
  unfold A_orbit at h
  refine s_isSize shS_2 hI.1.1 hN (e_vb (fun e => ?_) (fun e => ?_))
  · obtain ⟨k, hk, rfl⟩ := iz_t (by omega) e
    refine s_find hI.1 hX.1 ?_
    intro m1 hz hO
    have hS := fnd_oS hX.1
    have n1 : ¬ iz (nI k) (sN X.1 + 1) = false := by rw [e]; decide
    rw [if_neg n1, e_cl (by omega)] at h
    have h := h m1 (hz.wide (by omega) (by omega)) (fz_cI hX hz (by omega) hI)
    have hk2 := hS.2 k (by omega)
    refine s_isOrbit hO (by omega) (e_vb (fun e2 => ?_) (fun e2 => ?_))
    · obtain ⟨i, hi, rfl⟩ := iz_t (by omega) e2
      have n2 : ¬ iz (nI i) ((fndS X.1).2 k) = false := by rw [e2]; decide
      rw [if_neg n2, e_cl (by omega)] at h
      refine ⟨fun e3 => ?_, fun e3 => ?_, fun e3 => ?_, fun e3 e4 e5 => ?_⟩
      · rw [if_pos e3] at h
        exact s_oSetAt hO hS (by omega) (by omega) (by omega) h
      · subst e3
        rw [if_neg (by decide), if_pos rfl] at h
        exact s_setsIn hO hS (by omega) (by omega) h
      · subst e3
        rw [if_neg (by decide), if_neg (by decide), if_pos rfl] at h
        exact s_greatestOf hO hS (by omega) (by omega) h
      · rw [if_neg e3, if_neg e4, if_neg e5] at h
        exact h
    · rw [if_pos e2] at h
      exact h
  · rw [if_pos e] at h
    exact h m fz.refl hI
noncomputable def A_member (S : St) (k i w : Int32) : Int32 := if iz k (sN S + 1) = false then -2 else if iz i ((fndS S).2 k.toNatClampNeg) = false then -1 else if 0 ≤ w then nthV (hld (fndS S).1 k.toNatClampNeg i.toNatClampNeg) w.toNatClampNeg else -1
theorem nn_of {v : Int32} (h : 0 ≤ v) : v = nI v.toNatClampNeg ∧ v.toNatClampNeg < 2147483648 := by
  have e0 : (0 : Int32).toInt = 0 := rfl
  rw [Int32.le_iff_toInt_le, e0] at h
  have hl := v.toInt_lt
  have e : v = nI v.toInt.toNat := by
    rw [← Int32.toInt_inj, nI_toInt (by omega)]
    omega
  have e2 : v.toNatClampNeg = v.toInt.toNat := rfl
  rw [e2]
  exact ⟨e, by omega⟩
theorem c_member {d sn : Nat} {X : GS} {k i w : Int32} {m : mm_Mem} {P : Int32 → mm_Mem → Prop} (hX : okX X) (hI : cI X m) (h : ∀ m', fz 1 81 m m' → cI X m' → P (A_member X.1 k i w) m') : mm_sp (d + 5) sn kX10_member [.ref 1, .int k, .int i, .int w] m (qI P) := by
  refine v_X10_member ?_
  have hN := hX.1.1.2
  unfold A_member at h
  refine s_isSize shS_2 hI.1.1 hN (e_vb (fun e => ?_) (fun e => ?_))
  · obtain ⟨k, hk, rfl⟩ := iz_t (by omega) e
    refine s_find hI.1 hX.1 ?_
    intro m1 hz hO
    have hS := fnd_oS hX.1
    have n1 : ¬ iz (nI k) (sN X.1 + 1) = false := by rw [e]; decide
    rw [if_neg n1, e_cl (by omega)] at h
    have h := h m1 (hz.wide (by omega) (by omega)) (fz_cI hX hz (by omega) hI)
    have hk2 := hS.2 k (by omega)
    refine s_isOrbit hO (by omega) (e_vz (fun e2 => ?_) (fun e2 => ?_))
    · rw [if_pos e2] at h
      exact h
    · obtain ⟨i, hi, rfl⟩ := iz_t (by omega) e2
      have n2 : ¬ iz (nI i) ((fndS X.1).2 k) = false := by rw [e2]; decide
      rw [if_neg n2, e_cl (by omega)] at h
      refine ⟨fun c => ?_, fun c => ?_⟩
      · rw [if_pos c] at h
        obtain ⟨e3, e4⟩ := nn_of c
        rw [e3]
        exact s_oSetAt hO hS (by omega) (by omega) e4 h
      · rw [if_neg c] at h
        exact h
  · rw [if_pos e] at h
    exact h m fz.refl hI
def A_orbitOf (S : St) (s : Int32) : Int32 := if iz s (2 ^ sN S) = true then oI ((fndS S).1 s.toNatClampNeg) else -1
theorem c_orbitOf {d sn : Nat} {X : GS} {s : Int32} {m : mm_Mem} {P : Int32 → mm_Mem → Prop} (hX : okX X) (hI : cI X m) (h : ∀ m', fz 1 81 m m' → cI X m' → P (A_orbitOf X.1 s) m') : mm_sp (d + 5) sn kX10_orbitOf [.ref 1, .int s] m (qI P) := by
  refine v_X10_orbitOf ?_
  have hN := hX.1.1.2
  have hp8 := p2_le hN
  unfold A_orbitOf at h
  refine s_isSet shS_2 hI.1.1 hN (e_vb (fun e => ?_) (fun e => ?_))
  · obtain ⟨s, hs, rfl⟩ := iz_t (by omega) e
    refine s_find hI.1 hX.1 ?_
    intro m1 hz hO
    rw [if_pos e, e_cl (by omega)] at h
    exact s_numberOf hO (by omega) (h m1 (hz.wide (by omega) (by omega)) (fz_cI hX hz (by omega) hI))
  · rw [if_neg (by rw [e]; decide)] at h
    exact h m fz.refl hI
/-- the least of an orbit -/
noncomputable def ft (p : Nat → Bool) : Nat := (nthV p 0).toNatClampNeg
theorem ft_s {p : Nat → Bool} (h : ∃ s, s < 256 ∧ p s = true) : ft p < 256 ∧ p (ft p) = true ∧ (∀ t, t < ft p → p t = false) ∧ nthV p 0 = nI (ft p) := by
  obtain ⟨s, ⟨h1, h2⟩, h3⟩ := pk_least (fun s => s < 256 ∧ p s = true) h
  have h4 : ∀ t, t < s → p t = false := by
    intro t ht
    cases e : p t with
    | false => rfl
    | true => exact absurd ⟨by omega, e⟩ (h3 t ht)
  have e : nthV p 0 = nI s := nthV_s h1 h2 (cN_none h4)
  have e2 : ft p = s := by unfold ft; rw [e, e_cl (by omega)]
  rw [e2]
  exact ⟨h1, h2, h4, e⟩
theorem orb_has {S : St} (h : okS S) {k i : Nat} (hi : i < (fndS S).2 k) : ∃ s, s < 256 ∧ hld (fndS S).1 k i s = true := by
  obtain ⟨x, h1, h2, h3⟩ := (fnd_oF h).2.2.1 k i hi
  have := p2_le h.1.2
  exact ⟨x, by omega, by unfold hld; rw [h2, h3]; simp⟩
def szs (S : St) (t k : Int32) : Bool := iz t (sN S + 1) && iz k (sN S + 1) && decide (t ≤ k)
theorem s_areSizes {d sn : Nat} {S : St} {t k : Int32} {m : mm_Mem} {P : Int32 → mm_Mem → Prop} (hS : rS 2 S m) (hN : sN S ≤ 8) (h : P (nI (szs S t k).toNat) m) : mm_sp (d + 2) sn kX10_areSizes [.ref 1, .int t, .int k] m (qI P) := by
  refine v_X10_areSizes ?_
  unfold szs at h
  refine s_isSize shS_2 hS.1 hN (e_vz (fun e => ?_) (fun e => ?_))
  · rw [e] at h
    exact h
  · rw [e, Bool.true_and] at h
    refine s_isSize shS_2 hS.1 hN (e_vz (fun e => ?_) (fun e => ?_))
    · rw [e] at h
      exact h
    · rw [e, Bool.true_and] at h
      refine ⟨fun c => ?_, fun c => ?_⟩
      · rw [decide_eq_false (Int32.not_le.mpr c)] at h; exact h
      · rw [decide_eq_true (Int32.not_lt.mp c)] at h; exact h
noncomputable def A_table (S : St) (t k i j : Int32) : Int32 := if szs S t k = false then -2 else if iz i ((fndS S).2 t.toNatClampNeg) = false then -1 else if iz j ((fndS S).2 k.toNatClampNeg) = false then -1 else nI (cN (fun s => hld (fndS S).1 k.toNatClampNeg j.toNatClampNeg s && (s &&& ft (hld (fndS S).1 t.toNatClampNeg i.toNatClampNeg) == ft (hld (fndS S).1 t.toNatClampNeg i.toNatClampNeg))) 256)
theorem szs_t {S : St} {t k : Int32} (hN : sN S ≤ 8) (h : szs S t k = true) : ∃ a b, a ≤ b ∧ b ≤ sN S ∧ t = nI a ∧ k = nI b := by
  unfold szs at h
  rw [Bool.and_eq_true, Bool.and_eq_true] at h
  obtain ⟨a, ha, rfl⟩ := iz_t (by omega) h.1.1
  obtain ⟨b, hb, rfl⟩ := iz_t (by omega) h.1.2
  have h2 := of_decide_eq_true h.2
  rw [e_le (by omega) (by omega)] at h2
  exact ⟨a, b, h2, by omega, rfl, rfl⟩
theorem c_table {d sn : Nat} {X : GS} {t k i j : Int32} {m : mm_Mem} {P : Int32 → mm_Mem → Prop} (hX : okX X) (hI : cI X m) (h : ∀ m', fz 1 81 m m' → cI X m' → P (A_table X.1 t k i j) m') : mm_sp (d + 5) sn kX10_table [.ref 1, .int t, .int k, .int i, .int j] m (qI P) := by
  refine v_X10_table ?_
  have hN := hX.1.1.2
  unfold A_table at h
  refine s_areSizes hI.1 hN (e_vb (fun e => ?_) (fun e => ?_))
  · obtain ⟨a, b, hab, hb, rfl, rfl⟩ := szs_t hN e
    refine s_find hI.1 hX.1 ?_
    intro m1 hz hO
    have hS := fnd_oS hX.1
    have n1 : ¬ szs X.1 (nI a) (nI b) = false := by rw [e]; decide
    rw [if_neg n1, e_cl (by omega), e_cl (by omega)] at h
    have h := h m1 (hz.wide (by omega) (by omega)) (fz_cI hX hz (by omega) hI)
    have ha2 := hS.2 a (by omega)
    have hb2 := hS.2 b (by omega)
    refine s_isOrbit hO (by omega) (e_vz (fun e2 => ?_) (fun e2 => ?_))
    · rw [if_pos e2] at h
      exact h
    · obtain ⟨i, hi, rfl⟩ := iz_t (by omega) e2
      have n2 : ¬ iz (nI i) ((fndS X.1).2 a) = false := by rw [e2]; decide
      rw [if_neg n2, e_cl (by omega)] at h
      refine s_isOrbit hO (by omega) (e_vb (fun e3 => ?_) (fun e3 => ?_))
      · obtain ⟨j, hj, rfl⟩ := iz_t (by omega) e3
        have n3 : ¬ iz (nI j) ((fndS X.1).2 b) = false := by rw [e3]; decide
        rw [if_neg n3, e_cl (by omega)] at h
        obtain ⟨f1, _, _, f4⟩ := ft_s (orb_has hX.1 hi)
        refine s_oSetAt hO hS (by omega) (by omega) (by omega) ?_
        rw [f4]
        exact s_setsAround hO hS (by omega) (by omega) f1 h
      · rw [if_pos e3] at h
        exact h
  · rw [if_pos e] at h
    exact h m fz.refl hI
