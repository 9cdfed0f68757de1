-- THE STATE of both sides, and the class's share of the memory
abbrev GS : Type := St × St × Bool × (Nat × (Nat → Int32)) × ((Nat → Int32) × (Nat → Nat) × (Nat → Nat → Int64))
def rX (t : Nat × (Nat → Int32)) (m : mm_Mem) : Prop := m.1 44 0 = nI t.1 ∧ ∀ j, j < t.1 → m.1 45 j = t.2 j
def rP (t : (Nat → Int32) × (Nat → Nat) × (Nat → Nat → Int64)) (m : mm_Mem) : Prop := ∀ k, k < 6 → m.1 (47 + 2 * k) 0 = t.1 k ∧ m.1 (47 + 2 * k) 1 = nI (t.2.1 k) ∧ ∀ i, i < 60 → m.2 (48 + 2 * k) i = t.2.2 k i
def okX (X : GS) : Prop := okS X.1 ∧ (X.2.2.1 = true → okS X.2.1) ∧ (X.2.2.2.1.1 ≤ 100 ∧ ∀ j, j < X.2.2.2.1.1 → ∃ c, c < 128 ∧ X.2.2.2.1.2 j = nI c) ∧ ∀ k, k < 6 → (X.2.2.2.2.1 k = -1 ∧ X.2.2.2.2.2.1 k = 0 ∨ ∃ q, q < 5 ∧ X.2.2.2.2.1 k = nI q) ∧ X.2.2.2.2.2.1 k ≤ 60
def cI (X : GS) (m : mm_Mem) : Prop := rS 2 X.1 m ∧ m.1 1 2 = nI X.2.2.1.toNat ∧ (X.2.2.1 = true → rS 23 X.2.1 m) ∧ rX X.2.2.2.1 m ∧ rP X.2.2.2.2 m
theorem fz_cI {X : GS} {lo hi : Nat} {m m' : mm_Mem} (hX : okX X) (h : fz lo hi m m') (h1 : 59 ≤ lo) (hI : cI X m) : cI X m' := by
  obtain ⟨g1, g2, g3, g4, g5⟩ := hI
  refine ⟨fz_rS hX.1.2.1 h (by omega) g1, ?_, fun e => fz_rS (hX.2.1 e).2.1 h (by omega) (g3 e), ⟨?_, fun j hj => ?_⟩, fun k hk => ⟨?_, ?_, fun i hi => ?_⟩⟩
  · rw [h.i (by omega)]; exact g2
  · rw [h.i (by omega)]; exact g4.1
  · rw [h.i (by omega)]; exact g4.2 j hj
  · rw [h.i (by omega)]; exact (g5 k hk).1
  · rw [h.i (by omega)]; exact (g5 k hk).2.1
  · rw [h.l (by omega)]; exact (g5 k hk).2.2 i hi
/-- a new first set-up -/
def setS (X : GS) (S : St) : GS := (S, X.2)
theorem cI_S {X : GS} {S : St} {m m' : mm_Mem} (hX : okX X) (h : fz 2 22 m m') (hI : cI X m) (hS : rS 2 S m') : cI (setS X S) m' := by
  obtain ⟨g1, g2, g3, g4, g5⟩ := hI
  refine ⟨hS, ?_, fun e => fz_rS (hX.2.1 e).2.1 h (by omega) (g3 e), ⟨?_, fun j hj => ?_⟩, fun k hk => ⟨?_, ?_, fun i hi => ?_⟩⟩
  · rw [h.i (by omega)]; exact g2
  · rw [h.i (by omega)]; exact g4.1
  · rw [h.i (by omega)]; exact g4.2 j hj
  · rw [h.i (by omega)]; exact (g5 k hk).1
  · rw [h.i (by omega)]; exact (g5 k hk).2.1
  · rw [h.l (by omega)]; exact (g5 k hk).2.2 i hi
theorem okX_S {X : GS} {S : St} (hX : okX X) (hS : okS S) : okX (setS X S) := ⟨hS, hX.2⟩
-- answers of the ways' calls
theorem e_vb {b : Bool} {T U : Prop} (t : b = true → T) (u : b = false → U) : ((¬ nI b.toNat = 0) → T) ∧ (¬ (¬ nI b.toNat = 0) → U) := by
  rw [e_b0]
  cases b with
  | true => exact ⟨fun _ => t rfl, fun h => absurd (by decide) h⟩
  | false => exact ⟨fun h => absurd rfl h, fun _ => u rfl⟩
theorem e_vz {b : Bool} {T U : Prop} (t : b = false → T) (u : b = true → U) : ((nI b.toNat = 0) → T) ∧ (¬ (nI b.toNat = 0) → U) := by
  rw [e_b0]
  cases b with
  | true => exact ⟨fun h => absurd h (by decide), fun _ => u rfl⟩
  | false => exact ⟨fun _ => t rfl, fun h => absurd rfl h⟩
theorem iz_j {j n : Nat} (hj : j < n) (hn : n < 2147483648) : iz (nI j) n = true := by
  rw [iz_n (by omega) hn]
  exact decide_eq_true hj
def A_takes (S : St) (v w : Int32) : Int32 := if iz v (sW S) = true ∧ iz w (sN S) = true then nI (sT S v.toNatClampNeg w.toNatClampNeg) else -1
theorem c_takes {d sn : Nat} {X : GS} {v w : Int32} {m : mm_Mem} {P : Int32 → mm_Mem → Prop} (hX : okX X) (hI : cI X m) (h : ∀ m', fz 1 81 m m' → cI X m' → P (A_takes X.1 v w) m') : mm_sp (d + 3) sn kX10_takes [.ref 1, .int v, .int w] m (qI P) := by
  refine v_X10_takes ?_
  have hW := hX.1.2.1.1
  have hN := hX.1.1.2
  have h := h m fz.refl hI
  unfold A_takes at h
  refine s_wayAt shS_2 hI.1.2.1 hW (fun j hj ej => ?_) (fun e => ?_)
  · subst ej
    refine v_so ⟨shS_y shS_2 (by omega), ?_⟩
    refine s_isPoint shS_2 hI.1.1 (e_vb (fun e => ?_) (fun e => ?_))
    · obtain ⟨p, hp, rfl⟩ := iz_t (by omega) e
      rw [if_pos ⟨iz_j hj (by omega), e⟩, e_cl (by omega), e_cl (by omega)] at h
      exact s_pointFor (shS_y shS_2 (by omega)) (hI.1.2.2.2.2.1 j hj) (by omega) h
    · rw [if_neg (fun c => by rw [c.2] at e; cases e)] at h
      exact h
  · rw [if_neg (fun c => by rw [c.1] at e; cases e)] at h
    exact v_no h
def A_moves (S : St) (v w : Int32) : Int32 := if iz v (sW S) = true ∧ iz w (2 ^ sN S) = true then nI (mv (sT S v.toNatClampNeg) w.toNatClampNeg) else -1
theorem c_moves {d sn : Nat} {X : GS} {v w : Int32} {m : mm_Mem} {P : Int32 → mm_Mem → Prop} (hX : okX X) (hI : cI X m) (h : ∀ m', fz 1 81 m m' → cI X m' → P (A_moves X.1 v w) m') : mm_sp (d + 3) sn kX10_moves [.ref 1, .int v, .int w] m (qI P) := by
  refine v_X10_moves ?_
  have hW := hX.1.2.1.1
  have hN := hX.1.1.2
  have hp8 := p2_le hN
  have h := h m fz.refl hI
  unfold A_moves at h
  refine s_wayAt shS_2 hI.1.2.1 hW (fun j hj ej => ?_) (fun e => ?_)
  · subst ej
    refine v_so ⟨shS_y shS_2 (by omega), ?_⟩
    refine s_isSet shS_2 hI.1.1 hN (e_vb (fun e => ?_) (fun e => ?_))
    · obtain ⟨p, hp, rfl⟩ := iz_t (by omega) e
      rw [if_pos ⟨iz_j hj (by omega), e⟩, e_cl (by omega), e_cl (by omega)] at h
      exact s_setFor (shS_y shS_2 (by omega)) (hI.1.2.2.2.2.1 j hj) (okS_8 hX.1 j hj) (by omega) h
    · rw [if_neg (fun c => by rw [c.2] at e; cases e)] at h
      exact h
  · rw [if_neg (fun c => by rw [c.1] at e; cases e)] at h
    exact v_no h
def A_wayOf (S : St) (v w : Int32) : Int32 := if iz v (sW S) = true then (if w = nI 0 then nI (sKd S v.toNatClampNeg) else if w = nI 1 then nI (sFg S v.toNatClampNeg) else if w = nI 2 then nI (kept (sB S) (sT S v.toNatClampNeg)).toNat else if w = nI 3 then nI (per (sT S v.toNatClampNeg)) else -1) else -1
theorem c_wayOf {d sn : Nat} {X : GS} {v w : Int32} {m : mm_Mem} {P : Int32 → mm_Mem → Prop} (hX : okX X) (hI : cI X m) (h : ∀ m', fz 1 81 m m' → cI X m' → P (A_wayOf X.1 v w) m') : mm_sp (d + 4) sn kX10_wayOf [.ref 1, .int v, .int w] m (qI P) := by
  refine v_X10_wayOf ?_
  have hW := hX.1.2.1.1
  have h := h m fz.refl hI
  unfold A_wayOf at h
  refine s_wayAt shS_2 hI.1.2.1 hW (fun j hj ej => ?_) (fun e => ?_)
  · subst ej
    have hY := hI.1.2.2.2.2.1 j hj
    have hy := shS_y shS_2 (show j < 4 by omega)
    refine v_so ⟨hy, ?_⟩
    rw [if_pos (iz_j hj (by omega)), e_cl (by omega)] at h
    refine ⟨fun e => ?_, fun e => ?_, fun e => ?_, fun e => ?_, fun e0 e1 e2 e3 => ?_⟩
    · rw [if_pos e] at h
      rw [hY.1]; exact h
    · subst e
      rw [if_neg (by decide), if_pos rfl] at h
      rw [hY.2.1]; exact h
    · subst e
      rw [if_neg (by decide), if_neg (by decide), if_pos rfl] at h
      refine s_areKeptBy (shS_b shS_2) hy hI.1.2.2.2.1.2.2 hY (okS_8 hX.1 j hj) (e_vz (fun e => ?_) (fun e => ?_))
      · rw [e] at h; exact h
      · rw [e] at h; exact h
    · subst e
      rw [if_neg (by decide), if_neg (by decide), if_neg (by decide), if_pos rfl] at h
      exact s_period hy hY (okS_8 hX.1 j hj) h
    · rw [if_neg e0, if_neg e1, if_neg e2, if_neg e3] at h
      exact h
  · rw [if_neg (fun c => by rw [c] at e; cases e)] at h
    exact v_no h
def A_drop (S : St) (v : Int32) : Int32 := if iz v (sW S) = true then nI (sW S - 1) else -1
def S_drop (S : St) (v : Int32) : St := if iz v (sW S) = true then stDrop v.toNatClampNeg S else S
theorem dr_ok {w n i : Nat} {S : St} (h : ∀ i, i < sW S → okY n (sKd S i) (sFg S i) (sT S i)) (hi : i < sW S - 1) : okY n (dr w (sKd S) i) (dr w (sFg S) i) (dr w (sT S) i) := by
  unfold dr
  by_cases e : i < w
  · rw [if_pos e, if_pos e, if_pos e]; exact h i (by omega)
  · rw [if_neg e, if_neg e, if_neg e]; exact h (i + 1) (by omega)
theorem okS_drop {S : St} {v : Int32} (h : okS S) : okS (S_drop S v) := by
  unfold S_drop
  split
  · refine ⟨h.1, ⟨?_, h.2.1.2⟩, h.2.2.1, fun i hi => dr_ok h.2.2.2.1 hi, h.2.2.2.2⟩
    show sW S - 1 ≤ 4
    have := h.2.1.1
    omega
  · exact h
theorem c_drop {d sn : Nat} {X : GS} {v : Int32} {m : mm_Mem} {P : Int32 → mm_Mem → Prop} (hX : okX X) (hI : cI X m) (h : ∀ m', fz 1 81 m m' → cI (setS X (S_drop X.1 v)) m' → P (A_drop X.1 v) m') : mm_sp (d + 4) sn kX10_drop [.ref 1, .int v] m (qI P) := by
  refine v_X10_drop ?_
  have hW := hX.1.2.1.1
  unfold A_drop S_drop at h
  refine s_wayAt shS_2 hI.1.2.1 hW (fun j hj ej => ?_) (fun e => ?_)
  · subst ej
    rw [if_pos (iz_j hj (by omega)), if_pos (iz_j hj (by omega)), e_cl (by omega)] at h
    refine v_so ⟨shS_y shS_2 (by omega), ?_⟩
    refine s_removeWay shS_2 hI.1 hX.1.2.1 hj ?_
    intro m' hz hS
    rw [hS.2.1]
    exact h m' (hz.wide (by omega) (by omega)) (cI_S hX hz hI hS)
  · rw [if_neg (fun c => by rw [c] at e; cases e), if_neg (fun c => by rw [c] at e; cases e)] at h
    exact v_no (h m fz.refl hI)
def A_points (S : St) (v : Int32) : Int32 := if ¬ v < nI 3 ∧ v ≤ nI 8 then nI (sN S) else -2
def S_points (S : St) (v : Int32) : St := if ¬ v < nI 3 ∧ v ≤ nI 8 then stNew v.toNatClampNeg S else S
theorem p38 {v : Int32} (h1 : ¬ v < nI 3) (h2 : v ≤ nI 8) : ∃ n, 3 ≤ n ∧ n ≤ 8 ∧ v = nI n := by
  rw [Int32.lt_iff_toInt_lt] at h1
  rw [Int32.le_iff_toInt_le] at h2
  have e3 : (nI 3).toInt = 3 := by decide
  have e8 : (nI 8).toInt = 8 := by decide
  rw [e3] at h1
  rw [e8] at h2
  refine ⟨v.toInt.toNat, by omega, by omega, ?_⟩
  rw [← Int32.toInt_inj, nI_toInt (by omega)]
  omega
theorem okS_points {S : St} {v : Int32} (h : okS S) : okS (S_points S v) := by
  unfold S_points
  split
  · next c =>
    obtain ⟨n, h3, h8, e⟩ := p38 c.1 c.2
    subst e
    rw [e_cl (by omega)]
    exact ⟨⟨h3, h8⟩, ⟨Nat.zero_le _, Nat.zero_le _⟩, ⟨(by decide : 1 ≤ 2), (show 2 ≤ n by omega), fun s _ hs => by cases hs⟩, fun i hi => absurd hi (Nat.not_lt_zero i), fun i hi => absurd hi (Nat.not_lt_zero i)⟩
  · exact h
theorem c_points {d sn : Nat} {X : GS} {v : Int32} {m : mm_Mem} {P : Int32 → mm_Mem → Prop} (hX : okX X) (hI : cI X m) (h : ∀ m', fz 1 81 m m' → cI (setS X (S_points X.1 v)) m' → P (A_points X.1 v) m') : mm_sp (d + 3) sn kX10_points [.ref 1, .int v] m (qI P) := by
  refine v_X10_points ?_
  unfold A_points S_points at h
  by_cases h1 : v < nI 3
  · rw [if_neg (fun c => c.1 h1), if_neg (fun c => c.1 h1)] at h
    exact e_vT h1 (h m fz.refl hI)
  · refine e_vF h1 ?_
    by_cases h2 : v ≤ nI 8
    · refine e_vT h2 ?_
      rw [if_pos ⟨h1, h2⟩, if_pos ⟨h1, h2⟩] at h
      obtain ⟨n, h3, h8, e⟩ := p38 h1 h2
      subst e
      rw [e_cl (by omega)] at h
      refine s_restart (S := X.1) shS_2 ?_
      intro m' hz hS
      rw [hI.1.1]
      exact h m' (hz.wide (by omega) (by omega)) (cI_S hX hz hI hS)
    · rw [if_neg (fun c => h2 c.2), if_neg (fun c => h2 c.2)] at h
      exact e_vF h2 (h m fz.refl hI)
