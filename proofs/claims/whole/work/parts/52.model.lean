-- THE MODEL's share of the memory; the simplest of its methods
def rMs (g z : Nat) (S : St) (m : mm_Mem) : Prop := (m.1 g 0 = nI (sN S) ∧ m.1 g 1 = nI (sW S) ∧ m.1 g 42 = nI (sK S) ∧ m.1 g 43 = nI (sC S)) ∧ (∀ w, w < sW S → m.1 g (2 + w) = nI (sKd S w) ∧ m.1 g (6 + w) = nI (sFg S w) ∧ ∀ p, p < sN S → m.1 g (10 + 8 * w + p) = nI (sT S w p)) ∧ (∀ i, i < sC S → m.1 g (44 + i) = nI (sDk S i)) ∧ rZ (m.1 z) (sB S) 256 ∧ ∀ i, i < sC S → rZ (m.1 (z + 1 + i)) (sD S i) 256
def mI (X : GS) (m : mm_Mem) : Prop := rMs 83 86 X.1 m ∧ m.1 82 4 = nI X.2.2.1.toNat ∧ (X.2.2.1 = true → rMs 84 92 X.2.1 m) ∧ (m.1 82 16 = nI X.2.2.2.1.1 ∧ ∀ j, j < X.2.2.2.1.1 → m.1 201 j = X.2.2.2.1.2 j) ∧ ∀ k, k < 6 → m.1 202 k = gSo X k ∧ m.1 203 k = nI (gLn X k) ∧ ∀ i, i < 60 → m.2 (205 + k) i = gIt X k i
theorem fz_rMs {lo hi g z : Nat} {S : St} {m m' : mm_Mem} (hc : sC S ≤ 4) (h : fz lo hi m m') (h1 : (g < lo ∨ hi < g) ∧ (z + 4 < lo ∨ hi < z)) (hS : rMs g z S m) : rMs g z S m' := by
  unfold rMs
  rw [h.i h1.1, h.i (show z < lo ∨ hi < z by omega)]
  refine ⟨hS.1, hS.2.1, hS.2.2.1, hS.2.2.2.1, fun i hi => ?_⟩
  rw [h.i (by omega)]
  exact hS.2.2.2.2 i hi
/-- a call of the class leaves the model as it is -/
theorem mI_class {X : GS} {m m' : mm_Mem} (hX : okX X) (h : fz 1 81 m m') (hI : mI X m) : mI X m' := by
  obtain ⟨g1, g2, g3, g4, g5⟩ := hI
  refine ⟨fz_rMs hX.1.2.1.2 h (by omega) g1, ?_, fun e => fz_rMs (hX.2.1 e).2.1.2 h (by omega) (g3 e), ⟨?_, fun j hj => ?_⟩, fun k hk => ⟨?_, ?_, fun i hi => ?_⟩⟩
  · rw [h.i (by omega)]; exact g2
  · rw [h.i (by omega)]; exact g4.1
  · rw [h.i (by omega)]; exact g4.2 j hj
  · rw [h.i (by omega)]; exact (g5 k hk).1
  · rw [h.i (by omega)]; exact (g5 k hk).2.1
  · rw [h.l (by omega)]; exact (g5 k hk).2.2 i hi
/-- a call of the model leaves the class as it is -/
theorem cI_model {X : GS} {m m' : mm_Mem} (hX : okX X) (h : fz 82 211 m m') (hI : cI X m) : cI X m' := fz_cI hX h (by omega) hI
theorem s_in {d sn n : Nat} {v w : Int32} {m : mm_Mem} {P : Int32 → mm_Mem → Prop} (hw : w.toInt + 1 = n) (hn : n < 2147483648) (h : P (nI (iz v n).toNat) m) : mm_sp (d + 1) sn kX11_in [.long v.toInt64, .long (lN 0), .long w.toInt64] m (qI P) := by
  refine v_X11_in ?_
  have l0 : (lN 0).toInt = 0 := by decide
  have e1 : (v.toInt64 < lN 0) = (v < 0) := by
    apply propext
    rw [Int64.lt_iff_toInt_lt, Int32.lt_iff_toInt_lt, Int32.toInt_toInt64, l0]
    exact Iff.rfl
  have e2 : (w.toInt64 < v.toInt64) = ¬ (v < nI n) := by
    apply propext
    rw [Int64.lt_iff_toInt_lt, Int32.lt_iff_toInt_lt, Int32.toInt_toInt64, Int32.toInt_toInt64, nI_toInt (by omega)]
    omega
  rw [lg_cmp_lt, lg_cmp_gt, e1, e2]
  refine ⟨fun c => ?_, fun c => ⟨fun c2 => ?_, fun c2 => ?_⟩⟩
  · rw [iz_no1 c] at h; exact h
  · rw [iz_no2 c2] at h; exact h
  · rw [iz_of c (Classical.not_not.mp c2)] at h; exact h
theorem m_whole {d sn : Nat} {S : St} {m : mm_Mem} {P : Int32 → mm_Mem → Prop} (hn : m.1 83 0 = nI (sN S)) (h8 : sN S ≤ 8) (h : P (nI (2 ^ sN S - 1)) m) : mm_sp (d + 1) sn kX11_whole [.ref 82] m (qI P) := by
  refine v_X11_whole ?_
  have hp := Nat.two_pow_pos (sN S)
  rw [hn, e_shl (by omega), Nat.shiftLeft_eq, Nat.one_mul, e_sub (show 1 ≤ 2 ^ sN S from hp)]
  exact h
theorem m_isSet {d sn : Nat} {S : St} {v : Int32} {m : mm_Mem} {P : Int32 → mm_Mem → Prop} (hn : m.1 83 0 = nI (sN S)) (h8 : sN S ≤ 8) (h : P (nI (iz v (2 ^ sN S)).toNat) m) : mm_sp (d + 2) sn kX11_isSet [.ref 82, .int v] m (qI P) := by
  have hp := Nat.two_pow_pos (sN S)
  have hp8 := p2_le h8
  refine v_X11_isSet ?_
  refine m_whole hn h8 ?_
  refine s_in (n := 2 ^ sN S) (by rw [nI_toInt (by omega)]; omega) (by omega) ?_
  exact ⟨e_z01, h⟩
theorem e_pred {n : Nat} (hn : n < 1000) : (nI n - nI 1).toInt + 1 = n := by
  cases n with
  | zero => decide
  | succ n =>
    rw [e_sub (by omega), nI_toInt (by omega)]
    omega
theorem m_isPoint {d sn : Nat} {S : St} {v : Int32} {m : mm_Mem} {P : Int32 → mm_Mem → Prop} (hn : m.1 83 0 = nI (sN S)) (h8 : sN S ≤ 8) (h : P (nI (iz v (sN S)).toNat) m) : mm_sp (d + 2) sn kX11_isPoint [.ref 82, .int v] m (qI P) := by
  refine v_X11_isPoint ?_
  rw [hn]
  exact s_in (e_pred (by omega)) (by omega) ⟨e_z01, h⟩
theorem m_isWay {d sn : Nat} {S : St} {v : Int32} {m : mm_Mem} {P : Int32 → mm_Mem → Prop} (hn : m.1 83 1 = nI (sW S)) (h4 : sW S ≤ 4) (h : P (nI (iz v (sW S)).toNat) m) : mm_sp (d + 2) sn kX11_isWay [.ref 82, .int v] m (qI P) := by
  refine v_X11_isWay ?_
  rw [hn]
  exact s_in (e_pred (by omega)) (by omega) ⟨e_z01, h⟩
