-- SETUPS: what they hold; what the methods do
def fz (lo hi : Nat) (m m' : mm_Mem) : Prop := ∀ a, (a < lo ∨ hi < a) → m'.1 a = m.1 a ∧ m'.2 a = m.2 a
theorem fz.refl {lo hi : Nat} {m : mm_Mem} : fz lo hi m m := fun _ _ => ⟨rfl, rfl⟩
theorem fz.trans {lo hi : Nat} {m1 m2 m3 : mm_Mem} (h : fz lo hi m1 m2) (g : fz lo hi m2 m3) : fz lo hi m1 m3 := fun a ha => ⟨(g a ha).1.trans (h a ha).1, (g a ha).2.trans (h a ha).2⟩
theorem fz.wide {lo hi lo' hi' : Nat} {m m' : mm_Mem} (h : fz lo hi m m') (h1 : lo' ≤ lo) (h2 : hi ≤ hi') : fz lo' hi' m m' := fun a ha => h a (by omega)
theorem fz.i {lo hi : Nat} {m m' : mm_Mem} (h : fz lo hi m m') {a : Nat} (ha : a < lo ∨ hi < a) : m'.1 a = m.1 a := (h a ha).1
theorem fz.l {lo hi : Nat} {m m' : mm_Mem} (h : fz lo hi m m') {a : Nat} (ha : a < lo ∨ hi < a) : m'.2 a = m.2 a := (h a ha).2
theorem fr.z2 {a lo hi : Nat} {m m' : mm_Mem} (h : fr [a, a + 1] m m') (h1 : lo ≤ a) (h2 : a + 1 ≤ hi) : fz lo hi m m' := fun x hx => h x (by simp; omega)
theorem fz_u2 {lo hi : Nat} {m : mm_Mem} {a k : Nat} {v : Int32} (h1 : lo ≤ a) (h2 : a ≤ hi) : fz lo hi m (mm_u2 m.1 a k v, m.2) := fun x hx => ⟨u2_r (by omega), rfl⟩
theorem fz_u2l {lo hi : Nat} {m : mm_Mem} {a k : Nat} {v : Int64} (h1 : lo ≤ a) (h2 : a ≤ hi) : fz lo hi m (m.1, mm_u2 m.2 a k v) := fun x hx => ⟨rfl, u2_r (by omega)⟩
theorem fz_rB {lo hi : Nat} {m m' : mm_Mem} {a K : Nat} {B : Nat → Bool} (h : fz lo hi m m') (h1 : a + 1 < lo ∨ hi < a) (hB : rB a K B m) : rB a K B m' := by
  unfold rB
  by_cases e : a + 1 < lo
  · rw [h.i (by omega), h.i (by omega)]; exact hB
  · rw [h.i (by omega), h.i (by omega)]; exact hB
theorem fz_rY {lo hi : Nat} {m m' : mm_Mem} {a kd fg : Nat} {T : Nat → Nat} (h : fz lo hi m m') (h1 : a + 1 < lo ∨ hi < a) (hB : rY a kd fg T m) : rY a kd fg T m' := by
  unfold rY
  rw [h.i (by omega), h.i (by omega)]; exact hB
abbrev St : Type := (Nat × Nat × Nat × Nat × (Nat → Bool)) × ((Nat → Nat) × (Nat → Nat) × (Nat → Nat → Nat)) × ((Nat → Nat) × (Nat → Nat → Bool))
def sN (S : St) : Nat := S.1.1
def sW (S : St) : Nat := S.1.2.1
def sC (S : St) : Nat := S.1.2.2.1
def sK (S : St) : Nat := S.1.2.2.2.1
def sB (S : St) : Nat → Bool := S.1.2.2.2.2
def sKd (S : St) : Nat → Nat := S.2.1.1
def sFg (S : St) : Nat → Nat := S.2.1.2.1
def sT (S : St) : Nat → Nat → Nat := S.2.1.2.2
def sDk (S : St) : Nat → Nat := S.2.2.1
def sD (S : St) : Nat → Nat → Bool := S.2.2.2
def okB (n K : Nat) (B : Nat → Bool) : Prop := 1 ≤ K ∧ K ≤ n ∧ ∀ s, s < 256 → B s = true → s < 2 ^ n ∧ bc s = K
def okY (n kd fg : Nat) (T : Nat → Nat) : Prop := kd ≤ 5 ∧ fg ≤ 9 ∧ (∀ p, p < n → T p < n) ∧ (∀ p q, p < n → q < n → T p = T q → p = q) ∧ ∀ p, n ≤ p → p < 8 → T p = p
def okS (S : St) : Prop := (3 ≤ sN S ∧ sN S ≤ 8) ∧ (sW S ≤ 4 ∧ sC S ≤ 4) ∧ okB (sN S) (sK S) (sB S) ∧ (∀ i, i < sW S → okY (sN S) (sKd S i) (sFg S i) (sT S i)) ∧ ∀ i, i < sC S → okB (sN S) (sDk S i) (sD S i)
def rS (b : Nat) (S : St) (m : mm_Mem) : Prop := m.1 b 0 = nI (sN S) ∧ m.1 b 1 = nI (sW S) ∧ m.1 b 2 = nI (sC S) ∧ rB (b + 1) (sK S) (sB S) m ∧ (∀ i, i < sW S → rY (b + 4 + 2 * i) (sKd S i) (sFg S i) (sT S i) m) ∧ ∀ i, i < sC S → rB (b + 13 + 2 * i) (sDk S i) (sD S i) m
theorem okY_8 {n kd fg : Nat} {T : Nat → Nat} (h : okY n kd fg T) (hn : n ≤ 8) : ∀ p, p < 8 → T p < 8 := fun p hp => by
  by_cases e : p < n
  · have := h.2.2.1 p e; omega
  · rw [h.2.2.2.2 p (by omega) hp]; exact hp
theorem fz_rS {lo hi b : Nat} {S : St} {m m' : mm_Mem} (hc : sW S ≤ 4 ∧ sC S ≤ 4) (h : fz lo hi m m') (h1 : b + 20 < lo ∨ hi < b) (hS : rS b S m) : rS b S m' := by
  obtain ⟨g1, g2, g3, g4, g5, g6⟩ := hS
  refine ⟨?_, ?_, ?_, fz_rB h (by omega) g4, fun i hi => fz_rY h (by omega) (g5 i hi), fun i hi => fz_rB h (by omega) (g6 i hi)⟩
  · rw [h.i (by omega)]; exact g1
  · rw [h.i (by omega)]; exact g2
  · rw [h.i (by omega)]; exact g3
theorem p2_le {n : Nat} (hn : n ≤ 8) : 2 ^ n ≤ 256 := Nat.pow_le_pow_right (n := 2) (by decide) hn
theorem s_whole {d sn b : Nat} {S : St} {m : mm_Mem} {P : Int32 → mm_Mem → Prop} (hb : shS b) (hn : m.1 b 0 = nI (sN S)) (h8 : sN S ≤ 8) (h : P (nI (2 ^ sN S - 1)) m) : mm_sp (d + 1) sn kX6_whole [.ref b] m (qI P) := by
  refine v_X6_whole hb ?_
  have hp := Nat.two_pow_pos (sN S)
  rw [hn, e_shl (by omega), Nat.shiftLeft_eq, Nat.one_mul, e_sub hp]
  exact h
theorem s_isPoint {d sn b : Nat} {S : St} {v : Int32} {m : mm_Mem} {P : Int32 → mm_Mem → Prop} (hb : shS b) (hn : m.1 b 0 = nI (sN S)) (h : P (nI (iz v (sN S)).toNat) m) : mm_sp (d + 1) sn kX6_isPoint [.ref b, .int v] m (qI P) := by
  refine v_X6_isPoint hb ?_
  rw [hn]
  refine ⟨fun c => ?_, fun c => ⟨fun c2 => ?_, fun c2 => ?_⟩⟩
  · rw [show iz v (sN S) = false from decide_eq_false (fun e => e.1 c)] at h; exact h
  · rw [show iz v (sN S) = false from decide_eq_false (fun e => (Int32.not_le.mpr e.2) c2)] at h; exact h
  · rw [show iz v (sN S) = true from decide_eq_true ⟨c, Int32.not_le.mp c2⟩] at h; exact h
theorem iz_1 {v : Int32} {n : Nat} (hn : n + 1 < 2147483648) : iz v (n + 1) = decide (¬ v < 0 ∧ ¬ nI n < v) := by
  unfold iz
  rw [decide_eq_decide]
  refine and_congr_right (fun h0 => ?_)
  rw [Int32.lt_iff_toInt_lt, Int32.lt_iff_toInt_lt, nI_toInt (by omega), nI_toInt (by omega)]
  omega
theorem s_isSize {d sn b : Nat} {S : St} {v : Int32} {m : mm_Mem} {P : Int32 → mm_Mem → Prop} (hb : shS b) (hn : m.1 b 0 = nI (sN S)) (h8 : sN S ≤ 8) (h : P (nI (iz v (sN S + 1)).toNat) m) : mm_sp (d + 1) sn kX6_isSize [.ref b, .int v] m (qI P) := by
  refine v_X6_isSize hb ?_
  rw [hn]
  rw [iz_1 (by omega)] at h
  refine ⟨fun c => ?_, fun c => ⟨fun c2 => ?_, fun c2 => ?_⟩⟩
  · rw [decide_eq_false (fun e => e.1 c)] at h; exact h
  · rw [decide_eq_false (fun e => e.2 c2)] at h; exact h
  · rw [decide_eq_true ⟨c, c2⟩] at h; exact h
theorem s_isSet {d sn b : Nat} {S : St} {v : Int32} {m : mm_Mem} {P : Int32 → mm_Mem → Prop} (hb : shS b) (hn : m.1 b 0 = nI (sN S)) (h8 : sN S ≤ 8) (h : P (nI (iz v (2 ^ sN S)).toNat) m) : mm_sp (d + 2) sn kX6_isSet [.ref b, .int v] m (qI P) := by
  refine v_X6_isSet hb ?_
  have hp := Nat.two_pow_pos (sN S)
  have hq := p2_le h8
  have e : 2 ^ sN S = 2 ^ sN S - 1 + 1 := by omega
  rw [e, iz_1 (by omega)] at h
  refine ⟨fun c => ?_, fun c => s_whole hb hn h8 ⟨fun c2 => ?_, fun c2 => ?_⟩⟩
  · rw [decide_eq_false (fun e => e.1 c)] at h; exact h
  · rw [decide_eq_false (fun e => e.2 c2)] at h; exact h
  · rw [decide_eq_true ⟨c, c2⟩] at h; exact h
theorem s_wayAt {d sn b w : Nat} {v : Int32} {m : mm_Mem} {P : Option Nat → mm_Mem → Prop} (hb : shS b) (hw : m.1 b 1 = nI w) (h4 : w ≤ 4) (h1 : ∀ j, j < w → v = nI j → P (some (b + 4 + 2 * j)) m) (h0 : iz v w = false → P none m) : mm_sp (d + 1) sn kX6_wayAt [.ref b, .int v] m (qR P) := by
  refine v_X6_wayAt hb ?_
  rw [hw]
  refine ⟨fun c => ?_, fun c => ⟨fun c2 => ?_, fun c2 => ?_⟩⟩
  · exact h0 (decide_eq_false (fun e => e.1 c))
  · exact h0 (decide_eq_false (fun e => (Int32.not_le.mpr e.2) c2))
  · obtain ⟨j, hj, e⟩ := iz_t (i := v) (n := w) (by omega) (decide_eq_true ⟨c, Int32.not_le.mp c2⟩)
    subst e
    simp (disch := omega) only [e_le, e_lt, e_eq, e_lt0, e_0le, e_le0, e_0lt, e_eq0, e_m1, e_m5, e_m1l, e_m5l, e_m1e, e_add, e_dec, e_sub, e_mul, e_div, e_rem, e_and, e_or, e_shl, e_shr, e_vin, e_nar, e_nar0, e_nar1, e_cl, e_b0, e_b00, e_b1, e_bt, e_andn, e_xor, Bool.not_eq_false, Bool.not_eq_true, Classical.not_not, not_false_eq_true, not_true_eq_false, true_implies, false_implies, true_and, and_true]
    exact ⟨fun _ => ⟨j, by omega, rfl, h1 j hj rfl⟩, fun c => by omega⟩
theorem s_designAt {d sn b w : Nat} {v : Int32} {m : mm_Mem} {P : Option Nat → mm_Mem → Prop} (hb : shS b) (hw : m.1 b 2 = nI w) (h4 : w ≤ 4) (h1 : ∀ j, j < w → v = nI j → P (some (b + 13 + 2 * j)) m) (h0 : iz v w = false → P none m) : mm_sp (d + 1) sn kX6_designAt [.ref b, .int v] m (qR P) := by
  refine v_X6_designAt hb ?_
  rw [hw]
  refine ⟨fun c => ?_, fun c => ⟨fun c2 => ?_, fun c2 => ?_⟩⟩
  · exact h0 (decide_eq_false (fun e => e.1 c))
  · exact h0 (decide_eq_false (fun e => (Int32.not_le.mpr e.2) c2))
  · obtain ⟨j, hj, e⟩ := iz_t (i := v) (n := w) (by omega) (decide_eq_true ⟨c, Int32.not_le.mp c2⟩)
    subst e
    simp (disch := omega) only [e_le, e_lt, e_eq, e_lt0, e_0le, e_le0, e_0lt, e_eq0, e_m1, e_m5, e_m1l, e_m5l, e_m1e, e_add, e_dec, e_sub, e_mul, e_div, e_rem, e_and, e_or, e_shl, e_shr, e_vin, e_nar, e_nar0, e_nar1, e_cl, e_b0, e_b00, e_b1, e_bt, e_andn, e_xor, Bool.not_eq_false, Bool.not_eq_true, Classical.not_not, not_false_eq_true, not_true_eq_false, true_implies, false_implies, true_and, and_true]
    exact ⟨fun _ => ⟨j, by omega, rfl, h1 j hj rfl⟩, fun c => by omega⟩
theorem s_spareWay {d sn b w : Nat} {m : mm_Mem} {P : Option Nat → mm_Mem → Prop} (hb : shS b) (hw : m.1 b 1 = nI w) (h4 : w ≤ 4) (h1 : w < 4 → P (some (b + 4 + 2 * w)) m) (h0 : w = 4 → P none m) : mm_sp (d + 1) sn kX6_spareWay [.ref b] m (qR P) := by
  refine v_X6_spareWay hb ?_
  rw [hw]
  simp (disch := omega) only [e_le, e_lt, e_eq, e_lt0, e_0le, e_le0, e_0lt, e_eq0, e_m1, e_m5, e_m1l, e_m5l, e_m1e, e_add, e_dec, e_sub, e_mul, e_div, e_rem, e_and, e_or, e_shl, e_shr, e_vin, e_nar, e_nar0, e_nar1, e_cl, e_b0, e_b00, e_b1, e_bt, e_andn, e_xor, Bool.not_eq_false, Bool.not_eq_true, Classical.not_not, not_false_eq_true, not_true_eq_false, true_implies, false_implies, true_and, and_true]
  exact ⟨fun c => ⟨w, c, rfl, h1 c⟩, fun c => h0 (by omega)⟩
theorem s_spareDesign {d sn b w : Nat} {m : mm_Mem} {P : Option Nat → mm_Mem → Prop} (hb : shS b) (hw : m.1 b 2 = nI w) (h4 : w ≤ 4) (h1 : w < 4 → P (some (b + 13 + 2 * w)) m) (h0 : w = 4 → P none m) : mm_sp (d + 1) sn kX6_spareDesign [.ref b] m (qR P) := by
  refine v_X6_spareDesign hb ?_
  rw [hw]
  simp (disch := omega) only [e_le, e_lt, e_eq, e_lt0, e_0le, e_le0, e_0lt, e_eq0, e_m1, e_m5, e_m1l, e_m5l, e_m1e, e_add, e_dec, e_sub, e_mul, e_div, e_rem, e_and, e_or, e_shl, e_shr, e_vin, e_nar, e_nar0, e_nar1, e_cl, e_b0, e_b00, e_b1, e_bt, e_andn, e_xor, Bool.not_eq_false, Bool.not_eq_true, Classical.not_not, not_false_eq_true, not_true_eq_false, true_implies, false_implies, true_and, and_true]
  exact ⟨fun c => ⟨w, c, rfl, h1 c⟩, fun c => h0 (by omega)⟩
theorem shS_b {b : Nat} (h : shS b) : shB (b + 1) := h.2.1.2
theorem shS_y {b : Nat} (h : shS b) {i : Nat} (hi : i < 4) : shY (b + 4 + 2 * i) := (h.2.2.1.2.2 i hi).2
theorem shS_d {b : Nat} (h : shS b) {i : Nat} (hi : i < 4) : shB (b + 13 + 2 * i) := (h.2.2.2.2.2 i hi).2
def stNew (n : Nat) (S : St) : St := ((n, 0, 0, 2, fun _ => false), S.2)
theorem s_restart {d sn b n : Nat} {S : St} {m : mm_Mem} {P : mm_Mem → Prop} (hb : shS b) (h : ∀ m', fz b (b + 20) m m' → rS b (stNew n S) m' → P m') : mm_sp (d + 2) sn kX6_restart [.ref b, .int (nI n)] m (qV P) := by
  refine v_X6_restart hb ?_
  intro m1 e1 m2 e2 m3 e3
  refine s_becomeEmpty (shS_b hb) (K := 2) ?_
  intro m4 hf hB
  have hz : fz b (b + 20) m m3 := by
    subst e1; subst e2; subst e3
    exact ((fz_u2 (by omega) (by omega)).trans (fz_u2 (m := (_, _)) (by omega) (by omega))).trans (fz_u2 (m := (_, _)) (by omega) (by omega))
  refine h m4 (hz.trans (hf.z2 (by omega) (by omega))) ⟨?_, ?_, ?_, hB, fun i hi => absurd hi (Nat.not_lt_zero i), fun i hi => absurd hi (Nat.not_lt_zero i)⟩
  · rw [hf.i (by simp; omega)]
    subst e1; subst e2; subst e3
    exact (u2_j (by omega)).trans ((u2_j (f := (mm_u2 _ b 0 _)) (by omega)).trans u2_s)
  · rw [hf.i (by simp; omega)]
    subst e1; subst e2; subst e3
    exact (u2_j (by omega)).trans u2_s
  · rw [hf.i (by simp; omega)]
    subst e1; subst e2; subst e3
    exact u2_s
