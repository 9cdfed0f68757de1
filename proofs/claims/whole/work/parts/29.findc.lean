-- ORBITS: the class finds them so
def rQ (st : OS) (m : mm_Mem) : Prop := (∀ s, s < 256 → m.1 60 s = oI (st.1 s)) ∧ ∀ j, j < st.2.2 → m.1 62 j = nI (st.2.1 j)
theorem e_oIm1 {x : Option Nat} (hx : ∀ o, x = some o → o < 257) : (oI x = -1) = (x = none) := by
  cases x with
  | none => exact propext ⟨fun _ => rfl, fun _ => rfl⟩
  | some o =>
    have ho := hx o rfl
    show (nI o = -1) = _
    rw [e_m1 (by omega)]
    exact propext ⟨fun e => e.elim, fun e => by cases e⟩
def oB (st : OS) : Prop := ∀ s o, st.1 s = some o → o < 257
theorem ent_oB {o x : Nat} {st : OS} (ho : o < 257) (h : oB st) : oB (ent o st x) := by
  unfold ent
  split
  · intro y q hq
    by_cases e : y = x
    · subst e
      have hq : ud st.1 y (some o) y = some q := hq
      rw [ud_s] at hq
      cases hq
      exact ho
    · have hq : ud st.1 x (some o) y = some q := hq
      rw [ud_n e] at hq
      exact h y q hq
  · exact h
theorem entW_oB {Ts : Nat → Nat → Nat} {o x : Nat} {st : OS} (ho : o < 257) (h : oB st) : ∀ (w : Nat), oB (entW Ts o x w st)
  | 0 => h
  | w + 1 => ent_oB ho (entW_oB ho h w)
theorem s_enter {d sn o x : Nat} {st : OS} {m : mm_Mem} {P : Int32 → mm_Mem → Prop} (hQ : rQ st m) (hB : oB st) (hx : x < 256) (hq : qB (ent o st x)) (h : ∀ m', fz 59 62 m m' → m'.1 61 = m.1 61 → m'.1 59 = m.1 59 → rQ (ent o st x) m' → P (nI (ent o st x).2.2) m') : mm_sp (d + 1) sn kX5_enter [.ref 59, .int (nI x), .int (nI o), .int (nI st.2.2)] m (qI P) := by
  have hl : st.2.2 ≤ 256 := by
    have h1 := ent_len (o := o) (x := x) (st := st)
    have h2 : (ent o st x).2.2 + cN _ 256 ≤ 256 := hq
    omega
  refine v_X5_enter ?_
  have hb := hQ.1 x hx
  have hob := e_oIm1 (x := st.1 x) (hB x)
  simp (disch := omega) only [e_le, e_lt, e_eq, e_lt0, e_0le, e_le0, e_0lt, e_eq0, e_m1, e_m5, e_m1l, e_m5l, e_m1e, e_add, e_dec, e_sub, e_mul, e_div, e_rem, e_and, e_or, e_shl, e_shr, e_vin, e_nar, e_nar0, e_nar1, e_cl, e_b0, e_b00, e_b1, e_bt, e_andn, e_xor, Bool.not_eq_false, Bool.not_eq_true, Classical.not_not, not_false_eq_true, not_true_eq_false, true_implies, false_implies, true_and, and_true, hb, hob]
  refine ⟨fun c => by omega, fun _ => ⟨hx, fun e => ?_, fun e => ?_⟩⟩
  · have e2 : ent o st x = (ud st.1 x (some o), ud st.2.1 st.2.2 x, st.2.2 + 1) := if_pos e
    have h3 : st.2.2 < 256 := by
      have h2 : (ent o st x).2.2 + cN _ 256 ≤ 256 := hq
      rw [e2] at h2
      have h2 : st.2.2 + 1 + cN _ 256 ≤ 256 := h2
      omega
    refine ⟨fun _ => ⟨hx, fun m1 e1 => ⟨h3, fun m2 e4 => ?_⟩⟩, fun c => absurd h3 c⟩
    rw [e2] at h
    refine h m2 ?_ ?_ ?_ ⟨fun s hs => ?_, fun j hj => ?_⟩
    · subst e1; subst e4
      exact (fz_u2 (by omega) (by omega)).trans (fz_u2 (m := (_, _)) (by omega) (by omega))
    · subst e1; subst e4
      show mm_u2 (mm_u2 m.1 60 x (nI o)) 62 st.2.2 (nI x) 61 = m.1 61
      rw [u2_r (by omega), u2_r (by omega)]
    · subst e1; subst e4
      show mm_u2 (mm_u2 m.1 60 x (nI o)) 62 st.2.2 (nI x) 59 = m.1 59
      rw [u2_r (by omega), u2_r (by omega)]
    · subst e1; subst e4
      show mm_u2 (mm_u2 m.1 60 x (nI o)) 62 st.2.2 (nI x) 60 s = oI (ud st.1 x (some o) s)
      rw [u2_rj (by omega)]
      by_cases e5 : s = x
      · subst e5; rw [u2_s, ud_s]; rfl
      · rw [u2_j e5, ud_n e5]; exact hQ.1 s hs
    · subst e1; subst e4
      show mm_u2 (mm_u2 m.1 60 x (nI o)) 62 st.2.2 (nI x) 62 j = nI (ud st.2.1 st.2.2 x j)
      by_cases e5 : j = st.2.2
      · subst e5; rw [u2_s, ud_s]
      · rw [u2_j e5, ud_n e5, u2_rj (by omega)]
        have hj : j < st.2.2 + 1 := hj
        exact hQ.2 j (by omega)
  · have e2 : ent o st x = st := if_neg e
    rw [e2] at h
    exact h m fz.refl rfl rfl hQ
theorem s_spr {d sn o w : Nat} {Ts : Nat → Nat → Nat} {S : St} {P : mm_Mem → Prop} {m0 : mm_Mem} (hS : rS 2 S m0) (h4 : sW S ≤ 4 ∧ sC S ≤ 4) (hw : w = sW S) (hTs : Ts = sT S) (ho : o < 257) (hT8 : ∀ i, i < w → ∀ p, p < 8 → sT S i p < 8) : ∀ (f h : Nat) (st : OS) (m : mm_Mem), h ≤ st.2.2 → 257 ≤ f + h → fz 59 62 m0 m → rQ st m → oB st → qB st → (∀ j, j < st.2.2 → st.2.1 j < 256) → (∀ m', fz 59 62 m0 m' → m'.1 61 = m.1 61 → rQ (spr Ts w o f h st) m' → P m') → mm_wp (d + 2) sn kX5_spread 12 [some (.ref 59), some (.ref 2), none, some (.int (nI o)), some (.int (nI st.2.2)), some (.int (nI h)), none, none] [] m (qV P)
  | 0, h, st, m, h1, h2, _, _, _, hq, _, _ => by
    have h3 : st.2.2 + cN _ 256 ≤ 256 := hq
    omega
  | f + 1, h, st, m, h1, h2, hz, hQ, hB, hq, hv, hP => by
    have h3 : st.2.2 ≤ 256 := by
      have h3 : st.2.2 + cN _ 256 ≤ 256 := hq
      omega
    refine v_X5_spread_12 ?_
    simp (disch := omega) only [e_le, e_lt, e_eq, e_lt0, e_0le, e_le0, e_0lt, e_eq0, e_m1, e_m5, e_m1l, e_m5l, e_m1e, e_add, e_dec, e_sub, e_mul, e_div, e_rem, e_and, e_or, e_shl, e_shr, e_vin, e_nar, e_nar0, e_nar1, e_cl, e_b0, e_b00, e_b1, e_bt, e_andn, e_xor, Bool.not_eq_false, Bool.not_eq_true, Classical.not_not, not_false_eq_true, not_true_eq_false, true_implies, false_implies, true_and, and_true]
    unfold spr at hP
    refine ⟨fun c => ?_, fun c => ⟨fun c2 => by omega, fun _ => ?_⟩⟩
    · rw [if_neg (by omega)] at hP
      exact hP m hz rfl hQ
    · have hlt : h < st.2.2 := by omega
      rw [if_pos hlt] at hP
      refine lp_up (W := fun i => ∀ m1, fz 59 62 m0 m1 → m1.1 61 = m.1 61 → rQ (entW Ts o (st.2.1 h) i st) m1 → mm_wp (d + 2) sn kX5_spread 32 [some (.ref 59), some (.ref 2), none, some (.int (nI o)), some (.int (nI (entW Ts o (st.2.1 h) i st).2.2)), some (.int (nI h)), some (.int (nI i)), none] [] m1 (qV P)) (Nat.zero_le w) ?_ ?_ m hz rfl hQ
      · intro m1 hz1 h61 hQ1
        refine v_X5_spread_32 ?_
        have hS1 := fz_rS h4 hz1 (by omega) hS
        rw [hS1.2.1]
        refine e_vT (by rw [e_le (by omega) (by omega)]; omega) ?_
        rw [e_add]
        have hmv : ∀ i, i < w → mv (Ts i) (st.2.1 h) < 256 := fun i hi => mv_lt (by subst hTs; exact hT8 i hi)
        refine s_spr (m0 := m0) hS h4 hw hTs ho hT8 f (h + 1) (entW Ts o (st.2.1 h) w st) m1 ?_ (by omega) hz1 hQ1 (entW_oB ho hB w) (entW_qB hq w hmv) ?_ ?_
        · have := entW_len (Ts := Ts) (o := o) (x := st.2.1 h) (st := st) w
          omega
        · exact entW_qv hv w hmv
        · intro m' g1 g2 g3
          exact hP m' g1 (g2.trans h61) g3
      · intro i _ hi ih m1 hz1 h61 hQ1
        refine v_X5_spread_32 ?_
        have hS1 := fz_rS h4 hz1 (by omega) hS
        rw [hS1.2.1]
        refine e_vF (by rw [e_le (by omega) (by omega)]; omega) ?_
        refine s_wayAt shS_2 hS1.2.1 h4.1 (fun j hj ej => ?_) (fun e => iz_f (show i < sW S by omega) (by omega) e)
        have ej := e_in (by omega) (by omega) ej
        subst ej
        have hle := entW_len (Ts := Ts) (o := o) (x := st.2.1 h) (st := st) i
        refine v_so ⟨shS_y shS_2 (by omega), ?_⟩
        rw [e_vin (by omega) (by omega), e_cl (by omega)]
        refine ⟨by omega, ?_⟩
        have e6 : m1.1 62 h = nI (st.2.1 h) := by
          rw [hQ1.2 h (by omega), entW_q hlt]
        rw [e6]
        have h8 := hT8 i hi
        refine s_setFor (shS_y shS_2 (by omega)) (hS1.2.2.2.2.1 i (by omega)) h8 (by have := hv h hlt; omega) ?_
        have hmv : ∀ i, i < w → mv (Ts i) (st.2.1 h) < 256 := fun i hi => mv_lt (by subst hTs; exact hT8 i hi)
        have e7 : mv (sT S i) (st.2.1 h) = mv (Ts i) (st.2.1 h) := by rw [hTs]
        rw [e7]
        refine s_enter hQ1 (entW_oB ho hB i) (hmv i hi) (ent_qB (hmv i hi) (entW_qB hq i (fun k hk => hmv k (by omega)))) ?_
        intro m2 hz2 h612 _ hQ2
        rw [e_add]
        exact ih m2 (hz1.trans hz2) (h612.trans h61) hQ2
theorem s_spread {d sn o s : Nat} {S : St} {num : Nat → Option Nat} {P : mm_Mem → Prop} {m : mm_Mem} (hS : rS 2 S m) (h4 : sW S ≤ 4 ∧ sC S ≤ 4) (ho : o < 257) (hT8 : ∀ i, i < sW S → ∀ p, p < 8 → sT S i p < 8) (hN : ∀ s, s < 256 → m.1 60 s = oI (num s)) (hB : ∀ s o, num s = some o → o < 257) (hs : s < 256) (hP : ∀ m', fz 59 62 m m' → m'.1 61 = m.1 61 → (∀ x, x < 256 → m'.1 60 x = oI ((spr (sT S) (sW S) o 257 0 (ent o (num, fun _ => 0, 0) s)).1 x)) → P m') : mm_sp (d + 3) sn kX5_spread [.ref 59, .ref 2, .int (nI s), .int (nI o)] m (qV P) := by
  refine v_X5_spread ?_
  have hQ0 : rQ (num, fun _ => 0, 0) m := ⟨hN, fun j hj => absurd hj (Nat.not_lt_zero j)⟩
  refine s_enter (st := (num, fun _ => 0, 0)) hQ0 hB hs (ent_qB hs qB_0) ?_
  intro m1 hz h61 _ hQ1
  refine s_spr hS h4 rfl rfl ho hT8 257 0 (ent o (num, fun _ => 0, 0) s) m1 (Nat.zero_le _) (by omega) hz hQ1 (ent_oB ho hB) (ent_qB hs qB_0) ?_ ?_
  · exact ent_qv hs (fun j hj => absurd hj (Nat.not_lt_zero j))
  · intro m' g1 g2 g3
    exact hP m' g1 (g2.trans h61) g3.1
theorem s_fillI {d sn a N : Nat} {x : Int32} {m : mm_Mem} {P : mm_Mem → Prop} (ha : shI N a) (hN : N < 100000) (h : ∀ m', fr [a] m m' → (∀ k, k < N → m'.1 a k = x) → P m') : mm_sp (d + 1) sn kJ7_fill_53178 [.ref a, .int x] m (qV P) := by
  refine v_J7_fill_53178 ha ?_
  refine lp_up (W := fun i => ∀ m1, fr [a] m m1 → (∀ k, k < i → m1.1 a k = x) → mm_wp d sn kJ7_fill_53178 5 [some (.ref a), some (.int x), some (.int (nI i)), some (.int (nI N))] [] m1 (qV P)) (Nat.zero_le N) ?_ ?_ m fr.refl (fun k hk => absurd hk (Nat.not_lt_zero k))
  · intro m1 h1 h2
    refine v_J7_fill_53178_5 ha ?_
    simp (disch := omega) only [e_le, e_lt, e_eq, e_lt0, e_0le, e_le0, e_0lt, e_eq0, e_m1, e_m5, e_m1l, e_m5l, e_m1e, e_add, e_dec, e_sub, e_mul, e_div, e_rem, e_and, e_or, e_shl, e_shr, e_vin, e_nar, e_nar0, e_nar1, e_cl, e_b0, e_b00, e_b1, e_bt, e_andn, e_xor, Bool.not_eq_false, Bool.not_eq_true, Classical.not_not, not_false_eq_true, not_true_eq_false, true_implies, false_implies, true_and, and_true]
    exact ⟨fun _ => h m1 h1 h2, fun c => by omega⟩
  · intro i _ hi ih m1 h1 h2
    refine v_J7_fill_53178_5 ha ?_
    simp (disch := omega) only [e_le, e_lt, e_eq, e_lt0, e_0le, e_le0, e_0lt, e_eq0, e_m1, e_m5, e_m1l, e_m5l, e_m1e, e_add, e_dec, e_sub, e_mul, e_div, e_rem, e_and, e_or, e_shl, e_shr, e_vin, e_nar, e_nar0, e_nar1, e_cl, e_b0, e_b00, e_b1, e_bt, e_andn, e_xor, Bool.not_eq_false, Bool.not_eq_true, Classical.not_not, not_false_eq_true, not_true_eq_false, true_implies, false_implies, true_and, and_true]
    refine ⟨fun c => by omega, fun _ => ⟨hi, fun m2 e => ?_⟩⟩
    subst e
    refine ih _ (h1.trans (fr_u2 (by simp))) (fun k hk => ?_)
    by_cases e : k = i
    · subst e; exact u2_s
    · exact (u2_j e).trans (h2 k (by omega))
theorem s_fillL {d sn a N : Nat} {x : Int64} {m : mm_Mem} {P : mm_Mem → Prop} (ha : shJ N a) (hN : N < 100000) (h : ∀ m', fr [a] m m' → m'.1 = m.1 → (∀ k, k < N → m'.2 a k = x) → P m') : mm_sp (d + 1) sn kJ7_fill_d0a16 [.ref a, .long x] m (qV P) := by
  refine v_J7_fill_d0a16 ha ?_
  refine lp_up (W := fun i => ∀ m1, fr [a] m m1 → m1.1 = m.1 → (∀ k, k < i → m1.2 a k = x) → mm_wp d sn kJ7_fill_d0a16 6 [some (.ref a), some (.long x), none, some (.int (nI i)), some (.int (nI N))] [] m1 (qV P)) (Nat.zero_le N) ?_ ?_ m fr.refl rfl (fun k hk => absurd hk (Nat.not_lt_zero k))
  · intro m1 h1 h3 h2
    refine v_J7_fill_d0a16_6 ha ?_
    simp (disch := omega) only [e_le, e_lt, e_eq, e_lt0, e_0le, e_le0, e_0lt, e_eq0, e_m1, e_m5, e_m1l, e_m5l, e_m1e, e_add, e_dec, e_sub, e_mul, e_div, e_rem, e_and, e_or, e_shl, e_shr, e_vin, e_nar, e_nar0, e_nar1, e_cl, e_b0, e_b00, e_b1, e_bt, e_andn, e_xor, Bool.not_eq_false, Bool.not_eq_true, Classical.not_not, not_false_eq_true, not_true_eq_false, true_implies, false_implies, true_and, and_true]
    exact ⟨fun _ => h m1 h1 h3 h2, fun c => by omega⟩
  · intro i _ hi ih m1 h1 h3 h2
    refine v_J7_fill_d0a16_6 ha ?_
    simp (disch := omega) only [e_le, e_lt, e_eq, e_lt0, e_0le, e_le0, e_0lt, e_eq0, e_m1, e_m5, e_m1l, e_m5l, e_m1e, e_add, e_dec, e_sub, e_mul, e_div, e_rem, e_and, e_or, e_shl, e_shr, e_vin, e_nar, e_nar0, e_nar1, e_cl, e_b0, e_b00, e_b1, e_bt, e_andn, e_xor, Bool.not_eq_false, Bool.not_eq_true, Classical.not_not, not_false_eq_true, not_true_eq_false, true_implies, false_implies, true_and, and_true]
    refine ⟨fun c => by omega, fun _ => ⟨hi, fun m2 e => ?_⟩⟩
    subst e
    refine ih _ (h1.trans (fr_u2l (by simp))) h3 (fun k hk => ?_)
    by_cases e : k = i
    · subst e; exact u2_s
    · exact (u2_j e).trans (h2 k (by omega))
theorem shI_60 : shI 256 60 := ⟨by decide, fun _ => rfl⟩
theorem shI_61 : shI 9 61 := ⟨by decide, fun _ => rfl⟩
theorem fr.z1 {a lo hi : Nat} {m m' : mm_Mem} (h : fr [a] m m') (h1 : lo ≤ a) (h2 : a ≤ hi) : fz lo hi m m' := fun x hx => h x (by simp; omega)
theorem okS_T {S : St} (h : okS S) : ∀ i, i < sW S → okT (sN S) (sT S i) := fun i hi => ⟨(h.2.2.2.1 i hi).2.2.1, (h.2.2.2.1 i hi).2.2.2.1⟩
theorem okS_8 {S : St} (h : okS S) : ∀ i, i < sW S → ∀ p, p < 8 → sT S i p < 8 := fun i hi => okY_8 (h.2.2.2.1 i hi) h.1.2
def fndS (S : St) : (Nat → Option Nat) × (Nat → Nat) := fndN (sT S) (sW S) (2 ^ sN S)
theorem oF_o {n s : Nat} {a : (Nat → Option Nat) × (Nat → Nat)} (h : oF n s a) (hs : s ≤ 256) : (∀ x o, a.1 x = some o → o < 256) ∧ ∀ k, a.2 k < 257 := by
  have g : ∀ k, a.2 k ≤ 256 := fun k => Nat.le_trans (h.2.2.2 k) (Nat.le_trans (cN_le _ _) hs)
  refine ⟨fun x o e => ?_, fun k => by have := g k; omega⟩
  have := (h.1 x o e).2
  have := g (bc x)
  omega
theorem s_find {d sn : Nat} {S : St} {m : mm_Mem} {P : mm_Mem → Prop} (hS : rS 2 S m) (hok : okS S) (hP : ∀ m', fz 59 62 m m' → rO (fndS S).1 (fndS S).2 m' → P m') : mm_sp (d + 4) sn kX5_find [.ref 59, .ref 2] m (qV P) := by
  have h4 := hok.2.1
  have h8 := hok.1.2
  have hp8 := p2_le h8
  refine v_X5_find ?_
  refine s_fillI shI_60 (by omega) ?_
  intro m1 hf1 h60
  refine s_fillI shI_61 (by omega) ?_
  intro m2 hf2 h61
  refine lp_up (W := fun s => ∀ m3, fz 59 62 m m3 → rO (fndN (sT S) (sW S) s).1 (fndN (sT S) (sW S) s).2 m3 → mm_wp (d + 3) sn kX5_find 18 [some (.ref 59), some (.ref 2), some (.int (nI s)), none] [] m3 (qV P)) (Nat.zero_le (2 ^ sN S)) ?_ ?_ m2 ((hf1.z1 (by omega) (by omega)).trans (hf2.z1 (by omega) (by omega))) ⟨fun s hs => ?_, h61⟩
  · intro m3 hz hO
    refine v_X5_find_18 ?_
    simp (disch := omega) only [e_le, e_lt, e_eq, e_lt0, e_0le, e_le0, e_0lt, e_eq0, e_m1, e_m5, e_m1l, e_m5l, e_m1e, e_add, e_dec, e_sub, e_mul, e_div, e_rem, e_and, e_or, e_shl, e_shr, e_vin, e_nar, e_nar0, e_nar1, e_cl, e_b0, e_b00, e_b1, e_bt, e_andn, e_xor, Bool.not_eq_false, Bool.not_eq_true, Classical.not_not, not_false_eq_true, not_true_eq_false, true_implies, false_implies, true_and, and_true]
    refine ⟨fun _ => hP m3 hz hO, fun c => ?_⟩
    refine s_whole shS_2 (fz_rS h4 hz (by omega) hS).1 h8 ?_
    simp (disch := omega) only [e_le, e_lt, e_eq, e_lt0, e_0le, e_le0, e_0lt, e_eq0, e_m1, e_m5, e_m1l, e_m5l, e_m1e, e_add, e_dec, e_sub, e_mul, e_div, e_rem, e_and, e_or, e_shl, e_shr, e_vin, e_nar, e_nar0, e_nar1, e_cl, e_b0, e_b00, e_b1, e_bt, e_andn, e_xor, Bool.not_eq_false, Bool.not_eq_true, Classical.not_not, not_false_eq_true, not_true_eq_false, true_implies, false_implies, true_and, and_true]
    have := Nat.two_pow_pos (sN S)
    exact ⟨fun _ => hP m3 hz hO, fun c => by omega⟩
  · intro s _ hs ih m3 hz hO
    refine v_X5_find_18 ?_
    have hS3 := fz_rS h4 hz (by omega) hS
    simp (disch := omega) only [e_le, e_lt, e_eq, e_lt0, e_0le, e_le0, e_0lt, e_eq0, e_m1, e_m5, e_m1l, e_m5l, e_m1e, e_add, e_dec, e_sub, e_mul, e_div, e_rem, e_and, e_or, e_shl, e_shr, e_vin, e_nar, e_nar0, e_nar1, e_cl, e_b0, e_b00, e_b1, e_bt, e_andn, e_xor, Bool.not_eq_false, Bool.not_eq_true, Classical.not_not, not_false_eq_true, not_true_eq_false, true_implies, false_implies, true_and, and_true]
    refine ⟨fun c => by omega, fun c => ?_⟩
    refine s_whole shS_2 hS3.1 h8 ?_
    simp (disch := omega) only [e_le, e_lt, e_eq, e_lt0, e_0le, e_le0, e_0lt, e_eq0, e_m1, e_m5, e_m1l, e_m5l, e_m1e, e_add, e_dec, e_sub, e_mul, e_div, e_rem, e_and, e_or, e_shl, e_shr, e_vin, e_nar, e_nar0, e_nar1, e_cl, e_b0, e_b00, e_b1, e_bt, e_andn, e_xor, Bool.not_eq_false, Bool.not_eq_true, Classical.not_not, not_false_eq_true, not_true_eq_false, true_implies, false_implies, true_and, and_true]
    refine ⟨fun c => by omega, fun c => ?_⟩
    refine s_bitCount (by omega) ?_
    have hF := fndN_ok h8 (okS_T hok) s (by omega)
    obtain ⟨hFo, hFk⟩ := oF_o hF (by omega)
    have hk := bc_lt (by omega) hs
    have hb := hO.1 s (by omega)
    have hb2 := e_oIm1 (x := (fndN (sT S) (sW S) s).1 s) (fun o e => by have := hFo s o e; omega)
    have hb3 := hO.2 (bc s) (by omega)
    have e9 : fndN (sT S) (sW S) (s + 1) = fnd1 (sT S) (sW S) s (fndN (sT S) (sW S) s) := rfl
    rw [e9] at ih
    unfold fnd1 at ih
    simp (disch := omega) only [e_le, e_lt, e_eq, e_lt0, e_0le, e_le0, e_0lt, e_eq0, e_m1, e_m5, e_m1l, e_m5l, e_m1e, e_add, e_dec, e_sub, e_mul, e_div, e_rem, e_and, e_or, e_shl, e_shr, e_vin, e_nar, e_nar0, e_nar1, e_cl, e_b0, e_b00, e_b1, e_bt, e_andn, e_xor, Bool.not_eq_false, Bool.not_eq_true, Classical.not_not, not_false_eq_true, not_true_eq_false, true_implies, false_implies, true_and, and_true, hb, hb2, hb3]
    refine ⟨by omega, fun e => ?_, fun e => ⟨fun c => by omega, fun _ => ⟨by omega, ?_⟩⟩⟩
    · rw [if_neg e] at ih
      exact ih m3 hz hO
    · rw [if_pos e] at ih
      refine s_spread (num := (fndN (sT S) (sW S) s).1) hS3 h4 (hFk _) (okS_8 hok) hO.1 (fun x o e => by have := hFo x o e; omega) (by omega) ?_
      intro m4 hz4 h614 hN4
      refine ⟨by omega, by omega, fun m5 e5 => ?_⟩
      refine ih m5 (hz.trans (hz4.trans (by subst e5; exact fz_u2 (by omega) (by omega)))) ⟨fun x hx => ?_, fun k hk9 => ?_⟩
      · subst e5
        show mm_u2 m4.1 61 (bc s) (m4.1 61 (bc s) + nI 1) 60 x = _
        rw [u2_rj (by omega)]
        exact hN4 x hx
      · subst e5
        show mm_u2 m4.1 61 (bc s) (m4.1 61 (bc s) + nI 1) 61 k = nI (ud (fndN (sT S) (sW S) s).2 (bc s) ((fndN (sT S) (sW S) s).2 (bc s) + 1) k)
        by_cases e6 : k = bc s
        · subst e6
          rw [u2_s, ud_s, h614, hb3, e_add]
        · rw [u2_j e6, ud_n e6, h614]
          exact hO.2 k hk9
  · rw [hf2.i (by simp)]
    exact h60 s hs
