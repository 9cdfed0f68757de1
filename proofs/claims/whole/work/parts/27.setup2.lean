-- SETUPS: copied; a way dropped
theorem v_so {x : Nat} {A : Prop} {B : Nat → Prop} (h : B x) : (some x = none → A) ∧ (∀ a, some x = some a → B a) := ⟨fun e => (by cases e), fun a e => (by cases e; exact h)⟩
theorem v_no {A : Prop} {B : Nat → Prop} (h : A) : ((none : Option Nat) = none → A) ∧ (∀ a, (none : Option Nat) = some a → B a) := ⟨fun _ => h, fun a e => (by cases e)⟩
theorem iz_f {i n : Nat} (hi : i < n) (hn : n < 2147483648) {A : Prop} (h : iz (nI i) n = false) : A := by
  rw [iz_n (by omega) hn, decide_eq_false_iff_not] at h
  exact absurd hi h
theorem e_in {a b : Nat} (ha : a < 2147483648) (hb : b < 2147483648) (h : nI a = nI b) : a = b := by
  rw [e_eq ha hb] at h
  exact h
theorem s_scopy {d sn b c : Nat} {S : St} {m : mm_Mem} {P : mm_Mem → Prop} (hb : shS b) (hc : shS c) (hne : b + 20 < c ∨ c + 20 < b) (hS : rS c S m) (h4 : sW S ≤ 4 ∧ sC S ≤ 4) (h : ∀ m', fz b (b + 20) m m' → rS b S m' → P m') : mm_sp (d + 4) sn kX6_copyFrom [.ref b, .ref c] m (qV P) := by
  refine v_X6_copyFrom hb hc ?_
  intro m1 e1
  have hz1 : fz b (b + 20) m m1 := by subst e1; exact fz_u2 (by omega) (by omega)
  have hS1 := fz_rS h4 hz1 (by omega) hS
  refine s_copyFrom (shS_b hb) (shS_b hc) (by omega) hS1.2.2.2.1 ?_
  intro m2 hf2 hB2 m3 e3
  have hz2 := hz1.trans (hf2.z2 (lo := b) (hi := b + 20) (by omega) (by omega))
  have hz3 : fz b (b + 20) m2 m3 := by subst e3; exact fz_u2 (by omega) (by omega)
  have h30 : m3.1 b 0 = nI (sN S) := by
    subst e3
    refine (u2_j (by omega)).trans ?_
    rw [hf2.i (by simp; omega)]
    subst e1
    exact u2_s.trans hS.1
  have h31 : m3.1 b 1 = nI (sW S) := by
    subst e3
    refine u2_s.trans ?_
    exact (fz_rS h4 hz2 (by omega) hS).2.1
  have hB3 : rB (b + 1) (sK S) (sB S) m3 := by
    subst e3
    exact fr_rB (fr_u2 (X := [b]) (by simp)) (by simp) (by simp; omega) hB2
  refine lp_up (W := fun i => ∀ m4, fz b (b + 20) m m4 → m4.1 b 0 = nI (sN S) → m4.1 b 1 = nI (sW S) → rB (b + 1) (sK S) (sB S) m4 → (∀ j, j < i → rY (b + 4 + 2 * j) (sKd S j) (sFg S j) (sT S j) m4) → mm_wp (d + 3) sn kX6_copyFrom 29 [some (.ref b), some (.ref c), some (.int (nI i)), none, none] [] m4 (qV P)) (Nat.zero_le (sW S)) ?_ ?_ m3 (hz2.trans hz3) h30 h31 hB3 (fun j hj => by omega)
  · intro m4 hz h0 h1 hB hY
    refine v_X6_copyFrom_29 hb hc ?_
    rw [h1]
    refine e_vT (by rw [e_le (by omega) (by omega)]; omega) (fun m5 e5 => ?_)
    have hz5 : fz b (b + 20) m4 m5 := by subst e5; exact fz_u2 (by omega) (by omega)
    have hf5 : fr [b] m4 m5 := by subst e5; exact fr_u2 (by simp)
    have h52 : m5.1 b 2 = nI (sC S) := by
      subst e5
      exact u2_s.trans (fz_rS h4 hz (by omega) hS).2.2.1
    have h50 : m5.1 b 0 = nI (sN S) := by subst e5; exact (u2_j (by omega)).trans h0
    have h51 : m5.1 b 1 = nI (sW S) := by subst e5; exact (u2_j (by omega)).trans h1
    refine lp_up (W := fun i => ∀ m6, fz b (b + 20) m m6 → m6.1 b 0 = nI (sN S) → m6.1 b 1 = nI (sW S) → m6.1 b 2 = nI (sC S) → rB (b + 1) (sK S) (sB S) m6 → (∀ j, j < sW S → rY (b + 4 + 2 * j) (sKd S j) (sFg S j) (sT S j) m6) → (∀ j, j < i → rB (b + 13 + 2 * j) (sDk S j) (sD S j) m6) → mm_wp (d + 3) sn kX6_copyFrom 81 [some (.ref b), some (.ref c), some (.int (nI i)), none, none] [] m6 (qV P)) (Nat.zero_le (sC S)) ?_ ?_ m5 (hz.trans hz5) h50 h51 h52 (fr_rB hf5 (by simp) (by simp; omega) hB) (fun j hj => fr_rY hf5 (by simp; omega) (by simp; omega) (hY j hj)) (fun j hj => by omega)
    · intro m6 hz6 h60 h61 h62 hB6 hY6 hD6
      refine v_X6_copyFrom_81 hb hc ?_
      rw [h62]
      exact e_vT (by rw [e_le (by omega) (by omega)]; omega) (h m6 hz6 ⟨h60, h61, h62, hB6, hY6, hD6⟩)
    · intro i _ hi ih m6 hz6 h60 h61 h62 hB6 hY6 hD6
      refine v_X6_copyFrom_81 hb hc ?_
      rw [h62]
      refine e_vF (by rw [e_le (by omega) (by omega)]; omega) ?_
      have hS6 := fz_rS h4 hz6 (by omega) hS
      refine s_designAt hb h62 h4.2 (fun j hj ej => ?_) (fun e => iz_f hi (by omega) e)
      have ej := e_in (by omega) (by omega) ej
      subst ej
      refine v_so ⟨shS_d hb (by omega), ?_⟩
      refine s_designAt hc hS6.2.2.1 h4.2 (fun j hj ej => ?_) (fun e => iz_f hi (by omega) e)
      have ej := e_in (by omega) (by omega) ej
      subst ej
      refine v_so ⟨shS_d hc (by omega), ?_⟩
      refine s_copyFrom (shS_d hb (by omega)) (shS_d hc (by omega)) (by omega) (hS6.2.2.2.2.2 i hi) ?_
      intro m7 hf7 hB7
      rw [e_add]
      refine ih m7 (hz6.trans (hf7.z2 (by omega) (by omega))) ?_ ?_ ?_ (fr_rB hf7 (by simp; omega) (by simp; omega) hB6) (fun j hj => fr_rY hf7 (by simp; omega) (by simp; omega) (hY6 j hj)) (fun j hj => ?_)
      · rw [hf7.i (by simp; omega)]; exact h60
      · rw [hf7.i (by simp; omega)]; exact h61
      · rw [hf7.i (by simp; omega)]; exact h62
      · by_cases e : j = i
        · subst e; exact hB7
        · exact fr_rB hf7 (by simp; omega) (by simp; omega) (hD6 j (by omega))
  · intro i _ hi ih m4 hz h0 h1 hB hY
    refine v_X6_copyFrom_29 hb hc ?_
    rw [h1]
    refine e_vF (by rw [e_le (by omega) (by omega)]; omega) ?_
    have hS6 := fz_rS h4 hz (by omega) hS
    refine s_wayAt hb h1 h4.1 (fun j hj ej => ?_) (fun e => iz_f hi (by omega) e)
    have ej := e_in (by omega) (by omega) ej
    subst ej
    refine v_so ⟨shS_y hb (by omega), ?_⟩
    refine s_wayAt hc hS6.2.1 h4.1 (fun j hj ej => ?_) (fun e => iz_f hi (by omega) e)
    have ej := e_in (by omega) (by omega) ej
    subst ej
    refine v_so ⟨shS_y hc (by omega), ?_⟩
    refine s_ycopy (shS_y hb (by omega)) (shS_y hc (by omega)) (by omega) (hS6.2.2.2.2.1 i hi) ?_
    intro m7 hf7 hB7
    rw [e_add]
    refine ih m7 (hz.trans (hf7.z2 (by omega) (by omega))) ?_ ?_ (fr_rB hf7 (by simp; omega) (by simp; omega) hB) (fun j hj => ?_)
    · rw [hf7.i (by simp; omega)]; exact h0
    · rw [hf7.i (by simp; omega)]; exact h1
    · by_cases e : j = i
      · subst e; exact hB7
      · exact fr_rY hf7 (by simp; omega) (by simp; omega) (hY j (by omega))
def dr {α : Type} (w : Nat) (f : Nat → α) : Nat → α := fun i => if i < w then f i else f (i + 1)
def stDrop (w : Nat) (S : St) : St := ((sN S, sW S - 1, sC S, sK S, sB S), (dr w (sKd S), dr w (sFg S), dr w (sT S)), S.2.2)
theorem s_removeWay {d sn b w : Nat} {S : St} {m : mm_Mem} {P : mm_Mem → Prop} (hb : shS b) (hS : rS b S m) (h4 : sW S ≤ 4 ∧ sC S ≤ 4) (hw : w < sW S) (h : ∀ m', fz b (b + 20) m m' → rS b (stDrop w S) m' → P m') : mm_sp (d + 3) sn kX6_removeWay [.ref b, .int (nI w)] m (qV P) := by
  refine v_X6_removeWay hb ?_
  obtain ⟨g0, g1, g2, gB, gY, gD⟩ := hS
  refine lp_up (W := fun i => ∀ m4, fz b (b + 20) m m4 → m4.1 b 0 = nI (sN S) → m4.1 b 1 = nI (sW S) → m4.1 b 2 = nI (sC S) → rB (b + 1) (sK S) (sB S) m4 → (∀ j, j < sW S → rY (b + 4 + 2 * j) (if j < i then dr w (sKd S) j else sKd S j) (if j < i then dr w (sFg S) j else sFg S j) (if j < i then dr w (sT S) j else sT S j) m4) → (∀ j, j < sC S → rB (b + 13 + 2 * j) (sDk S j) (sD S j) m4) → mm_wp (d + 2) sn kX6_removeWay 2 [some (.ref b), none, some (.int (nI i)), none, none] [] m4 (qV P)) (show w ≤ sW S - 1 by omega) ?_ ?_ m fz.refl g0 g1 g2 gB (fun j hj => ?_) gD
  · intro m4 hz h0 h1 h2 hB hY hD
    refine v_X6_removeWay_2 hb ?_
    rw [h1, e_sub (by omega)]
    refine e_vT (by rw [e_le (by omega) (by omega)]; omega) (fun m5 e5 => ?_)
    have hz5 : fz b (b + 20) m4 m5 := by subst e5; exact fz_u2 (by omega) (by omega)
    have hf5 : fr [b] m4 m5 := by subst e5; exact fr_u2 (by simp)
    refine h m5 (hz.trans hz5) ⟨?_, ?_, ?_, fr_rB hf5 (by simp) (by simp; omega) hB, fun j hj => ?_, fun j hj => fr_rB hf5 (by simp; omega) (by simp; omega) (hD j hj)⟩
    · subst e5; exact (u2_j (by omega)).trans h0
    · subst e5; exact u2_s
    · subst e5; exact (u2_j (by omega)).trans h2
    · have hj : j < sW S - 1 := hj
      have := hY j (by omega)
      rw [if_pos hj, if_pos hj, if_pos hj] at this
      exact fr_rY hf5 (by simp; omega) (by simp; omega) this
  · intro i hwi hi ih m4 hz h0 h1 h2 hB hY hD
    refine v_X6_removeWay_2 hb ?_
    rw [h1, e_sub (by omega)]
    refine e_vF (by rw [e_le (by omega) (by omega)]; omega) ?_
    refine s_wayAt hb h1 h4.1 (fun j hj ej => ?_) (fun e => iz_f (show i < sW S by omega) (by omega) e)
    have ej := e_in (by omega) (by omega) ej
    subst ej
    refine v_so ⟨shS_y hb (by omega), ?_⟩
    rw [e_add]
    refine s_wayAt hb h1 h4.1 (fun j hj ej => ?_) (fun e => iz_f (show i + 1 < sW S by omega) (by omega) e)
    have ej := e_in (by omega) (by omega) ej
    subst ej
    refine v_so ⟨shS_y hb (by omega), ?_⟩
    have hY1 := hY (i + 1) (by omega)
    rw [if_neg (by omega), if_neg (by omega), if_neg (by omega)] at hY1
    refine s_ycopy (shS_y hb (by omega)) (shS_y hb (by omega)) (by omega) hY1 ?_
    intro m7 hf7 hB7
    refine ih m7 (hz.trans (hf7.z2 (by omega) (by omega))) ?_ ?_ ?_ (fr_rB hf7 (by simp; omega) (by simp; omega) hB) (fun j hj => ?_) (fun j hj => fr_rB hf7 (by simp; omega) (by simp; omega) (hD j hj))
    · rw [hf7.i (by simp; omega)]; exact h0
    · rw [hf7.i (by simp; omega)]; exact h1
    · rw [hf7.i (by simp; omega)]; exact h2
    · by_cases e : j = i
      · subst e
        rw [if_pos (by omega), if_pos (by omega), if_pos (by omega)]
        unfold dr
        rw [if_neg (by omega), if_neg (by omega), if_neg (by omega)]
        exact hB7
      · have := fr_rY hf7 (by simp; omega) (by simp; omega) (hY j hj)
        by_cases e2 : j < i
        · rw [if_pos e2, if_pos e2, if_pos e2] at this
          rw [if_pos (by omega), if_pos (by omega), if_pos (by omega)]
          exact this
        · rw [if_neg e2, if_neg e2, if_neg e2] at this
          rw [if_neg (by omega), if_neg (by omega), if_neg (by omega)]
          exact this
  · have := gY j hj
    by_cases e : j < w
    · rw [if_pos e, if_pos e, if_pos e]
      unfold dr
      rw [if_pos e, if_pos e, if_pos e]
      exact this
    · rw [if_neg e, if_neg e, if_neg e]
      exact this
