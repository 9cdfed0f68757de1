-- THE MODEL: hand, drop
def snN (D : Nat) : Nat → Nat
  | 0 => 0
  | i + 1 => snN D i ||| 1 <<< (dg D i - 1)
theorem snN_b {D t : Nat} : ∀ {i : Nat}, (snN D i).testBit t = true ↔ ∃ j, j < i ∧ dg D j - 1 = t
  | 0 => ⟨fun h => (by rw [show snN D 0 = 0 from rfl, Nat.zero_testBit] at h; cases h), fun ⟨j, h, _⟩ => by omega⟩
  | i + 1 => by
    show (snN D i ||| 1 <<< (dg D i - 1)).testBit t = true ↔ _
    rw [Nat.testBit_or, Bool.or_eq_true, snN_b, tb_shl, decide_eq_true_iff]
    constructor
    · rintro (⟨j, h1, h2⟩ | h)
      · exact ⟨j, by omega, h2⟩
      · exact ⟨i, by omega, h⟩
    · rintro ⟨j, h1, h2⟩
      by_cases e : j = i
      · subst e; exact Or.inr h2
      · exact Or.inl ⟨j, by omega, h2⟩
theorem snN_lt {D : Nat} : ∀ {i : Nat}, (∀ j, j < i → dg D j ≤ 8) → snN D i < 2 ^ 8
  | 0, _ => Nat.two_pow_pos 8
  | i + 1, h => by
    have := h i (by omega)
    exact Nat.or_lt_two_pow (snN_lt (fun j hj => h j (by omega))) (shl_lt (by omega))
theorem e_m1s {a : Nat} : nI a + (-1) = nI a - nI 1 := by
  rw [Int32.sub_eq_add_neg]; rfl
theorem m_hand {d sn : Nat} {X : GS} {v : Int32} {m : mm_Mem} {P : Int32 → mm_Mem → Prop} (hX : okX X) (hI : mI X m) (h : ∀ m', fz 83 211 m m' → mI (setS X (S_hand X.1 v)) m' → P (A_hand X.1 v) m') : mm_sp (d + 3) sn kX11_hand [.ref 82, .int v] m (qI P) := by
  refine v_X11_hand ?_
  have hW := hX.1.2.1.1
  have hN := hX.1.1
  unfold A_hand S_hand at h
  have h0 := hI.1.1.1
  have h1 := hI.1.1.2.1
  rw [h0]
  by_cases hv : v < 0
  · have hc : v < 0 ∨ ¬ arr (sN X.1) v.toNatClampNeg := Or.inl hv
    rw [if_pos hc, if_pos hc] at h
    refine v_X11_hand_14 ?_
    rw [e_sub (by omega)]
    exact e_vF (by rw [e_lt0 (by omega)]; exact id) (e_vT hv (h m fz.refl hI))
  · obtain ⟨eD, hD⟩ := nn_of (Int32.not_lt.mp hv)
    generalize v.toNatClampNeg = D at *
    subst eD
    have bad : ¬ arr (sN X.1) D → ∀ m1, fr [97] m m1 → P (-2) m1 := by
      intro hA m1 hf
      have hc : nI D < 0 ∨ ¬ arr (sN X.1) D := Or.inr hA
      rw [if_pos hc, if_pos hc] at h
      exact h m1 (fun a ha => hf a (by simp; omega)) (mI_sc hX (fun a ha => hf a (by simp; omega)) hI)
    have W : ∀ p, p ≤ sN X.1 → ∀ m1, fr [97] m m1 → (∀ j, j < sN X.1 - p → 1 ≤ dg D j ∧ dg D j ≤ sN X.1) → (∀ i j, i < sN X.1 - p → j < sN X.1 - p → dg D i = dg D j → i = j) → (∀ q, p ≤ q → q < sN X.1 → m1.1 97 q = nI (dg D (sN X.1 - 1 - q) - 1)) → mm_wp (d + 2) sn kX11_hand 14 [some (.ref 82), none, some (.int (nI (D / 10 ^ (sN X.1 - p)))), some (.int (nI (snN D (sN X.1 - p)))), some (.int (nI p - nI 1)), none] [] m1 (qI P) := by
      intro p
      induction p with
      | zero =>
        intro _ m1 f1 g1 g2 g3
        have z0 : m1.1 83 0 = nI (sN X.1) := by rw [f1.i (by simp)]; exact h0
        have z1 : m1.1 83 1 = nI (sW X.1) := by rw [f1.i (by simp)]; exact h1
        have hdl : D / 10 ^ (sN X.1 - 0) ≤ D := Nat.div_le_self _ _
        refine v_X11_hand_14 (e_vT (by decide) ⟨fun c => ?_, fun c => ?_⟩)
        · rw [e_eq0 (by omega)] at c
          have hA : arr (sN X.1) D := ⟨fun i hi => g1 i (by omega), fun i j hi hj => g2 i j (by omega) (by omega), c⟩
          have hc : ¬ (nI D < 0 ∨ ¬ arr (sN X.1) D) := by
            rintro (c | c)
            · rw [e_lt0 hD] at c; exact c
            · exact c hA
          rw [if_neg hc, if_neg hc] at h
          rw [z1, e_eq (by omega) (by omega), e_add, e_add, e_vin (by omega) (by omega), e_vin (by omega) (by omega), e_cl (by omega), e_cl (by omega)]
          refine ⟨fun c => ?_, fun c => ?_⟩
          · rw [if_neg c, if_neg c] at h
            have hw : sW X.1 < 4 := by omega
            refine ⟨by omega, fun m3 q3 => ⟨by omega, fun m4 q4 => ?_⟩⟩
            have q : ∀ x, m4.1 83 x = if x = 6 + sW X.1 then nI 0 else if x = 2 + sW X.1 then nI 5 else m1.1 83 x := by
              intro x
              subst q3; subst q4
              simp only [e_u2, true_and]
            have f4 : fr [83] m1 m4 := by
              subst q3; subst q4
              exact (fr_u2 (by simp)).trans (fr_u2 (m := (_, _)) (by simp))
            clear q3 q4
            refine lp_up (W := fun p => ∀ m5, fr [83] m1 m5 → (∀ q, q < p → m5.1 83 (10 + 8 * sW X.1 + q) = nI (hd (sN X.1) D q)) → (∀ x, (x < 10 + 8 * sW X.1 ∨ 10 + 8 * sW X.1 + p ≤ x) → m5.1 83 x = m4.1 83 x) → mm_wp (d + 2) sn kX11_hand 132 [some (.ref 82), none, none, none, some (.int (nI (sW X.1))), some (.int (nI p))] [] m5 (qI P)) (Nat.zero_le (sN X.1)) ?_ ?_ m4 f4 (fun q hq => by omega) (fun x _ => rfl)
            · intro m5 k0 k1 k2
              refine v_X11_hand_132 ?_
              have y0 : m5.1 83 0 = nI (sN X.1) := by rw [k2 0 (by omega), q, if_neg (by omega), if_neg (by omega)]; exact z0
              have y1 : m5.1 83 1 = nI (sW X.1) := by rw [k2 1 (by omega), q, if_neg (by omega), if_neg (by omega)]; exact z1
              rw [y0, y1]
              refine e_vT (by rw [e_le (by omega) (by omega)]; omega) (fun m6 q6 => ?_)
              have f6 : fr [83] m1 m6 := k0.trans (by subst q6; exact fr_u2 (by simp))
              have u : ∀ x, m6.1 83 x = if x = 1 then nI (sW X.1 + 1) else m5.1 83 x := by
                intro x
                subst q6
                simp only [e_u2, true_and, e_add]
              have f7 : fr [83, 97] m m6 := (f1.mono (by simp)).trans (f6.mono (by simp))
              refine h m6 (fun a ha => f7 a (by simp; omega)) (mI_S2 hX (fun a b1 b2 b3 => f7 a (by simp; omega)) hI (rMs_add ⟨hw, hX.1.2.1.2⟩ hI.1 (fun a b1 b2 => f7.i (by simp; omega)) ?_ ?_ ?_ (fun p hp => ?_) (fun x x1 x2 x3 x4 => ?_) hN.2))
              · rw [u, if_pos rfl]
              · rw [u, if_neg (by omega), k2 _ (by omega), q, if_neg (by omega), if_pos rfl]
              · rw [u, if_neg (by omega), k2 _ (by omega), q, if_pos rfl]
              · rw [u, if_neg (by omega), k1 p hp]
              · rw [u, if_neg x1, k2 x (by omega), q, if_neg x3, if_neg x2, f1.i (by simp)]
            · intro p _ hp ih m5 k0 k1 k2
              refine v_X11_hand_132 ?_
              have y0 : m5.1 83 0 = nI (sN X.1) := by rw [k2 0 (by omega), q, if_neg (by omega), if_neg (by omega)]; exact z0
              rw [y0]
              refine e_vF (by rw [e_le (by omega) (by omega)]; omega) ?_
              rw [e_mul, e_add, e_add, e_vin (by omega) (by omega), e_vin (by omega) (by omega), e_cl (by omega), e_cl (by omega), e_add]
              refine ⟨by omega, by omega, fun m6 q6 => ih m6 (k0.trans (by subst q6; exact fr_u2 (by simp))) (fun q hq => ?_) (fun x hx => ?_)⟩
              · subst q6
                simp only [e_u2, true_and]
                by_cases e5 : q = p
                · subst e5
                  rw [if_pos rfl, k0.i (by simp), g3 q (by omega) hp]
                  unfold hd dg
                  rw [if_pos hp]
                · rw [if_neg (by omega)]; exact k1 q (by omega)
              · subst q6
                simp only [e_u2, true_and]
                rw [if_neg (by omega)]
                exact k2 x (by omega)
          · rw [if_pos (Classical.not_not.mp c), if_pos (Classical.not_not.mp c)] at h
            exact h m1 (fun a ha => f1 a (by simp; omega)) (mI_sc hX (fun a ha => f1 a (by simp; omega)) hI)
        · rw [e_eq0 (by omega)] at c
          exact bad (fun hA => c hA.2.2) m1 f1
      | succ p ih =>
        intro hp m1 f1 g1 g2 g3
        have z0 : m1.1 83 0 = nI (sN X.1) := by rw [f1.i (by simp)]; exact h0
        have hdl : D / 10 ^ (sN X.1 - (p + 1)) ≤ D := Nat.div_le_self _ _
        have hi1 : sN X.1 - p = sN X.1 - (p + 1) + 1 := by omega
        generalize hi : sN X.1 - (p + 1) = i at *
        have hdg : D / 10 ^ i % 10 = dg D i := rfl
        have hdd : D / 10 ^ i / 10 = D / 10 ^ (i + 1) := by rw [Nat.div_div_eq_div_mul, Nat.pow_succ]
        have hd10 : dg D i < 10 := Nat.mod_lt _ (by decide)
        refine v_X11_hand_14 ?_
        rw [e_sub (by omega)]
        refine e_vF (by rw [e_lt0 (by omega)]; exact id) (e_vF (by rw [e_lt0 (by omega)]; exact id) ?_)
        rw [e_rem (by omega) (by omega) (by omega), hdg]
        refine m_isPoint z0 hN.2 (e_vz (fun e => ?_) (fun e => ?_))
        · refine bad (fun hA => ?_) m1 f1
          have := hA.1 i (by omega)
          rw [e_sub this.1, iz_n (by omega) (by omega), decide_eq_true (by omega)] at e
          cases e
        · have hd1 : 1 ≤ dg D i := by
            rcases Nat.eq_zero_or_pos (dg D i) with e5 | e5
            · rw [e5] at e
              rw [iz_no1 (by decide)] at e
              cases e
            · exact e5
          rw [e_sub hd1] at e ⊢
          rw [iz_n (by omega) (by omega)] at e
          have hdn := of_decide_eq_true e
          have hsl := snN_lt (D := D) (i := i) (fun j hj => by have := g1 j hj; omega)
          have hl : (snN D i >>> (dg D i - 1)) &&& 1 ≤ 1 := Nat.and_le_right
          rw [e_shr (by omega) (by omega), e_and, e_eq (by omega) (by omega), e_bit, snN_b, e_vin (by omega) (by omega), e_cl (by omega), e_div (by omega) (by omega) (by omega), hdd, e_shl (by omega), e_or, e_m1s]
          refine ⟨fun c => ⟨by omega, fun m4 q4 => ?_⟩, fun c => ?_⟩
          · have ih := ih (by omega) m4 (f1.trans (by subst q4; exact fr_u2 (by simp))) (fun j hj => ?_) (fun a b ha hb e6 => ?_) (fun q h1 h2 => ?_)
            · rw [hi1] at ih; exact ih
            · by_cases e7 : j = i
              · subst e7; omega
              · exact g1 j (by omega)
            · by_cases e7 : a = i
              · by_cases e8 : b = i
                · omega
                · have hb := g1 b (by omega)
                  subst e7
                  exact absurd ⟨b, by omega, by omega⟩ c
              · by_cases e8 : b = i
                · have ha := g1 a (by omega)
                  subst e8
                  exact absurd ⟨a, by omega, by omega⟩ c
                · exact g2 a b (by omega) (by omega) e6
            · subst q4
              simp only [e_u2, true_and]
              by_cases e5 : q = p
              · subst e5
                rw [if_pos (by omega)]
                have : sN X.1 - 1 - q = i := by omega
                rw [this]
              · rw [if_neg (by omega)]; exact g3 q (by omega) h2
          · obtain ⟨j, hj, ej⟩ := Classical.not_not.mp c
            refine bad (fun hA => ?_) m1 f1
            have a1 := hA.1 j (by omega)
            have := hA.2.1 j i (by omega) (by omega) (by omega)
            omega
    have W0 := W (sN X.1) (Nat.le_refl _) m fr.refl (fun j hj => by omega) (fun i j hi => by omega) (fun q h1 h2 => by omega)
    rw [Nat.sub_self, Nat.pow_zero, Nat.div_one] at W0
    exact W0
theorem m_drop {d sn : Nat} {X : GS} {v : Int32} {m : mm_Mem} {P : Int32 → mm_Mem → Prop} (hX : okX X) (hI : mI X m) (h : ∀ m', fz 82 211 m m' → mI (setS X (S_drop X.1 v)) m' → P (A_drop X.1 v) m') : mm_sp (d + 3) sn kX11_drop [.ref 82, .int v] m (qI P) := by
  refine v_X11_drop ?_
  have hW := hX.1.2.1.1
  have hN := hX.1.1
  unfold A_drop S_drop at h
  have h1 := hI.1.1.2.1
  refine m_isWay h1 hW (e_vb (fun e => ?_) (fun e => ?_))
  · rw [if_pos e, if_pos e] at h
    obtain ⟨w, hw, rfl⟩ := iz_t (by omega) e
    rw [e_cl (by omega)] at h
    intro m2 q2
    rw [h1, e_sub (by omega)] at q2
    have f2 : fr [83] m m2 := by subst q2; exact fr_u2 (by simp)
    have u2 : ∀ x, m2.1 83 x = if x = 1 then nI (sW X.1 - 1) else m.1 83 x := by
      intro x
      subst q2
      simp only [e_u2, true_and]
    clear q2
    refine lp_up (lo := w) (hi := sW X.1 - 1) (W := fun k => ∀ m3, fr [83] m m3 → (∀ i, i < sW X.1 → m3.1 83 (2 + i) = m.1 83 (if w ≤ i ∧ i < k then 2 + i + 1 else 2 + i) ∧ m3.1 83 (6 + i) = m.1 83 (if w ≤ i ∧ i < k then 6 + i + 1 else 6 + i) ∧ ∀ p, p < 8 → m3.1 83 (10 + 8 * i + p) = m.1 83 (if w ≤ i ∧ i < k then 10 + 8 * (i + 1) + p else 10 + 8 * i + p)) → (∀ x, (x = 0 ∨ 42 ≤ x) → m3.1 83 x = m.1 83 x) → m3.1 83 1 = nI (sW X.1 - 1) → mm_wp (d + 2) sn kX11_drop 22 [some (.ref 82), none, some (.int (nI k)), none] [] m3 (qI P)) (by omega) ?_ ?_ m2 f2 (fun i hi => ?_) (fun x hx => by rw [u2, if_neg (by omega)]) (by rw [u2, if_pos rfl])
    · intro m3 g0 g1 g2 g3
      refine v_X11_drop_22 ?_
      rw [g3]
      refine e_vT (Int32.le_refl _) (h m3 (fun a ha => g0 a (by simp; omega)) (mI_S2 hX (fun a b1 b2 b3 => g0 a (by simp; omega)) hI ?_))
      obtain ⟨⟨a0, a1, a42, a43⟩, aW, aC, aB, aD⟩ := hI.1
      refine ⟨⟨?_, g3, ?_, ?_⟩, fun i hi => ?_, fun i hi => ?_, ?_, fun i hi => ?_⟩
      · rw [g2 _ (by omega)]; exact a0
      · rw [g2 _ (by omega)]; exact a42
      · rw [g2 _ (by omega)]; exact a43
      · have hi : i < sW X.1 - 1 := hi
        obtain ⟨b1, b2, b3⟩ := g1 i (by omega)
        show m3.1 83 (2 + i) = nI (dr w (sKd X.1) i) ∧ m3.1 83 (6 + i) = nI (dr w (sFg X.1) i) ∧ ∀ p, p < sN X.1 → m3.1 83 (10 + 8 * i + p) = nI (dr w (sT X.1) i p)
        unfold dr
        by_cases c : i < w
        · rw [if_neg (by omega)] at b1 b2
          rw [if_pos c, if_pos c, if_pos c, b1, b2]
          refine ⟨(aW i (by omega)).1, (aW i (by omega)).2.1, fun p hp => ?_⟩
          rw [b3 p (by omega), if_neg (by omega)]
          exact (aW i (by omega)).2.2 p hp
        · rw [if_pos (by omega)] at b1 b2
          rw [if_neg c, if_neg c, if_neg c, b1, b2]
          refine ⟨(aW (i + 1) (by omega)).1, (aW (i + 1) (by omega)).2.1, fun p hp => ?_⟩
          rw [b3 p (by omega), if_pos (by omega)]
          exact (aW (i + 1) (by omega)).2.2 p hp
      · have hi : i < sC X.1 := hi
        have hc := hX.1.2.1.2
        rw [g2 _ (by omega)]; exact aC i hi
      · rw [g0.i (by simp)]; exact aB
      · have hi : i < sC X.1 := hi
        have hc := hX.1.2.1.2
        rw [g0.i (by simp; omega)]; exact aD i hi
    · intro k hk1 hk2 ih m3 g0 g1 g2 g3
      refine v_X11_drop_22 ?_
      rw [g3]
      refine e_vF (by rw [e_le (by omega) (by omega)]; omega) ?_
      rw [e_add, e_add, e_add, e_add, e_vin (by omega) (by omega), e_vin (by omega) (by omega), e_vin (by omega) (by omega), e_vin (by omega) (by omega), e_cl (by omega), e_cl (by omega), e_cl (by omega), e_cl (by omega)]
      refine ⟨by omega, by omega, fun m4 q4 => ⟨by omega, by omega, fun m5 q5 => ?_⟩⟩
      have u5 : ∀ x, m5.1 83 x = if x = 6 + k then m3.1 83 (6 + k + 1) else if x = 2 + k then m3.1 83 (2 + k + 1) else m3.1 83 x := by
        intro x
        subst q4; subst q5
        simp only [e_u2, true_and]
        rw [if_neg (show ¬ 6 + k + 1 = 2 + k by omega)]
      have f5 : fr [83] m m5 := g0.trans (by
        subst q4; subst q5
        exact (fr_u2 (by simp)).trans (fr_u2 (m := (_, _)) (by simp)))
      clear q4 q5
      refine lp_up (W := fun p => ∀ m6, fr [83] m m6 → (∀ q, q < p → m6.1 83 (10 + 8 * k + q) = m3.1 83 (10 + 8 * (k + 1) + q)) → (∀ x, (x < 10 + 8 * k ∨ 10 + 8 * k + p ≤ x) → m6.1 83 x = m5.1 83 x) → mm_wp (d + 2) sn kX11_drop 72 [some (.ref 82), none, some (.int (nI k)), some (.int (nI p))] [] m6 (qI P)) (Nat.zero_le 8) ?_ ?_ m5 f5 (fun q hq => by omega) (fun x _ => rfl)
      · intro m6 k0 k1 k2
        refine v_X11_drop_72 (e_vT (by decide) ?_)
        rw [e_add]
        refine ih m6 k0 (fun i hi => ⟨?_, ?_, fun p hp => ?_⟩) (fun x hx => ?_) ?_
        · rw [k2 _ (by omega), u5, if_neg (show ¬ 2 + i = 6 + k by omega)]
          by_cases c : i = k
          · subst c
            have := (g1 (i + 1) (by omega)).1
            rw [if_neg (by omega)] at this
            rw [if_pos rfl, if_pos (by omega)]
            exact this
          · have := (g1 i hi).1
            rw [if_neg (by omega)]
            by_cases c2 : w ≤ i ∧ i < k
            · rw [if_pos c2] at this
              rw [if_pos (by omega)]
              exact this
            · rw [if_neg c2] at this
              rw [if_neg (by omega)]
              exact this
        · rw [k2 _ (by omega), u5]
          by_cases c : i = k
          · subst c
            have := (g1 (i + 1) (by omega)).2.1
            rw [if_neg (by omega)] at this
            rw [if_pos rfl, if_pos (by omega)]
            exact this
          · have := (g1 i hi).2.1
            rw [if_neg (by omega), if_neg (by omega)]
            by_cases c2 : w ≤ i ∧ i < k
            · rw [if_pos c2] at this
              rw [if_pos (by omega)]
              exact this
            · rw [if_neg c2] at this
              rw [if_neg (by omega)]
              exact this
        · by_cases c : i = k
          · subst c
            have := (g1 (i + 1) (by omega)).2.2 p hp
            rw [if_neg (by omega)] at this
            rw [k1 p hp, if_pos (by omega)]
            exact this
          · have := (g1 i hi).2.2 p hp
            rw [k2 _ (by omega), u5, if_neg (by omega), if_neg (by omega)]
            by_cases c2 : w ≤ i ∧ i < k
            · rw [if_pos c2] at this
              rw [if_pos (by omega)]
              exact this
            · rw [if_neg c2] at this
              rw [if_neg (by omega)]
              exact this
        · rw [k2 _ (by omega), u5, if_neg (by omega), if_neg (by omega)]; exact g2 x hx
        · rw [k2 _ (by omega), u5, if_neg (by omega), if_neg (by omega)]; exact g3
      · intro p _ hp ih6 m6 k0 k1 k2
        refine v_X11_drop_72 (e_vF (by rw [e_le (by omega) (by omega)]; omega) ?_)
        rw [e_add, e_mul, e_mul, e_add, e_add, e_add, e_add, e_vin (by omega) (by omega), e_vin (by omega) (by omega), e_cl (by omega), e_cl (by omega), e_add]
        refine ⟨by omega, by omega, fun m7 q7 => ih6 m7 (k0.trans (by subst q7; exact fr_u2 (by simp))) (fun q hq => ?_) (fun x hx => ?_)⟩
        · subst q7
          simp only [e_u2, true_and]
          by_cases c : q = p
          · subst c
            rw [if_pos rfl, k2 _ (by omega), u5, if_neg (by omega), if_neg (by omega)]
          · rw [if_neg (by omega)]; exact k1 q (by omega)
        · subst q7
          simp only [e_u2, true_and]
          rw [if_neg (by omega)]
          exact k2 x (by omega)
    · have g : ∀ j, j = 2 + i ∨ j = 6 + i ∨ 10 ≤ j → m2.1 83 j = m.1 83 j := fun j hj => by rw [u2, if_neg (by omega)]
      rw [if_neg (by omega), if_neg (by omega)]
      refine ⟨g _ (by omega), g _ (by omega), fun p hp => ?_⟩
      rw [if_neg (by omega)]
      exact g _ (by omega)
  · rw [if_neg (by rw [e]; decide), if_neg (by rw [e]; decide)] at h
    exact h m fz.refl hI
