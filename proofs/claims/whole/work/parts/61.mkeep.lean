-- THE MODEL: keep, design, image, undo
theorem shZ_q {i : Nat} (hi : i < 5) : shZ (86 + i) := by
  have := (shQ_85.2 i hi).2
  have e : 85 + 1 + i = 86 + i := by omega
  rw [e] at this
  exact this
theorem m_isDesign {d sn : Nat} {S : St} {v : Int32} {m : mm_Mem} {P : Int32 → mm_Mem → Prop} (hn : m.1 83 43 = nI (sC S)) (h4 : sC S ≤ 4) (h : P (nI (iz v (sC S)).toNat) m) : mm_sp (d + 2) sn kX11_isDesign [.ref 82, .int v] m (qI P) := by
  refine v_X11_isDesign ?_
  rw [hn]
  exact s_in (e_pred (by omega)) (by omega) ⟨e_z01, h⟩
theorem e_l1 : lN 1 = (nI 1).toInt64 := by decide
theorem e_l2 : lN 2 = (nI 2).toInt64 := by decide
theorem e_l4 : lN 4 = (nI 4).toInt64 := by decide
theorem m_design {d sn : Nat} {X : GS} {v w : Int32} {m : mm_Mem} {P : Int32 → mm_Mem → Prop} (hX : okX X) (hI : mI X m) (h : ∀ m', fz 82 211 m m' → mI X m' → P (A_design X.1 v w) m') : mm_sp (d + 3) sn kX11_design [.ref 82, .int v, .int w] m (qI P) := by
  refine v_X11_design ?_
  have hC := hX.1.2.1.2
  have h := h m fz.refl hI
  unfold A_design at h
  refine m_isDesign hI.1.1.2.2.2 hC (e_vz (fun e => ?_) (fun e => ?_))
  · rw [if_neg (by rw [e]; decide)] at h
    exact h
  · rw [if_pos e] at h
    obtain ⟨i, hi, rfl⟩ := iz_t (by omega) e
    rw [e_cl (by omega)] at h
    rw [e_l1]
    refine s_in (n := 2) (by decide) (by omega) (e_vb (fun e2 => ?_) (fun e2 => ?_))
    · obtain ⟨w, hw, rfl⟩ := iz_t (by omega) e2
      rw [e_eq0 (by omega), e_add, e_add, e_vin (by omega) (by omega), e_cl (by omega)]
      refine ⟨fun c => ⟨1 + i, by omega, rfl, ?_⟩, fun c => ⟨by omega, ?_⟩⟩
      · have cw : w = 1 := by omega
        subst cw
        rw [if_neg (by decide), if_pos rfl] at h
        have e9 : 86 + (1 + i) = 86 + 1 + i := by omega
        refine m_many (shZ_q (by omega)) ?_ h
        rw [e9]
        exact hI.1.2.2.2.2 i hi
      · have cw := Classical.not_not.mp c
        subst cw
        rw [if_pos rfl] at h
        rw [hI.1.2.2.1 i hi]
        exact h
    · have n0 : ¬ w = nI 0 := fun e => by subst e; revert e2; decide
      have n1 : ¬ w = nI 1 := fun e => by subst e; revert e2; decide
      rw [if_neg n0, if_neg n1] at h
      exact h
theorem m_keep {d sn : Nat} {X : GS} {m : mm_Mem} {P : Int32 → mm_Mem → Prop} (hX : okX X) (hI : mI X m) (h : ∀ m', fz 82 211 m m' → mI (setS X (S_keep X.1)) m' → P (A_keep X.1) m') : mm_sp (d + 2) sn kX11_keep [.ref 82] m (qI P) := by
  refine v_X11_keep ?_
  have hC := hX.1.2.1.2
  have hW := hX.1.2.1.1
  have hN := hX.1.1.2
  unfold A_keep S_keep at h
  have h43 := hI.1.1.2.2.2
  rw [h43, e_eq (by omega) (by omega), e_add, e_vin (by omega) (by omega), e_cl (by omega), hI.1.1.2.2.1]
  refine ⟨fun c => ⟨by omega, fun m1 q1 => ?_⟩, fun c => ?_⟩
  · rw [if_neg c, if_neg c] at h
    have f1 : fr [83] m m1 := by subst q1; exact fr_u2 (by simp)
    have u1 : ∀ x, m1.1 83 x = if x = 44 + sC X.1 then nI (sK X.1) else m.1 83 x := by
      intro x
      subst q1
      simp only [e_u2, true_and]
    clear q1
    have hz : shZ (86 + (1 + sC X.1)) := shZ_q (by omega)
    refine lp_up (W := fun s => ∀ m2, fr [86 + (1 + sC X.1)] m1 m2 → rZ (m2.1 (86 + (1 + sC X.1))) (sB X.1) s → mm_wp (d + 1) sn kX11_keep 40 [some (.ref 82), some (.int (nI (sC X.1))), some (.int (nI s))] [] m2 (qI P)) (Nat.zero_le 256) ?_ ?_ m1 fr.refl (fun s hs => by omega)
    · intro m2 f2 g2
      have f12 : fr [83, 86 + (1 + sC X.1)] m m2 := (f1.mono (by simp)).trans (f2.mono (by simp))
      refine v_X11_keep_40 (e_vT (by decide) (fun m3 q3 => ?_))
      have e83 : m2.1 83 = m1.1 83 := f2.i (by simp; omega)
      rw [e83, u1, if_neg (by omega), h43, e_add] at q3
      have f3 : fr [83] m2 m3 := by subst q3; exact fr_u2 (by simp)
      have u3 : ∀ x, m3.1 83 x = if x = 43 then nI (sC X.1 + 1) else if x = 44 + sC X.1 then nI (sK X.1) else m.1 83 x := by
        intro x
        subst q3
        simp only [e_u2, true_and, e83, u1]
      have f13 : fr [83, 86 + (1 + sC X.1)] m m3 := f12.trans (f3.mono (by simp))
      refine h m3 (fun a ha => f13 a (by simp; omega)) (mI_S2 hX (fun a b1 b2 b3 => f13 a (by simp; omega)) hI ?_)
      obtain ⟨⟨a0, a1, a42, a43⟩, aW, aC, aB, aD⟩ := hI.1
      refine ⟨⟨?_, ?_, ?_, ?_⟩, fun w hw => ⟨?_, ?_, fun p hp => ?_⟩, fun i hi => ?_, ?_, fun i hi => ?_⟩
      · rw [u3, if_neg (by omega), if_neg (by omega)]; exact a0
      · rw [u3, if_neg (by omega), if_neg (by omega)]; exact a1
      · rw [u3, if_neg (by omega), if_neg (by omega)]; exact a42
      · rw [u3, if_pos rfl]; rfl
      · have hw : w < sW X.1 := hw
        rw [u3, if_neg (by omega), if_neg (by omega)]; exact (aW w hw).1
      · have hw : w < sW X.1 := hw
        rw [u3, if_neg (by omega), if_neg (by omega)]; exact (aW w hw).2.1
      · have hw : w < sW X.1 := hw
        have hp : p < sN X.1 := hp
        rw [u3, if_neg (by omega), if_neg (by omega)]; exact (aW w hw).2.2 p hp
      · have hi : i < sC X.1 + 1 := hi
        show m3.1 83 (44 + i) = nI (ud (sDk X.1) (sC X.1) (sK X.1) i)
        rw [u3, if_neg (by omega)]
        by_cases e : i = sC X.1
        · subst e
          rw [if_pos rfl, ud_s]
        · rw [if_neg (by omega), ud_n e]
          exact aC i (by omega)
      · show rZ (m3.1 86) (sB X.1) 256
        rw [f13.i (by simp)]
        exact aB
      · have hi : i < sC X.1 + 1 := hi
        show rZ (m3.1 (86 + 1 + i)) (ud (sD X.1) (sC X.1) (sB X.1) i) 256
        by_cases e : i = sC X.1
        · subst e
          rw [ud_s, f3.i (by simp; omega)]
          have e9 : 86 + 1 + sC X.1 = 86 + (1 + sC X.1) := by omega
          rw [e9]
          exact g2
        · rw [ud_n e, f13.i (by simp; omega)]
          exact aD i (by omega)
    · intro s _ hs ih m2 f2 g2
      refine v_X11_keep_40 (e_vF (by rw [e_le (by omega) (by omega)]; omega) ⟨1 + sC X.1, by omega, e_add, ?_⟩)
      have e86 : m2.1 86 = m.1 86 := by rw [f2.i (by simp), f1.i (by simp)]
      rw [e_vin (by omega) (by omega), e_cl (by omega), e86, hI.1.2.2.2.1 s hs, e_nar, e_add]
      refine ⟨hs, hs, fun m4 q4 => ih m4 (f2.trans (by subst q4; exact fr_u2 (by simp))) (fun t ht => ?_)⟩
      subst q4
      simp only [e_u2, true_and]
      by_cases e : t = s
      · subst e; rw [if_pos rfl]
      · rw [if_neg e]; exact g2 t (by omega)
  · have c := Classical.not_not.mp c
    rw [if_pos c, if_pos c] at h
    exact h m fz.refl hI
/-- a whole copy of one side's rows -/
theorem m_copies {d sn a b q r : Nat} {S : St} {m : mm_Mem} {P : mm_Mem → Prop} (ha : shG a) (hb : shG b) (hq : shQ q) (hr : shQ r) (hab : a ≠ b) (hqa : a < q ∨ q + 5 < a) (hra : a < r ∨ r + 5 < a) (hqr : q + 5 < r ∨ r + 5 < q) (hbr : b < r ∨ r + 5 < b) (hok : okS S) (hqb : b < q ∨ q + 5 < b) (hS : rMs a (q + 1) S m) (h : ∀ m', (∀ x, x ≠ b → (x < r + 1 ∨ r + 5 < x) → m'.1 x = m.1 x ∧ m'.2 x = m.2 x) → rMs b (r + 1) S m' → P m') : mm_sp (d + 1) sn kX11_copies [.ref a, .ref b, .ref q, .ref r] m (qV P) := by
  refine v_X11_copies ha hb hq hr ?_
  refine lp_up (W := fun i => ∀ m1, fr [b] m m1 → (∀ x, x < i → m1.1 b x = m.1 a x) → mm_wp d sn kX11_copies 3 [some (.ref a), some (.ref b), some (.ref q), some (.ref r), some (.int (nI i)), none] [] m1 (qV P)) (Nat.zero_le 48) ?_ ?_ m fr.refl (fun x hx => by omega)
  · intro m1 f1 g1
    refine v_X11_copies_3 ha hb hq hr (e_vT (by decide) ?_)
    refine lp_up (W := fun k => ∀ m2, (∀ x, (x < r + 1 ∨ r + 5 < x) → m2.1 x = m1.1 x ∧ m2.2 x = m1.2 x) → (∀ j, j < k → ∀ s, s < 256 → m2.1 (r + 1 + j) s = vp_nar .boolean (m.1 (q + 1 + j) s)) → mm_wp d sn kX11_copies 27 [none, none, some (.ref q), some (.ref r), some (.int (nI k)), none] [] m2 (qV P)) (Nat.zero_le 5) ?_ ?_ m1 (fun x _ => ⟨rfl, rfl⟩) (fun j hj => by omega)
    · intro m2 f2 g2
      refine v_X11_copies_27 hq hr (e_vT (by decide) (h m2 (fun x x1 x2 => ?_) ?_))
      · have h2 := f2 x x2
        have h1 := f1 x (by simp; omega)
        exact ⟨h2.1.trans h1.1, h2.2.trans h1.2⟩
      · have eb : ∀ x, x < 48 → m2.1 b x = m.1 a x := fun x hx => by rw [(f2 b (by omega)).1]; exact g1 x hx
        have hW := hok.2.1.1
        have hC := hok.2.1.2
        have hN := hok.1.2
        obtain ⟨⟨a0, a1, a42, a43⟩, aW, aC, aB, aD⟩ := hS
        refine ⟨⟨?_, ?_, ?_, ?_⟩, fun w hw => ⟨?_, ?_, fun p hp => ?_⟩, fun i hi => ?_, fun s hs => ?_, fun i hi s hs => ?_⟩
        · rw [eb _ (by omega)]; exact a0
        · rw [eb _ (by omega)]; exact a1
        · rw [eb _ (by omega)]; exact a42
        · rw [eb _ (by omega)]; exact a43
        · rw [eb _ (by omega)]; exact (aW w hw).1
        · rw [eb _ (by omega)]; exact (aW w hw).2.1
        · rw [eb _ (by omega)]; exact (aW w hw).2.2 p hp
        · rw [eb _ (by omega)]; exact aC i hi
        · have := g2 0 (by omega) s hs
          rw [Nat.add_zero, Nat.add_zero, aB s hs, e_nar] at this
          exact this
        · have := g2 (1 + i) (by omega) s hs
          have e1 : r + 1 + (1 + i) = r + 1 + 1 + i := by omega
          have e2 : q + 1 + (1 + i) = q + 1 + 1 + i := by omega
          rw [e1, e2, aD i hi s hs, e_nar] at this
          exact this
    · intro k _ hk ih m2 f2 g2
      refine v_X11_copies_27 hq hr (e_vF (by rw [e_lt (by omega) (by omega)]; omega) ?_)
      refine lp_up (W := fun s => ∀ m3, fr [r + 1 + k] m2 m3 → (∀ t, t < s → m3.1 (r + 1 + k) t = vp_nar .boolean (m.1 (q + 1 + k) t)) → mm_wp d sn kX11_copies 36 [none, none, some (.ref q), some (.ref r), some (.int (nI k)), some (.int (nI s))] [] m3 (qV P)) (Nat.zero_le 256) ?_ ?_ m2 fr.refl (fun t ht => by omega)
      · intro m3 f3 g3
        refine v_X11_copies_36 hq hr (e_vT (by decide) ?_)
        rw [e_add]
        refine ih m3 (fun x hx => ?_) (fun j hj s hs => ?_)
        · have h3 := f3 x (by simp; omega)
          have h2 := f2 x hx
          exact ⟨h3.1.trans h2.1, h3.2.trans h2.2⟩
        · by_cases e : j = k
          · subst e; exact g3 s hs
          · rw [f3.i (by simp; omega)]; exact g2 j (by omega) s hs
      · intro s _ hs ihs m3 f3 g3
        refine v_X11_copies_36 hq hr (e_vF (by rw [e_le (by omega) (by omega)]; omega) ⟨k, hk, rfl, k, hk, rfl, ?_⟩)
        have eq1 : m3.1 (q + 1 + k) = m.1 (q + 1 + k) := by
          rw [f3.i (by simp; omega), (f2 _ (by omega)).1, f1.i (by simp; omega)]
        rw [e_vin (by omega) (by omega), e_cl (by omega), eq1, e_add]
        refine ⟨hs, hs, fun m4 q4 => ihs m4 (f3.trans (by subst q4; exact fr_u2 (by simp))) (fun t ht => ?_)⟩
        subst q4
        simp only [e_u2, true_and]
        by_cases e : t = s
        · subst e; rw [if_pos rfl]
        · rw [if_neg e]; exact g3 t (by omega)
  · intro i _ hi ih m1 f1 g1
    refine v_X11_copies_3 ha hb hq hr (e_vF (by rw [e_le (by omega) (by omega)]; omega) ?_)
    have ea : m1.1 a = m.1 a := f1.i (by simp; omega)
    rw [e_vin (by omega) (by omega), e_cl (by omega), ea, e_add]
    refine ⟨hi, hi, fun m2 q2 => ih m2 (f1.trans (by subst q2; exact fr_u2 (by simp))) (fun x hx => ?_)⟩
    subst q2
    simp only [e_u2, true_and]
    by_cases e : x = i
    · subst e; rw [if_pos rfl]
    · rw [if_neg e]; exact g1 x (by omega)
theorem m_image {d sn : Nat} {X : GS} {m : mm_Mem} {P : Int32 → mm_Mem → Prop} (hX : okX X) (hI : mI X m) (h : ∀ m', fz 82 211 m m' → mI (X_image X) m' → P (nI (cN (sB X.1) 256)) m') : mm_sp (d + 2) sn kX11_image [.ref 82] m (qI P) := by
  refine v_X11_image ?_
  refine m_copies (S := X.1) shG_83 shG_84 shQ_85 shQ_91 (by omega) (by omega) (by omega) (by omega) (by omega) hX.1 (by omega) hI.1 ?_
  intro m1 f1 g1 m2 q2
  have f2 : fr [82] m1 m2 := by subst q2; exact fr_u2 (by simp)
  have u2 : ∀ x, m2.1 82 x = if x = 4 then nI 1 else m1.1 82 x := by
    intro x
    subst q2
    simp only [e_u2, true_and]
  have e82 : m1.1 82 = m.1 82 := (f1 82 (by omega) (by omega)).1
  have hf : ∀ a, a ≠ 82 → a ≠ 84 → (a < 92 ∨ 96 < a) → m2.1 a = m.1 a ∧ m2.2 a = m.2 a := by
    intro a b1 b2 b3
    have h1 := f1 a b2 (by omega)
    have h2 := f2 a (by simp; omega)
    exact ⟨h2.1.trans h1.1, h2.2.trans h1.2⟩
  have hB : rZ (m2.1 86) (sB X.1) 256 := by rw [(hf 86 (by omega) (by omega) (by omega)).1]; exact hI.1.2.2.2.1
  refine m_many shZ_86 hB (h m2 (fun a ha => hf a (by omega) (by omega) (by omega)) ⟨?_, ?_, fun _ => ?_, ⟨?_, fun j hj => ?_⟩, fun k hk => ⟨?_, ?_, fun i hi => ?_⟩⟩)
  · have hc : sC X.1 ≤ 4 := hX.1.2.1.2
    have g := hI.1
    show rMs 83 86 X.1 m2
    unfold rMs
    rw [(hf 83 (by omega) (by omega) (by omega)).1]
    refine ⟨g.1, g.2.1, g.2.2.1, hB, fun i hi => ?_⟩
    rw [(hf _ (by omega) (by omega) (by omega)).1]
    exact g.2.2.2.2 i hi
  · rw [u2, if_pos rfl]; rfl
  · show rMs 84 92 X.1 m2
    have hc : sC X.1 ≤ 4 := hX.1.2.1.2
    unfold rMs at g1 ⊢
    rw [f2.i (by simp), f2.i (by simp)]
    refine ⟨g1.1, g1.2.1, g1.2.2.1, g1.2.2.2.1, fun i hi => ?_⟩
    rw [f2.i (by simp; omega)]
    exact g1.2.2.2.2 i hi
  · rw [u2, if_neg (by omega), e82]; exact hI.2.2.2.1.1
  · rw [(hf 201 (by omega) (by omega) (by omega)).1]; exact hI.2.2.2.1.2 j hj
  · rw [(hf 202 (by omega) (by omega) (by omega)).1]; exact (hI.2.2.2.2 k hk).1
  · rw [(hf 203 (by omega) (by omega) (by omega)).1]; exact (hI.2.2.2.2 k hk).2.1
  · rw [(hf (205 + k) (by omega) (by omega) (by omega)).2]; exact (hI.2.2.2.2 k hk).2.2 i hi
theorem m_undo {d sn : Nat} {X : GS} {m : mm_Mem} {P : Int32 → mm_Mem → Prop} (hX : okX X) (hI : mI X m) (h : ∀ m', fz 82 211 m m' → mI (setS X (S_undo X)) m' → P (A_undo X) m') : mm_sp (d + 2) sn kX11_undo [.ref 82] m (qI P) := by
  refine v_X11_undo ?_
  unfold A_undo S_undo at h
  rw [hI.2.1]
  refine e_vb (fun e => ?_) (fun e => ?_)
  · rw [if_pos e, if_pos e] at h
    refine m_copies (S := X.2.1) shG_84 shG_83 shQ_91 shQ_85 (by omega) (by omega) (by omega) (by omega) (by omega) (hX.2.1 e) (by omega) (hI.2.2.1 e) ?_
    intro m1 f1 g1
    exact m_many shZ_86 g1.2.2.2.1 (h m1 (fun a ha => f1 a (by omega) (by omega)) (mI_S2 hX (fun a b1 b2 b3 => f1 a b1 (by omega)) hI g1))
  · rw [if_neg (by rw [e]; decide), if_neg (by rw [e]; decide)] at h
    exact h m fz.refl hI
