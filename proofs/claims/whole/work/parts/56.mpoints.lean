-- THE MODEL: points
theorem s_inC {d sn : Nat} {v a b : Int32} {m : mm_Mem} {P : Int32 → mm_Mem → Prop} (h : P (nI (decide (¬ v < a ∧ v ≤ b)).toNat) m) : mm_sp (d + 1) sn kX11_in [.long v.toInt64, .long a.toInt64, .long b.toInt64] m (qI P) := by
  refine v_X11_in ?_
  have e1 : (v.toInt64 < a.toInt64) = (v < a) := by
    apply propext
    rw [Int64.lt_iff_toInt_lt, Int32.lt_iff_toInt_lt, Int32.toInt_toInt64, Int32.toInt_toInt64]
  have e2 : (b.toInt64 < v.toInt64) = (b < v) := by
    apply propext
    rw [Int64.lt_iff_toInt_lt, Int32.lt_iff_toInt_lt, Int32.toInt_toInt64, Int32.toInt_toInt64]
  rw [lg_cmp_lt, lg_cmp_gt, e1, e2]
  refine ⟨fun c => ?_, fun c => ⟨fun c2 => ?_, fun c2 => ?_⟩⟩
  · rw [decide_eq_false (fun e => e.1 c)] at h; exact h
  · rw [decide_eq_false (fun e => Int32.not_le.mpr c2 e.2)] at h; exact h
  · rw [decide_eq_true ⟨c, Int32.not_lt.mp c2⟩] at h; exact h
theorem mI_S {X : GS} {S : St} {m m' : mm_Mem} (hX : okX X) (h : ∀ a, (a ≠ 83 ∧ (a < 86 ∨ 90 < a)) → m'.1 a = m.1 a ∧ m'.2 a = m.2 a) (hI : mI X m) (hS : rMs 83 86 S m') : mI (setS X S) m' := by
  obtain ⟨_, g2, g3, g4, g5⟩ := hI
  refine ⟨hS, ?_, fun e => ?_, ⟨?_, fun j hj => ?_⟩, fun k hk => ⟨?_, ?_, fun i hi => ?_⟩⟩
  · rw [(h 82 (by omega)).1]; exact g2
  · have hc := (hX.2.1 e).2.1.2
    have g3 := g3 e
    have hc : sC X.2.1 ≤ 4 := hc
    unfold rMs
    rw [show (setS X S).2.1 = X.2.1 from rfl, (h 84 (by omega)).1, (h 92 (by omega)).1]
    refine ⟨g3.1, g3.2.1, g3.2.2.1, g3.2.2.2.1, fun i hi => ?_⟩
    rw [(h (92 + 1 + i) (by omega)).1]
    exact g3.2.2.2.2 i hi
  · rw [(h 82 (by omega)).1]; exact g4.1
  · rw [(h 201 (by omega)).1]; exact g4.2 j hj
  · rw [(h 202 (by omega)).1]; exact (g5 k hk).1
  · rw [(h 203 (by omega)).1]; exact (g5 k hk).2.1
  · rw [(h (205 + k) (by omega)).2]; exact (g5 k hk).2.2 i hi
theorem m_starts {d sn n : Nat} {S : St} {m : mm_Mem} {P : mm_Mem → Prop} (h : ∀ m', fr [83, 86] m m' → rMs 83 86 (stNew n S) m' → P m') : mm_sp (d + 1) sn kX11_starts [.ref 82, .int (nI n)] m (qV P) := by
  refine v_X11_starts ?_
  refine lp_up (W := fun i => ∀ m1, fr [83, 86] m m1 → (∀ x, x < i → m1.1 83 x = nI 0) → mm_wp d sn kX11_starts 2 [some (.ref 82), some (.int (nI n)), some (.int (nI i))] [] m1 (qV P)) (Nat.zero_le 48) ?_ ?_ m fr.refl (fun x hx => by omega)
  · intro m1 g0 g1
    refine v_X11_starts_2 (e_vT (by decide) (fun m2 e2 m3 e3 => ?_))
    have f3 : fr [83, 86] m1 m3 := by
      subst e2; subst e3
      exact (fr_u2 (a := 83) (by simp)).trans (fr_u2 (m := (_, _)) (a := 83) (by simp))
    have q : ∀ x, m3.1 83 x = if x = 42 then nI 2 else if x = 0 then nI n else m1.1 83 x := by
      intro x
      subst e2; subst e3
      show mm_u2 (mm_u2 m1.1 83 0 (nI n)) 83 42 (nI 2) 83 x = _
      by_cases c : x = 42
      · subst c; rw [u2_s, if_pos rfl]
      · rw [u2_j c, if_neg c]
        by_cases c2 : x = 0
        · subst c2; rw [u2_s, if_pos rfl]
        · rw [u2_j c2, if_neg c2]
    refine lp_up (W := fun s => ∀ m4, fr [86] m3 m4 → (∀ x, x < s → m4.1 86 x = nI 0) → mm_wp d sn kX11_starts 38 [some (.ref 82), none, some (.int (nI s))] [] m4 (qV P)) (Nat.zero_le 256) ?_ ?_ m3 fr.refl (fun x hx => by omega)
    · intro m4 b0 b1
      have e83 : m4.1 83 = m3.1 83 := b0.i (by simp)
      refine v_X11_starts_38 (e_vT (by decide) (h m4 ((g0.trans f3).trans (b0.mono (by simp))) ⟨⟨?_, ?_, ?_, ?_⟩, fun w hw => absurd hw (Nat.not_lt_zero w), fun i hi => absurd hi (Nat.not_lt_zero i), fun s hs => b1 s hs, fun i hi => absurd hi (Nat.not_lt_zero i)⟩))
      · rw [e83, q]; rfl
      · rw [e83, q]; exact g1 1 (by omega)
      · rw [e83, q]; rfl
      · rw [e83, q]; exact g1 43 (by omega)
    · intro s _ hs ih m4 b0 b1
      refine v_X11_starts_38 (e_vF (by rw [e_le (by omega) (by omega)]; omega) ?_)
      rw [e_vin (by omega) (by omega), e_cl (by omega), e_nar0, e_add]
      refine ⟨hs, fun m5 e5 => ih m5 (b0.trans (by subst e5; exact fr_u2 (by simp))) (fun x hx => ?_)⟩
      subst e5
      show mm_u2 m4.1 86 s (nI 0) 86 x = _
      by_cases c : x = s
      · subst c; rw [u2_s]
      · rw [u2_j c]; exact b1 x (by omega)
  · intro i _ hi ih m1 g0 g1
    refine v_X11_starts_2 (e_vF (by rw [e_le (by omega) (by omega)]; omega) ?_)
    rw [e_vin (by omega) (by omega), e_cl (by omega), e_add]
    refine ⟨hi, fun m2 e2 => ih m2 (g0.trans (by subst e2; exact fr_u2 (by simp))) (fun x hx => ?_)⟩
    subst e2
    show mm_u2 m1.1 83 i (nI 0) 83 x = _
    by_cases c : x = i
    · subst c; rw [u2_s]
    · rw [u2_j c]; exact g1 x (by omega)
theorem m_points {d sn : Nat} {X : GS} {v : Int32} {m : mm_Mem} {P : Int32 → mm_Mem → Prop} (hX : okX X) (hI : mI X m) (h : ∀ m', fz 83 211 m m' → mI (setS X (S_points X.1 v)) m' → P (A_points X.1 v) m') : mm_sp (d + 2) sn kX11_points [.ref 82, .int v] m (qI P) := by
  refine v_X11_points ?_
  unfold A_points S_points at h
  have e3 : lN 3 = (nI 3).toInt64 := by decide
  have e8 : lN 8 = (nI 8).toInt64 := by decide
  rw [e3, e8]
  refine s_inC (e_vb (fun e => ?_) (fun e => ?_))
  · have c := of_decide_eq_true e
    rw [if_pos c, if_pos c] at h
    obtain ⟨n, h3, h8, rfl⟩ := p38 c.1 c.2
    rw [e_cl (by omega)] at h
    refine m_starts (S := X.1) ?_
    intro m' hf hS
    rw [hI.1.1.1]
    exact h m' (fun a ha => hf a (by simp; omega)) (mI_S hX (fun a ha => hf a (by simp; omega)) hI hS)
  · have c := of_decide_eq_false e
    rw [if_neg c, if_neg c] at h
    exact h m fz.refl hI
