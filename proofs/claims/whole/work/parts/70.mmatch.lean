-- THE MODEL: lined, waysFrom, areAlike, alike, selves
theorem m_lined {d sn n s : Nat} {L : Nat → Nat} {m : mm_Mem} {P : Int32 → mm_Mem → Prop} (hN : m.1 83 0 = nI n) (hn : n ≤ 8) (hs : s < 256) (hL : ∀ q, q < n → m.1 175 q = nI (L q)) (hL8 : ∀ q, q < n → L q < 8) (h : P (nI (mvN L s n)) m) : mm_sp (d + 1) sn kX11_lined [.ref 82, .int (nI s)] m (qI P) := by
  refine v_X11_lined ?_
  refine lp_up (W := fun p => mm_wp d sn kX11_lined 4 [some (.ref 82), some (.int (nI s)), some (.int (nI (mvN L s p))), some (.int (nI p))] [] m (qI P)) (Nat.zero_le n) ?_ ?_
  · refine v_X11_lined_4 ?_
    rw [hN]
    exact e_vT (Int32.le_refl _) h
  · intro p _ hp ih
    refine v_X11_lined_4 ?_
    rw [hN]
    refine e_vF (by rw [e_le (by omega) (by omega)]; omega) ?_
    have h8 := hL8 p hp
    have e2 : mvN L s (p + 1) = if s.testBit p = true then mvN L s p ||| 1 <<< L p else mvN L s p := rfl
    rw [e_vin (by omega) (by omega), e_cl (by omega), hL p hp, e_shr (by omega) (by omega), e_and, e_bit0, e_shl (by omega), e_or, e_add]
    refine ⟨by omega, ?_⟩
    rw [e2] at ih
    cases e : s.testBit p with
    | true =>
      rw [e, if_pos rfl] at ih
      exact ih
    | false =>
      rw [e, if_neg (by decide)] at ih
      have e3 : false.toNat <<< L p = 0 := Nat.zero_shiftLeft _
      rw [e3, Nat.or_zero]
      exact ih
def resW (A B : Nat → Bool) (n : Nat) (b : Bool) (f : Nat) (L : Nat → Nat) (p u : Nat) : Nat := if b = true then (decide (0 < wfN A B n f L p u)).toNat else wfN A B n f L p u
theorem sumN_mono {g : Nat → Nat} : ∀ {a b : Nat}, a ≤ b → sumN g a ≤ sumN g b
  | a, 0, h => by
    have : a = 0 := by omega
    rw [this]; exact Nat.le_refl _
  | a, b + 1, h => by
    by_cases e : a = b + 1
    · rw [e]; exact Nat.le_refl _
    · have := sumN_mono (g := g) (show a ≤ b by omega)
      show _ ≤ sumN g b + g b
      omega
theorem m_waysFrom {sn a1 a2 n : Nat} {A B : Nat → Bool} {b : Bool} (h1 : shZ a1) (h2 : shZ a2) (hne : a1 ≠ 175 ∧ a2 ≠ 175) (hn : n ≤ 8) : ∀ (f : Nat) {d p u : Nat} {L : Nat → Nat} {m : mm_Mem} {P : Int32 → mm_Mem → Prop}, p + f = n → u < 256 → m.1 83 0 = nI n → rZ (m.1 a1) A 256 → rZ (m.1 a2) B 256 → (∀ q, q < p → m.1 175 q = nI (L q)) → (∀ q, q < p → L q < n) → (∀ m', fz 175 175 m m' → (∀ q, q < p → m'.1 175 q = m.1 175 q) → P (nI (resW A B n b f L p u)) m') → mm_sp (d + f + 2) sn kX11_waysFrom [.ref 82, .ref a1, .ref a2, .int (nI p), .int (nI u), .int (nI b.toNat)] m (qI P)
  | 0, d, p, u, L, m, P, hp, hu, hN, hA, hB, hL, hL8, h => by
    have hp : p = n := by omega
    subst hp
    have hp8 := p2_le hn
    have hp0 := Nat.two_pow_pos p
    refine v_X11_waysFrom h1 h2 ?_
    rw [hN]
    refine e_vF (fun c => c rfl) ?_
    have hr : resW A B p b 0 L p u = (leafM A B p L).toNat := by
      unfold resW
      cases b with
      | false => rfl
      | true =>
        rw [if_pos rfl]
        show (decide (0 < (leafM A B p L).toNat)).toNat = _
        cases leafM A B p L <;> rfl
    rw [hr] at h
    replace h := h m fz.refl (fun _ _ => rfl)
    have wh : ∀ {Q : Int32 → mm_Mem → Prop}, Q (nI (2 ^ p - 1)) m → mm_sp (d + 1) sn kX11_whole [.ref 82] m (qI Q) := fun hq => by
      refine v_X11_whole ?_
      rw [hN, e_shl (by omega), Nat.shiftLeft_eq, Nat.one_mul, e_sub (show 1 ≤ 2 ^ p from hp0)]
      exact hq
    refine lp_up (W := fun s => (∀ t, t < s → (!A t || B (mvN L t p)) = true) → mm_wp (d + 0 + 1) sn kX11_waysFrom 13 [some (.ref 82), some (.ref a1), some (.ref a2), none, none, none, some (.int (nI s)), none] [] m (qI P)) (Nat.zero_le (2 ^ p)) ?_ ?_ (fun t ht => by omega)
    · intro hl
      refine v_X11_waysFrom_13 h1 h2 (wh (e_vT (by rw [e_lt (by omega) (by omega)]; omega) ?_))
      rw [show leafM A B p L = true from alN_t hl] at h
      exact h
    · intro s _ hs ih hl
      refine v_X11_waysFrom_13 h1 h2 (wh (e_vF (by rw [e_lt (by omega) (by omega)]; omega) ?_))
      rw [e_vin (by omega) (by omega), e_cl (by omega), hA s (by omega), e_add]
      have nxt : (!A s || B (mvN L s p)) = true → mm_wp (d + 0 + 1) sn kX11_waysFrom 13 [some (.ref 82), some (.ref a1), some (.ref a2), none, none, none, some (.int (nI (s + 1))), none] [] m (qI P) := fun e => ih (fun t ht => by
        by_cases e2 : t = s
        · subst e2; exact e
        · exact hl t (by omega))
      refine ⟨by omega, e_vz (fun e => nxt (by rw [e]; rfl)) (fun e => m_lined hN hn (by omega) hL (fun q hq => by have := hL8 q hq; omega) ?_)⟩
      have hm : mvN L s p < 2 ^ p := mvN_lt hL8
      rw [e_vin (by omega) (by omega), e_cl (by omega), hB _ (by omega)]
      refine ⟨by omega, e_vb (fun e2 => nxt (by rw [e2, Bool.or_true])) (fun e2 => ?_)⟩
      rw [show leafM A B p L = false from alN_f (p := fun s => !A s || B (mvN L s p)) (by rw [e, e2]; rfl) hs] at h
      exact h
  | f + 1, d, p, u, L, m, P, hp, hu, hN, hA, hB, hL, hL8, h => by
    refine v_X11_waysFrom h1 h2 ?_
    rw [hN]
    refine e_vT (by rw [e_eq (by omega) (by omega)]; omega) ?_
    generalize hg : (fun t => if u.testBit t = true then 0 else wfN A B n f (ud L p t) (p + 1) (u ||| 1 <<< t)) = g
    have hw : wfN A B n (f + 1) L p u = sumN g n := by rw [← hg]; rfl
    have gt : ∀ t, g t = if u.testBit t = true then 0 else wfN A B n f (ud L p t) (p + 1) (u ||| 1 <<< t) := fun t => by rw [← hg]
    have W0 := lp_up (W := fun t => ∀ m1, fz 175 175 m m1 → (∀ q, q < p → m1.1 175 q = m.1 175 q) → mm_wp (d + (f + 1) + 1) sn kX11_waysFrom 56 [some (.ref 82), some (.ref a1), some (.ref a2), some (.int (nI p)), some (.int (nI u)), some (.int (nI b.toNat)), some (.int (nI (if b = true then (decide (0 < sumN g t)).toNat else sumN g t))), some (.int (nI t))] [] m1 (qI P)) (Nat.zero_le n) ?_ ?_ m fz.refl (fun _ _ => rfl)
    · have e0 : (if b = true then (decide (0 < sumN g 0)).toNat else sumN g 0) = 0 := by
        cases b <;> rfl
      rw [e0] at W0
      exact W0
    · intro m1 z1 g1
      refine v_X11_waysFrom_56 h1 h2 ?_
      rw [z1.i (by omega), hN]
      refine e_vT (Int32.le_refl _) ?_
      have := h m1 z1 g1
      unfold resW at this
      rw [hw] at this
      exact this
    · intro t _ ht ih m1 z1 g1
      have hN1 : m1.1 83 0 = nI n := by rw [z1.i (by omega)]; exact hN
      have hA1 : rZ (m1.1 a1) A 256 := by rw [z1.i (by omega)]; exact hA
      have hB1 : rZ (m1.1 a2) B 256 := by rw [z1.i (by omega)]; exact hB
      have es : sumN g (t + 1) = sumN g t + g t := rfl
      have hl : (u >>> t) &&& 1 ≤ 1 := Nat.and_le_right
      have core : (b = true → sumN g t = 0) → ((¬ (mm_shr (nI u) (nI t)) &&& (nI 1) = 0) → (mm_wp (d + (f + 1) + 1) sn kX11_waysFrom 56 [some (.ref 82), some (.ref a1), some (.ref a2), some (.int (nI p)), some (.int (nI u)), some (.int (nI b.toNat)), some (.int (nI (if b = true then (decide (0 < sumN g t)).toNat else sumN g t))), some (.int (nI t + nI 1))] [] m1 (qI P))) ∧ (¬ (¬ (mm_shr (nI u) (nI t)) &&& (nI 1) = 0) → (vp_in (nI p) 8 ∧ (∀ m2 : mm_Mem, m2 = (mm_u2 m1.1 175 (nI p).toNatClampNeg (nI t), m1.2) → (mm_sp (d + (f + 1) + 1) sn kX11_waysFrom [.ref 82, .ref a1, .ref a2, .int (nI p + (nI 1)), .int (nI u ||| (mm_shl (nI 1) (nI t))), .int (nI b.toNat)] m2 (qI fun x5 m3 => mm_wp (d + (f + 1) + 1) sn kX11_waysFrom 56 [some (.ref 82), some (.ref a1), some (.ref a2), some (.int (nI p)), some (.int (nI u)), some (.int (nI b.toNat)), some (.int (nI (if b = true then (decide (0 < sumN g t)).toNat else sumN g t) + x5)), some (.int (nI t + nI 1))] [] m3 (qI P)))))) := by
        intro hz
        rw [e_shr (by omega) (by omega), e_and, e_eq0 (by omega), e_bit0, e_bt, e_add, e_add, e_shl (by omega), e_or, e_vin (by omega) (by omega), e_cl (by omega)]
        refine ⟨fun c => ?_, fun c => ⟨by omega, fun m2 q2 => ?_⟩⟩
        · have c : u.testBit t = true := by simpa using c
          have e0 : g t = 0 := by rw [gt, if_pos c]
          have ih := ih m1 z1 g1
          rw [es, e0, Nat.add_zero] at ih
          exact ih
        · have c : u.testBit t = false := by simpa using c
          have eg : g t = wfN A B n f (ud L p t) (p + 1) (u ||| 1 <<< t) := by rw [gt, if_neg (by rw [c]; decide)]
          have z2 : fz 175 175 m1 m2 := by subst q2; exact fz_u2 (by omega) (by omega)
          have u2 : ∀ x, m2.1 175 x = if x = p then nI t else m1.1 175 x := by
            intro x
            subst q2
            simp only [e_u2, true_and]
          have hu2 : u ||| 1 <<< t < 256 := Nat.or_lt_two_pow (n := 8) hu (shl_lt (by omega))
          refine mm_sp.up (m_waysFrom h1 h2 hne hn f (d := d) (L := ud L p t) (by omega) hu2 (by rw [z2.i (by omega)]; exact hN1) (by rw [z2.i (by omega)]; exact hA1) (by rw [z2.i (by omega)]; exact hB1) (fun q hq => ?_) (fun q hq => ?_) ?_) (by omega)
          · rw [u2]
            by_cases e : q = p
            · rw [if_pos e, e, ud_s]
            · rw [if_neg e, ud_n e, g1 q (by omega)]; exact hL q (by omega)
          · by_cases e : q = p
            · rw [e, ud_s]; exact ht
            · rw [ud_n e]; exact hL8 q (by omega)
          · intro m3 z3 g3
            have ih := ih m3 ((z1.trans z2).trans z3) (fun q hq => by rw [g3 q (by omega), u2, if_neg (by omega), g1 q hq])
            rw [e_add]
            have ev : (if b = true then (decide (0 < sumN g t)).toNat else sumN g t) + resW A B n b f (ud L p t) (p + 1) (u ||| 1 <<< t) = if b = true then (decide (0 < sumN g (t + 1))).toNat else sumN g (t + 1) := by
              unfold resW
              rw [← eg, es]
              cases b with
              | false => rfl
              | true =>
                rw [hz rfl, Nat.zero_add]
                rw [if_pos rfl, if_pos rfl]
                exact Nat.zero_add _
            rw [ev]
            exact ih
      refine v_X11_waysFrom_56 h1 h2 ?_
      rw [hN1]
      refine e_vF (by rw [e_le (by omega) (by omega)]; omega) ?_
      cases b with
      | false => exact e_vT (by decide) (core (fun e => by cases e))
      | true =>
        refine e_vF (by decide) ?_
        rw [if_pos rfl, e_b0]
        by_cases hz : 0 < sumN g t
        · rw [decide_eq_true hz]
          refine e_vT (by decide) ?_
          have := h m1 z1 g1
          unfold resW at this
          have hm := sumN_mono (g := g) (show t ≤ n by omega)
          rw [if_pos rfl, hw, decide_eq_true (by omega)] at this
          exact this
        · have c := core (fun _ => by omega)
          rw [if_pos rfl, decide_eq_false hz] at c
          rw [decide_eq_false hz]
          exact e_vF (by decide) c
theorem m_areAlike {d sn a1 a2 n : Nat} {A B : Nat → Bool} {m : mm_Mem} {P : Int32 → mm_Mem → Prop} (h1 : shZ a1) (h2 : shZ a2) (hne : a1 ≠ 175 ∧ a2 ≠ 175) (hn : n ≤ 8) (hN : m.1 83 0 = nI n) (hA : rZ (m.1 a1) A 256) (hB : rZ (m.1 a2) B 256) (h : ∀ m', fz 175 175 m m' → P (nI (decide (cN A 256 = cN B 256) && decide (0 < wfN A B n n idL 0 0)).toNat) m') : mm_sp (d + 12) sn kX11_areAlike [.ref 82, .ref a1, .ref a2] m (qI P) := by
  refine v_X11_areAlike h1 h2 (m_many h1 hA (m_many h2 hB ?_))
  have l1 := cN_le A 256
  have l2 := cN_le B 256
  rw [e_eq (by omega) (by omega)]
  refine ⟨fun c => ?_, fun c => ?_⟩
  · have := h m fz.refl
    rw [decide_eq_false c] at this
    exact this
  · have c := Classical.not_not.mp c
    refine mm_sp.up (m_waysFrom (b := true) h1 h2 hne hn n (d := 0) (L := idL) (by omega) (by omega) hN hA hB (fun q hq => by omega) (fun q hq => by omega) ?_) (by omega)
    intro m1 z1 _
    have := h m1 z1
    rw [decide_eq_true c, Bool.true_and] at this
    unfold resW
    rw [if_pos rfl]
    by_cases e : 0 < wfN A B n n idL 0 0
    · rw [decide_eq_true e] at this ⊢
      exact e_vF (by decide) this
    · rw [decide_eq_false e] at this ⊢
      exact e_vT (by decide) this
theorem okB_hi {n K : Nat} {B : Nat → Bool} (h : okB n K B) : (∀ s, 2 ^ n ≤ s → s < 256 → B s = false) ∧ B 0 = false := by
  refine ⟨fun s h1 h2 => ?_, ?_⟩
  · cases e : B s with
    | false => rfl
    | true => have := (h.2.2 s h2 e).1; omega
  · cases e : B 0 with
    | false => rfl
    | true =>
      have h3 := (h.2.2 0 (by omega) e).2
      have h1 := h.1
      have : bc 0 = 0 := by decide
      omega
theorem mI_175 {X : GS} {m m' : mm_Mem} (hX : okX X) (h : fz 175 175 m m') (hI : mI X m) : mI X m' := mI_sc hX (h.wide (by omega) (by omega)) hI
theorem m_alike {d sn : Nat} {X : GS} {v w : Int32} {m : mm_Mem} {P : Int32 → mm_Mem → Prop} (hX : okX X) (hI : mI X m) (h : ∀ m', fz 82 211 m m' → mI X m' → P (A_alike X.1 v w) m') : mm_sp (d + 13) sn kX11_alike [.ref 82, .int v, .int w] m (qI P) := by
  refine v_X11_alike ?_
  have hC := hX.1.2.1.2
  have hN := hX.1.1
  unfold A_alike at h
  refine m_isDesign hI.1.1.2.2.2 hC (e_vz (fun e => ?_) (fun e => ?_))
  · rw [if_pos (Or.inl e)] at h
    exact h m fz.refl hI
  · refine m_isDesign hI.1.1.2.2.2 hC (e_vb (fun e2 => ?_) (fun e2 => ?_))
    · rw [if_neg (fun hh => hh.elim (nz e) (nz e2))] at h
      obtain ⟨i, hi, rfl⟩ := iz_t (by omega) e
      obtain ⟨j, hj, rfl⟩ := iz_t (by omega) e2
      rw [e_cl (by omega), e_cl (by omega)] at h
      rw [hI.1.1.1, e_eq (by omega) (by omega)]
      refine ⟨fun c => ?_, fun c => ?_⟩
      · rw [if_neg c] at h
        have eA : 86 + (1 + i) = 86 + 1 + i := by omega
        have eB : 86 + (1 + j) = 86 + 1 + j := by omega
        obtain ⟨a1, a2⟩ := okB_hi (hX.1.2.2.2.2 i hi)
        obtain ⟨b1, b2⟩ := okB_hi (hX.1.2.2.2.2 j hj)
        refine ⟨1 + i, by omega, e_add, 1 + j, by omega, e_add, m_areAlike (A := sD X.1 i) (B := sD X.1 j) (shZ_q (by omega)) (shZ_q (by omega)) (by omega) hN.2 hI.1.1.1 (by rw [eA]; exact hI.1.2.2.2.2 i hi) (by rw [eB]; exact hI.1.2.2.2.2 j hj) ?_⟩
        intro m1 z1
        have h := h m1 (z1.wide (by omega) (by omega)) (mI_175 hX z1 hI)
        rw [alike_eq hN.2 a1 b1 (a2.trans b2.symm)]
        refine e_vz (fun e3 => ?_) (fun e3 => ?_)
        · rw [e3] at h; exact h
        · rw [e3] at h; exact h
      · rw [if_pos (Classical.not_not.mp c)] at h
        exact h m fz.refl hI
    · rw [if_pos (Or.inr e2)] at h
      exact h m fz.refl hI
theorem m_selves {d sn : Nat} {X : GS} {v : Int32} {m : mm_Mem} {P : Int32 → mm_Mem → Prop} (hX : okX X) (hI : mI X m) (h : ∀ m', fz 82 211 m m' → mI X m' → P (A_selves X.1 v) m') : mm_sp (d + 13) sn kX11_selves [.ref 82, .int v] m (qI P) := by
  refine v_X11_selves ?_
  have hC := hX.1.2.1.2
  have hN := hX.1.1
  unfold A_selves at h
  refine m_isDesign hI.1.1.2.2.2 hC (e_vb (fun e => ?_) (fun e => ?_))
  · rw [if_neg (nz e)] at h
    obtain ⟨i, hi, rfl⟩ := iz_t (by omega) e
    rw [e_cl (by omega)] at h
    rw [hI.1.1.1, e_eq (by omega) (by omega)]
    refine ⟨fun c => ?_, fun c => ?_⟩
    · rw [if_neg c] at h
      have eA : 86 + (1 + i) = 86 + 1 + i := by omega
      have hB : rZ (m.1 (86 + (1 + i))) (sD X.1 i) 256 := by rw [eA]; exact hI.1.2.2.2.2 i hi
      refine ⟨1 + i, by omega, e_add, 1 + i, by omega, e_add, mm_sp.up (m_waysFrom (b := false) (n := sN X.1) (shZ_q (by omega)) (shZ_q (by omega)) (by omega) hN.2 (sN X.1) (d := 0) (L := idL) (by omega) (by omega) hI.1.1.1 hB hB (fun q hq => by omega) (fun q hq => by omega) ?_) (by omega)⟩
      intro m1 z1 _
      have h := h m1 (z1.wide (by omega) (by omega)) (mI_175 hX z1 hI)
      rw [self_eq hN.2] at h
      exact h
    · rw [if_pos (Classical.not_not.mp c)] at h
      exact h m fz.refl hI
  · rw [if_pos e] at h
    exact h m fz.refl hI
