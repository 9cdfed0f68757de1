-- THE MODEL: unlike
theorem mv_0 {T : Nat → Nat} {n : Nat} : mvN T 0 n = 0 := by
  apply Nat.eq_of_testBit_eq
  intro i
  rw [Nat.zero_testBit]
  cases e : (mvN T 0 n).testBit i with
  | false => rfl
  | true =>
    obtain ⟨p, _, h, _⟩ := mv_iff.mp e
    rw [Nat.zero_testBit] at h; cases h
theorem mv_pos {T : Nat → Nat} {n s : Nat} (hT : okT n T) (hs : s < 2 ^ n) (h : 1 ≤ s) : 1 ≤ mvN T s n := by
  rcases Nat.eq_zero_or_pos (mvN T s n) with e | e
  · have := mv_inj hT hs (Nat.two_pow_pos n) (e.trans mv_0.symm)
    omega
  · exact e
theorem cp_all {A B : Nat → Bool} {n : Nat} : cpN A B n n idL 0 0 = true ↔ ∃ T, okT n T ∧ ∀ s, 1 ≤ s → s < 2 ^ n → A s = B (mvN T s n) := by
  rw [cp_iff n (by omega) usd_0]
  exact ⟨fun ⟨T, h1, _, h3⟩ => ⟨T, h1, h3⟩, fun ⟨T, h1, h3⟩ => ⟨T, h1, fun q hq => by omega, h3⟩⟩
theorem cp_sym {A B : Nat → Bool} {n : Nat} (h : cpN A B n n idL 0 0 = true) : cpN B A n n idL 0 0 = true := by
  obtain ⟨T, h1, h2⟩ := cp_all.mp h
  refine cp_all.mpr ⟨inv n T, inv_ok h1, fun s g1 g2 => ?_⟩
  rw [h2 _ (mv_pos (inv_ok h1) g2 g1) (mv_lt2 (inv_ok h1).1), mv_inv h1 g2]
theorem cp_trans {A B C : Nat → Bool} {n : Nat} (h : cpN A B n n idL 0 0 = true) (g : cpN B C n n idL 0 0 = true) : cpN A C n n idL 0 0 = true := by
  obtain ⟨T, h1, h2⟩ := cp_all.mp h
  obtain ⟨U, g1, g2⟩ := cp_all.mp g
  refine cp_all.mpr ⟨fun p => U (T p), comp_ok g1 h1, fun s k1 k2 => ?_⟩
  rw [mv_comp h1.1, h2 s k1 k2, g2 _ (mv_pos h1 k2 k1) (mv_lt2 h1.1)]
/-- one that is like an earlier one is like an earlier new one -/
theorem new_least {num : Nat → Option Nat} {k n : Nat} {st : NS} : ∀ (i : Nat), newB num k n st i = false → ∃ e, e < i ∧ newB num k n st e = true ∧ cpN (chs num k (ear st e)) (chs num k (ear st i)) n n idL 0 0 = true := by
  intro i
  induction i using Nat.strongRecOn with
  | ind i ih =>
    intro h
    have hx : ∃ e, e < i ∧ cpN (chs num k (ear st i)) (chs num k (ear st e)) n n idL 0 0 = true := by
      refine Classical.byContradiction fun hc => ?_
      have : newB num k n st i = true := alN_t (fun e he => by
        cases e2 : cpN (chs num k (ear st i)) (chs num k (ear st e)) n n idL 0 0 with
        | false => rfl
        | true => exact absurd ⟨e, he, e2⟩ hc)
      rw [h] at this; cases this
    obtain ⟨e, he, h1⟩ := hx
    cases e2 : newB num k n st e with
    | true => exact ⟨e, he, e2, cp_sym h1⟩
    | false =>
      obtain ⟨e', he', g1, g2⟩ := ih e he e2
      exact ⟨e', by omega, g1, cp_trans g2 (cp_sym h1)⟩
theorem cN_nth {ok : Nat → Bool} : ∀ {N i : Nat}, i < cN ok N → ∃ ch, ch < N ∧ ok ch = true ∧ cN ok ch = i
  | 0, i, h => absurd h (Nat.not_lt_zero i)
  | N + 1, i, h => by
    by_cases e : i < cN ok N
    · obtain ⟨ch, h1, h2, h3⟩ := cN_nth e
      exact ⟨ch, by omega, h2, h3⟩
    · cases e2 : ok N with
      | false => rw [cN_f e2] at h; omega
      | true => rw [cN_t e2] at h; exact ⟨N, by omega, e2, by omega⟩
theorem bc_0 : cN (fun x => bc x == 0) 256 = 1 := by decide +kernel
theorem amt_00 {S : St} (hok : okS S) : (fndS S).2 0 = 1 := by
  have h1 := amt_1 hok (Nat.zero_le (sN S))
  have h2 := (fnd_oF hok).2.2.2 0
  have h3 := cN_mono (p := fun x => bc x == 0) (p2_le hok.1.2)
  rw [bc_0] at h3
  omega
theorem chs_00 {S : St} {t k aim c e : Nat} (hok : okS S) (htk : t ≤ k) (hk : k ≤ sN S) (ha : 1 ≤ aim) (hc : slB (tA S t k) ((fndS S).2 t) ((fndS S).2 k) aim c = true) (he : slB (tA S t k) ((fndS S).2 t) ((fndS S).2 k) aim e = true) : chs (fndS S).1 k c 0 = chs (fndS S).1 k e 0 := by
  by_cases hk0 : k = 0
  · subst hk0
    have ht0 : t = 0 := by omega
    subst ht0
    rw [amt_00 hok] at hc he
    have g : ∀ x, slB (tA S 0 0) 1 1 aim x = true → x.testBit 0 = true := by
      intro x hx
      have := beq_iff_eq.mp (alN_of hx 0 (by omega))
      cases ex : x.testBit 0 with
      | true => rfl
      | false =>
        have e2 : smN (tA S 0 0 0) x 1 = 0 + if x.testBit 0 = true then tA S 0 0 0 0 else 0 := rfl
        rw [e2, ex, if_neg (by decide)] at this
        omega
    obtain ⟨o, ho, hoa⟩ := fnd_some hok (Nat.two_pow_pos (sN S))
    have b0 : bc 0 = 0 := by decide
    rw [b0, amt_00 hok] at hoa
    have : o = 0 := by omega
    subst this
    rw [chs_eq ho, chs_eq ho, g c hc, g e he]
  · have b0 : bc 0 ≠ k := by
      have : bc 0 = 0 := by decide
      omega
    have g : ∀ x, chs (fndS S).1 k x 0 = false := by
      intro x
      unfold chs
      split
      · rfl
      · rw [beq_eq_false_iff_ne.mpr b0, Bool.and_false]
    rw [g, g]
theorem chs_hi {S : St} {k c : Nat} (hok : okS S) : ∀ s, 2 ^ sN S ≤ s → s < 256 → chs (fndS S).1 k c s = false := fun s h1 _ => chs_0 (fnd_none hok (by omega))
theorem m_unlike {d sn : Nat} {X : GS} {t k a : Int32} {m : mm_Mem} {P : Int32 → mm_Mem → Prop} (hX : okX X) (hI : mI X m) (h : ∀ m', fz 82 211 m m' → mI X m' → P (A_unlike X.1 t k a) m') : mm_sp (d + 14) sn kX11_unlike [.ref 82, .int t, .int k, .int a] m (qI P) := by
  refine v_X11_unlike ?_
  have hN := hX.1.1
  have hp8 := p2_le hN.2
  have hp0 := Nat.two_pow_pos (sN X.1)
  unfold A_unlike at h
  refine m_areSizes hI.1.1.1 hN.2 (e_vz (fun e => ?_) (fun e => ?_))
  · rw [if_pos e] at h
    exact h m fz.refl hI
  · rw [if_neg (nz e)] at h
    obtain ⟨t, k, htk, hk, rfl, rfl⟩ := szs_t hN.2 e
    rw [e_cl (by omega), e_cl (by omega)] at h
    refine s_inAim (e_vb (fun e2 => ?_) (fun e2 => ?_))
    · rw [if_neg (nz e2)] at h
      obtain ⟨a, ha1, ha2, rfl⟩ := imB_t e2
      rw [e_cl (by omega)] at h
      refine mm_sp.up (m_tables (d := 0) hI.1 hX.1 (by omega) hk ?_) (by omega)
      intro m1 z1 hO hT
      have hI1 := mI_t hX z1 hI
      replace h := fun m2 (z2 : fz 174 200 m1 m2) => h m2 ((z1.wide (by omega) (by omega)).trans (z2.wide (by omega) (by omega))) (mI_sc hX (z2.wide (by omega) (by omega)) hI1)
      have hb2 := fnd_70 hX.1 (show k < 11 by omega)
      rw [e_vin (by omega) (by omega), e_cl (by omega), hO.2 k hk, hI1.1.1.1, e_le (by omega) (by omega), e_lt (by omega) (by omega)]
      refine ⟨fun c => ?_, fun c => ⟨by omega, fun hC => ?_, fun hC => ?_⟩⟩
      · rw [if_pos c] at h
        exact h m1 fz.refl
      · rw [if_neg c, if_neg (not_not_intro hC)] at h
        have h14 := p2_14 hC
        refine mm_sp.up (m_nth (d := 0) hX.1 hO hT (by omega) hk hC (by omega) (fun _ => ?_) (fun c3 => absurd c3 (by decide))) (by omega)
        rw [sol_1] at h
        generalize hst : solS X.1 t k a (nI 0) = st at h
        have hst2 : st = itI (slB (tA X.1 t k) ((fndS X.1).2 t) ((fndS X.1).2 k) a) (nI 0) 0 (2 ^ (fndS X.1).2 k) (0, -5, fun _ => 0) := by rw [← hst]; unfold solS; rw [viI_0]
        generalize hok2 : slB (tA X.1 t k) ((fndS X.1).2 t) ((fndS X.1).2 k) a = ok at h hst2
        have hl := cN_le ok (2 ^ (fndS X.1).2 k)
        rw [e_le (by omega) (by omega)]
        refine ⟨fun c4 => ?_, fun c4 => ?_⟩
        · rw [if_neg (by omega)] at h
          generalize hNN : cN ok (2 ^ (fndS X.1).2 k) = N at h c4 hl
          have earP : ∀ i, i < N → ear st i < 2 ^ (fndS X.1).2 k ∧ ok (ear st i) = true ∧ cN ok (ear st i) = i := by
            intro i hi
            obtain ⟨ch, h1, h2, h3⟩ := cN_nth (show i < cN ok (2 ^ (fndS X.1).2 k) by omega)
            have h4 := it_3 (ok := ok) (w := nI 0) (x := -5) (f := fun _ => 0) (2 ^ (fndS X.1).2 k) ch h1 h2 (by omega)
            rw [← hst2, h3] at h4
            have h5 : ear st i = ch := by unfold ear; rw [h4, e_cl (by omega)]
            rw [h5]
            exact ⟨h1, h2, h3⟩
          generalize hnb : newB (fndS X.1).1 k (sN X.1) st = nb at h
          have nbd : ∀ i, nb i = alN (fun e => !cpN (chs (fndS X.1).1 k (ear st i)) (chs (fndS X.1).1 k (ear st e)) (sN X.1) (sN X.1) idL 0 0) i := fun i => by rw [← hnb]; rfl
          have nbl : ∀ i, nb i = false → ∃ e, e < i ∧ nb e = true ∧ cpN (chs (fndS X.1).1 k (ear st e)) (chs (fndS X.1).1 k (ear st i)) (sN X.1) (sN X.1) idL 0 0 = true := fun i hi => by
            rw [← hnb] at hi ⊢
            exact new_least i hi
          have key : ∀ i, i ≤ N → ∀ m2, fz 174 200 m1 m2 → (∀ o, o < cN nb i → ∃ e, e < i ∧ rZ (m2.1 (177 + o)) (chs (fndS X.1).1 k (ear st e)) 256) → (∀ e, e < i → nb e = true → ∃ o, o < cN nb i ∧ rZ (m2.1 (177 + o)) (chs (fndS X.1).1 k (ear st e)) 256) → mm_wp (d + 13) sn kX11_unlike 81 [some (.ref 82), some (.int (nI t)), some (.int (nI k)), some (.int (nI a)), some (.int (nI N)), some (.int (nI (cN nb i))), some (.int (nI i)), none, none, none] [] m2 (qI P) := by
            intro i hi
            have hli := cN_le nb i
            refine lp_up (W := fun i => ∀ m2, fz 174 200 m1 m2 → (∀ o, o < cN nb i → ∃ e, e < i ∧ rZ (m2.1 (177 + o)) (chs (fndS X.1).1 k (ear st e)) 256) → (∀ e, e < i → nb e = true → ∃ o, o < cN nb i ∧ rZ (m2.1 (177 + o)) (chs (fndS X.1).1 k (ear st e)) 256) → mm_wp (d + 13) sn kX11_unlike 81 [some (.ref 82), some (.int (nI t)), some (.int (nI k)), some (.int (nI a)), some (.int (nI N)), some (.int (nI (cN nb i))), some (.int (nI i)), none, none, none] [] m2 (qI P)) hi ?_ ?_
            · intro m2 z2 _ _
              exact v_X11_unlike_81 (e_vT (Int32.le_refl _) (h m2 z2))
            · intro i _ hi ih m2 z2 g1 g2
              have hli := cN_le nb i
              have hO2 : ∀ m', fz 174 200 m1 m' → rOm (sN X.1) (fndS X.1).1 (fndS X.1).2 m' := fun m' z => ⟨fun s hs => by rw [z.i (by omega)]; exact hO.1 s hs, fun x hx => by rw [z.i (by omega)]; exact hO.2 x hx⟩
              have hT2 : rTb X.1 t k m2 := ⟨fun i hi j hj => by
                have := fnd_70 hX.1 (show t < 11 by omega)
                rw [z2.i (by omega)]; exact hT.1 i hi j hj, fun j hj => by rw [z2.i (by omega)]; exact hT.2 j hj⟩
              obtain ⟨r1, r2, r3⟩ := earP i hi
              refine v_X11_unlike_81 (e_vF (by rw [e_le (by omega) (by omega)]; omega) ?_)
              refine mm_sp.up (m_nth (d := 0) (w := nI i) hX.1 (hO2 m2 z2) hT2 (by omega) hk hC (by omega) (fun c5 => absurd (by rw [e_0le (by omega)]; trivial) c5) (fun _ => ?_)) (by omega)
              rw [viI_0, hok2, (it_2 (ok := ok) (w := nI i) (f := fun _ => 0) (2 ^ (fndS X.1).2 k) (by omega)).1 (ear st i) r1 r2 (by rw [r3])]
              generalize hF : cN nb i = F at *
              have hF24 : F < 24 := by omega
              have hzF : shZ (177 + F) := (mm_sols F hF24).2
              refine lp_up (W := fun s => ∀ m3, fr [177 + F] m2 m3 → rZ (m3.1 (177 + F)) (chs (fndS X.1).1 k (ear st i)) s → mm_wp (d + 13) sn kX11_unlike 102 [some (.ref 82), some (.int (nI t)), some (.int (nI k)), some (.int (nI a)), some (.int (nI N)), some (.int (nI F)), some (.int (nI i)), some (.int (nI (ear st i))), some (.int (nI s)), none] [] m3 (qI P)) (Nat.zero_le 256) ?_ ?_ m2 fr.refl (fun s hs => by omega)
              · intro m3 f3 g3
                have z3 : fz 174 200 m1 m3 := z2.trans (fun a ha => f3 a (by simp; omega))
                refine v_X11_unlike_102 (e_vT (by decide) ?_)
                have fin : ∀ m4, fz 175 175 m3 m4 → ∀ b : Bool, b = nb i → mm_wp (d + 13) sn kX11_unlike 81 [some (.ref 82), some (.int (nI t)), some (.int (nI k)), some (.int (nI a)), some (.int (nI N)), some (.int (nI (F + b.toNat))), some (.int (nI (i + 1))), none, none, none] [] m4 (qI P) := by
                  intro m4 z4 b eb
                  have es : cN nb (i + 1) = F + b.toNat := by rw [eb, ← hF]; rfl
                  rw [es] at ih
                  have z14 : fz 174 200 m1 m4 := z3.trans (z4.wide (by omega) (by omega))
                  have old : ∀ o, o < F → m4.1 (177 + o) = m2.1 (177 + o) := fun o ho => by rw [z4.i (by omega), f3.i (by simp; omega)]
                  have new : rZ (m4.1 (177 + F)) (chs (fndS X.1).1 k (ear st i)) 256 := by rw [z4.i (by omega)]; exact g3
                  have hb1 : b.toNat ≤ 1 := Bool.toNat_le _
                  refine ih m4 z14 (fun o ho => ?_) (fun e he hn => ?_)
                  · by_cases e5 : o < F
                    · obtain ⟨e, h1, h2⟩ := g1 o e5
                      exact ⟨e, by omega, by rw [old o e5]; exact h2⟩
                    · have : o = F := by omega
                      subst this
                      exact ⟨i, by omega, new⟩
                  · by_cases e5 : e = i
                    · subst e5
                      rw [hn] at eb
                      subst eb
                      exact ⟨F, Nat.lt_succ_self F, new⟩
                    · obtain ⟨o, h1, h2⟩ := g2 e (by omega) hn
                      exact ⟨o, by omega, by rw [old o h1]; exact h2⟩
                have fin0 : ∀ m4, fz 175 175 m3 m4 → nb i = false → mm_wp (d + 13) sn kX11_unlike 81 [some (.ref 82), some (.int (nI t)), some (.int (nI k)), some (.int (nI a)), some (.int (nI N)), some (.int (nI F + nI 0)), some (.int (nI i + nI 1)), none, none, none] [] m4 (qI P) := fun m4 z4 e => by
                  have := fin m4 z4 false e.symm
                  rw [e_add, e_add]
                  exact this
                have fin1 : ∀ m4, fz 175 175 m3 m4 → nb i = true → mm_wp (d + 13) sn kX11_unlike 81 [some (.ref 82), some (.int (nI t)), some (.int (nI k)), some (.int (nI a)), some (.int (nI N)), some (.int (nI F + nI 1)), some (.int (nI i + nI 1)), none, none, none] [] m4 (qI P) := fun m4 z4 e => by
                  have := fin m4 z4 true e.symm
                  rw [e_add, e_add]
                  exact this
                have set_o : ∀ o, o < F → ∀ m4, fz 175 175 m3 m4 → ∃ e, e < i ∧ rZ (m4.1 (177 + o)) (chs (fndS X.1).1 k (ear st e)) 256 := fun o ho m4 z4 => by
                  obtain ⟨e, h1, h2⟩ := g1 o ho
                  exact ⟨e, h1, by rw [z4.i (by omega), f3.i (by simp; omega)]; exact h2⟩
                have like : ∀ e, e < i → cpN (chs (fndS X.1).1 k (ear st e)) (chs (fndS X.1).1 k (ear st i)) (sN X.1) (sN X.1) idL 0 0 = true → nb i = false := fun e he hc => by
                  rw [nbd]
                  exact alN_f (p := fun e => !cpN (chs (fndS X.1).1 k (ear st i)) (chs (fndS X.1).1 k (ear st e)) (sN X.1) (sN X.1) idL 0 0) (s := e) (by rw [cp_sym hc]; rfl) he
                refine lp_up (W := fun o => ∀ m4, fz 175 175 m3 m4 → (∀ o', o' < o → ∀ e, e < i → rZ (m3.1 (177 + o')) (chs (fndS X.1).1 k (ear st e)) 256 → cpN (chs (fndS X.1).1 k (ear st e)) (chs (fndS X.1).1 k (ear st i)) (sN X.1) (sN X.1) idL 0 0 = false) → mm_wp (d + 13) sn kX11_unlike 171 [some (.ref 82), some (.int (nI t)), some (.int (nI k)), some (.int (nI a)), some (.int (nI N)), some (.int (nI F)), some (.int (nI i)), none, some (.int (nI 1)), some (.int (nI o))] [] m4 (qI P)) (Nat.zero_le F) ?_ ?_ m3 fz.refl (fun o' ho' => by omega)
                · intro m4 z4 g4
                  refine v_X11_unlike_171 (e_vT (Int32.le_refl _) (e_vF (by decide) (fin1 m4 z4 ?_)))
                  cases e5 : nb i with
                  | true => rfl
                  | false =>
                    obtain ⟨e, k1, k2, k3⟩ := nbl i e5
                    obtain ⟨o, o1, o2⟩ := g2 e k1 k2
                    have := g4 o o1 e k1 (by rw [f3.i (by simp; omega)]; exact o2)
                    rw [k3] at this; cases this
                · intro o _ ho iho m4 z4 g4
                  obtain ⟨e, k1, k2⟩ := set_o o ho m4 z4
                  refine v_X11_unlike_171 (e_vF (by rw [e_le (by omega) (by omega)]; omega) (e_vF (by decide) ⟨o, by omega, rfl, F, hF24, rfl, ?_⟩))
                  have hN4 : m4.1 83 0 = nI (sN X.1) := by rw [z4.i (by omega), z3.i (by omega)]; exact hI1.1.1.1
                  refine mm_sp.up (m_areAlike (d := 0) (mm_sols o (by omega)).2 hzF (by omega) hN.2 hN4 k2 (by rw [z4.i (by omega)]; exact g3) ?_) (by omega)
                  intro m5 z5
                  obtain ⟨q1, q2, q3⟩ := earP e (by omega)
                  rw [alike_eq hN.2 (chs_hi hX.1) (chs_hi hX.1) (chs_00 hX.1 htk hk ha1 (by rw [hok2]; exact q2) (by rw [hok2]; exact r2)), e_add]
                  refine e_vb (fun e6 => ?_) (fun e6 => ?_)
                  · have hf := like e k1 e6
                    refine v_X11_unlike_171 ⟨fun _ => e_vT (by decide) (fin0 m5 (z4.trans z5) hf), fun _ => e_vT (by decide) (e_vT (by decide) (fin0 m5 (z4.trans z5) hf))⟩
                  · refine iho m5 (z4.trans z5) (fun o' ho' e' he' hr => ?_)
                    by_cases e7 : o' = o
                    · subst e7
                      have ez : ∀ s, s < 256 → chs (fndS X.1).1 k (ear st e') s = chs (fndS X.1).1 k (ear st e) s := fun s hs => by
                        have a1 := hr s hs
                        have a2 := k2 s hs
                        rw [z4.i (by omega), a1] at a2
                        cases b1 : chs (fndS X.1).1 k (ear st e') s <;> cases b2 : chs (fndS X.1).1 k (ear st e) s
                        · rfl
                        · rw [b1, b2] at a2; exact absurd a2 (by decide)
                        · rw [b1, b2] at a2; exact absurd a2 (by decide)
                        · rfl
                      cases e8 : cpN (chs (fndS X.1).1 k (ear st e')) (chs (fndS X.1).1 k (ear st i)) (sN X.1) (sN X.1) idL 0 0 with
                      | false => rfl
                      | true =>
                        obtain ⟨T, t1, t2⟩ := cp_all.mp e8
                        have : cpN (chs (fndS X.1).1 k (ear st e)) (chs (fndS X.1).1 k (ear st i)) (sN X.1) (sN X.1) idL 0 0 = true := cp_all.mpr ⟨T, t1, fun s s1 s2 => by rw [← ez s (by omega)]; exact t2 s s1 s2⟩
                        rw [e6] at this; cases this
                    · exact g4 o' (by omega) e' he' hr
              · intro s _ hs ihs m3 f3 g3
                have z3 : fz 174 200 m1 m3 := z2.trans (fun a ha => f3 a (by simp; omega))
                have hN3 : m3.1 83 0 = nI (sN X.1) := by rw [z3.i (by omega)]; exact hI1.1.1.1
                have nxt : ∀ v : Bool, chs (fndS X.1).1 k (ear st i) s = v → ∀ m5 : mm_Mem, m5 = (mm_u2 m3.1 (177 + F) s (nI v.toNat), m3.2) → mm_wp (d + 13) sn kX11_unlike 102 [some (.ref 82), some (.int (nI t)), some (.int (nI k)), some (.int (nI a)), some (.int (nI N)), some (.int (nI F)), some (.int (nI i)), some (.int (nI (ear st i))), some (.int (nI (s + 1))), none] [] m5 (qI P) := by
                  intro v ev m5 q5
                  refine ihs m5 (f3.trans (by subst q5; exact fr_u2 (by simp))) (fun t ht => ?_)
                  subst q5
                  simp only [e_u2, true_and]
                  by_cases e : t = s
                  · subst e; rw [if_pos rfl, ev]
                  · rw [if_neg e]; exact g3 t (by omega)
                refine v_X11_unlike_102 (e_vF (by rw [e_le (by omega) (by omega)]; omega) ⟨F, hF24, rfl, m_whole hN3 hN.2 ?_⟩)
                rw [e_lt (by omega) (by omega), e_vin (by omega) (by omega), e_cl (by omega), e_nar0, e_nar1, e_add]
                refine ⟨fun c5 => ⟨hs, fun m5 q5 => nxt false (chs_0 (fnd_none hX.1 (by omega))) m5 q5⟩, fun c5 => m_size hs ?_⟩
                obtain ⟨o, ho, hoa⟩ := fnd_some hX.1 (show s < 2 ^ sN X.1 by omega)
                have hbs := bc_le s
                have ho2 := (fnd_lt hX.1 ho).1
                have hce := chs_eq (k := k) (c := ear st i) ho
                have hl : (ear st i >>> o) &&& 1 ≤ 1 := Nat.and_le_right
                rw [(hO2 m3 z3).1 s (by omega), ho, oI_s, e_eq (by omega) (by omega)]
                refine ⟨fun c6 => ⟨hs, fun m5 q5 => nxt false (by rw [hce, beq_eq_false_iff_ne.mpr c6, Bool.and_false]) m5 q5⟩, fun c6 => ⟨hs, ?_⟩⟩
                have c6 := Classical.not_not.mp c6
                rw [c6] at hoa
                rw [e_shr (by omega) (by omega), e_and, e_eq (by omega) (by omega), e_bit]
                refine ⟨fun c8 => ⟨hs, fun m5 q5 => nxt false (by rw [hce, Bool.not_eq_true _ |>.mp c8, Bool.and_false, Bool.false_and]) m5 q5⟩, fun c8 => ⟨hs, fun m5 q5 => nxt true ?_ m5 q5⟩⟩
                rw [hce, decide_eq_true (by omega), Classical.not_not.mp c8, beq_iff_eq.mpr c6]
                rfl
          exact key 0 (Nat.zero_le N) m1 fz.refl (fun o ho => absurd ho (Nat.not_lt_zero o)) (fun e he => absurd he (Nat.not_lt_zero e))
        · rw [if_pos (by omega)] at h
          exact h m1 fz.refl
      · rw [if_neg c, if_pos hC] at h
        exact h m1 fz.refl
    · rw [if_pos e2] at h
      exact h m fz.refl hI
