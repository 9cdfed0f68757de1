-- the class's way and hand
def stAdd (k f : Nat) (T : Nat → Nat) (S : St) : St := ((sN S, sW S + 1, sC S, sK S, sB S), (ud (sKd S) (sW S) k, ud (sFg S) (sW S) f, ud (sT S) (sW S) T), S.2.2)
theorem rS_add {b k f : Nat} {T : Nat → Nat} {S : St} {m m1 m2 : mm_Mem} (h4 : sW S < 4 ∧ sC S ≤ 4) (hS : rS b S m) (hf : fr [b + 4 + 2 * sW S, b + 4 + 2 * sW S + 1] m m1) (hY : rY (b + 4 + 2 * sW S) k f T m1) (e2 : m2 = (mm_u2 m1.1 b 1 (m1.1 b 1 + nI 1), m1.2)) : rS b (stAdd k f T S) m2 ∧ m1.1 b 1 = nI (sW S) ∧ fz b (b + 20) m m2 := by
  obtain ⟨g0, g1, g2, gB, gY, gD⟩ := hS
  have h1 : m1.1 b 1 = nI (sW S) := by rw [hf.i (by simp; omega)]; exact g1
  have hf2 : fr [b] m1 m2 := by subst e2; exact fr_u2 (by simp)
  refine ⟨⟨?_, ?_, ?_, ?_, fun i hi => ?_, fun i hi => ?_⟩, h1, (hf.z2 (by omega) (by omega)).trans (hf2.z1 (by omega) (by omega))⟩
  · subst e2
    show mm_u2 m1.1 b 1 (m1.1 b 1 + nI 1) b 0 = nI (sN S)
    rw [u2_j (by omega), hf.i (by simp; omega)]
    exact g0
  · subst e2
    show mm_u2 m1.1 b 1 (m1.1 b 1 + nI 1) b 1 = nI (sW S + 1)
    rw [u2_s, h1, e_add]
  · subst e2
    show mm_u2 m1.1 b 1 (m1.1 b 1 + nI 1) b 2 = nI (sC S)
    rw [u2_j (by omega), hf.i (by simp; omega)]
    exact g2
  · exact fr_rB hf2 (by simp) (by simp; omega) (fr_rB hf (by simp; omega) (by simp; omega) gB)
  · have hi : i < sW S + 1 := hi
    show rY (b + 4 + 2 * i) (ud (sKd S) (sW S) k i) (ud (sFg S) (sW S) f i) (ud (sT S) (sW S) T i) m2
    by_cases e : i = sW S
    · subst e
      rw [ud_s, ud_s, ud_s]
      exact fr_rY hf2 (by simp; omega) (by simp; omega) hY
    · rw [ud_n e, ud_n e, ud_n e]
      exact fr_rY hf2 (by simp; omega) (by simp; omega) (fr_rY hf (by simp; omega) (by simp; omega) (gY i (by omega)))
  · have hi : i < sC S := hi
    exact fr_rB hf2 (by simp; omega) (by simp; omega) (fr_rB hf (by simp; omega) (by simp; omega) (gD i hi))
theorem okS_add {k f : Nat} {T : Nat → Nat} {S : St} (h : okS S) (hw : sW S < 4) (hY : okY (sN S) k f T) : okS (stAdd k f T S) := by
  refine ⟨h.1, ⟨hw, h.2.1.2⟩, h.2.2.1, fun i hi => ?_, h.2.2.2.2⟩
  have hi : i < sW S + 1 := hi
  show okY (sN S) (ud (sKd S) (sW S) k i) (ud (sFg S) (sW S) f i) (ud (sT S) (sW S) T i)
  by_cases e : i = sW S
  · subst e
    rw [ud_s, ud_s, ud_s]; exact hY
  · rw [ud_n e, ud_n e, ud_n e]
    exact h.2.2.2.1 i (by omega)
def tkF (k f n : Nat) : Nat → Nat := fun p => if p < n then tk k f n p else p
theorem tk_all : alN (fun n => alN (fun k => alN (fun f => decide (n < 3) || ((k == 2 && hdc f n) || alN (fun p => alN (fun q => !(tk k f n p == tk k f n q) || p == q) n) n)) 10) 5) 9 = true := by decide +kernel
theorem tk_inj (n : Nat) (h1 : n < 9) (k : Nat) (h2 : k < 5) (f : Nat) (h3 : f < 10) : n < 3 ∨ k = 2 ∧ hdc f n = true ∨ ∀ p, p < n → ∀ q, q < n → tk k f n p = tk k f n q → p = q := by
  have h := alN_of (alN_of (alN_of tk_all n h1) k h2) f h3
  rw [Bool.or_eq_true, Bool.or_eq_true, Bool.and_eq_true, decide_eq_true_iff, beq_iff_eq] at h
  rcases h with h | h | h
  · exact Or.inl h
  · exact Or.inr (Or.inl h)
  · refine Or.inr (Or.inr fun p hp q hq e => ?_)
    have g := alN_of (alN_of h p hp) q hq
    rw [Bool.or_eq_true, e] at g
    rcases g with g | g
    · rw [beq_self_eq_true] at g; cases g
    · exact beq_iff_eq.mp g
theorem tk_okY {k f n : Nat} (hn : 3 ≤ n ∧ n ≤ 8) (hk : k < 5) (hf : f < 10) (hd : k = 2 → hdc f n = false) : okY n k f (tkF k f n) := by
  refine ⟨by omega, by omega, fun p hp => ?_, fun p q hp hq e => ?_, fun p h1 h2 => if_neg (by omega)⟩
  · unfold tkF
    rw [if_pos hp]
    exact tk_lt (by omega) hp
  · unfold tkF at e
    rw [if_pos hp, if_pos hq] at e
    rcases tk_inj n (by omega) k hk f hf with h | h | h
    · omega
    · rw [hd h.1] at h; cases h.2
    · exact h p hp q hq e
/-- what way answers, and what it leaves -/
def W_ok (S : St) (v w : Int32) : Prop := iz v 5 = true ∧ iz w 10 = true ∧ (v = nI 2 → hdc w.toNatClampNeg (sN S) = false)
noncomputable def A_way (S : St) (v w : Int32) : Int32 := if iz v 5 = false then -1 else if iz w 10 = false then -2 else if v = nI 2 ∧ hdc w.toNatClampNeg (sN S) = true then -2 else if sW S = 4 then -4 else nI (sW S)
noncomputable def S_way (S : St) (v w : Int32) : St := if iz v 5 = false then S else if iz w 10 = false then S else if v = nI 2 ∧ hdc w.toNatClampNeg (sN S) = true then S else if sW S = 4 then S else stAdd v.toNatClampNeg w.toNatClampNeg (tkF v.toNatClampNeg w.toNatClampNeg (sN S)) S
theorem okS_way {S : St} {v w : Int32} (h : okS S) : okS (S_way S v w) := by
  unfold S_way
  split
  · exact h
  · split
    · exact h
    · split
      · exact h
      · split
        · exact h
        · next h1 h2 h3 h4 =>
          obtain ⟨k, hk, rfl⟩ := iz_t (n := 5) (by omega) (by simpa using h1)
          obtain ⟨f, hf, rfl⟩ := iz_t (n := 10) (by omega) (by simpa using h2)
          rw [e_cl (by omega), e_cl (by omega)] at *
          have := h.2.1.1
          refine okS_add h (by omega) (tk_okY h.1 hk hf (fun e => ?_))
          subst e
          cases e2 : hdc f (sN S) with
          | false => rfl
          | true => exact absurd ⟨rfl, e2⟩ h3
theorem iz_of {v : Int32} {n : Nat} (h1 : ¬ v < 0) (h2 : v < nI n) : iz v n = true := decide_eq_true ⟨h1, h2⟩
theorem iz_no1 {v : Int32} {n : Nat} (h1 : v < 0) : iz v n = false := decide_eq_false (fun e => e.1 h1)
theorem iz_no2 {v : Int32} {n : Nat} (h1 : ¬ v < nI n) : iz v n = false := decide_eq_false (fun e => h1 e.2)
theorem c_way {d sn : Nat} {X : GS} {v w : Int32} {m : mm_Mem} {P : Int32 → mm_Mem → Prop} (hX : okX X) (hI : cI X m) (h : ∀ m', fz 1 81 m m' → cI (setS X (S_way X.1 v w)) m' → P (A_way X.1 v w) m') : mm_sp (d + 4) sn kX10_way [.ref 1, .int v, .int w] m (qI P) := by
  refine v_X10_way ?_
  have hW := hX.1.2.1.1
  have hN := hX.1.1
  unfold A_way S_way at h
  refine ⟨fun c => ?_, fun c => ⟨fun c2 => ⟨fun c3 => ?_, fun c3 => ⟨fun c4 => ?_, fun c4 => ?_⟩⟩, fun c2 => ?_⟩⟩
  · rw [if_pos (iz_no1 c), if_pos (iz_no1 c)] at h
    exact h m fz.refl hI
  · have e1 := iz_of c c2
    have n1 : ¬ iz v 5 = false := by rw [e1]; decide
    rw [if_neg n1, if_neg n1, if_pos (iz_no1 c3), if_pos (iz_no1 c3)] at h
    exact h m fz.refl hI
  · have e1 := iz_of c c2
    have e2 : iz w 10 = true := by
      rw [iz_1 (n := 9) (by omega)]
      exact decide_eq_true ⟨c3, Int32.not_lt.mpr c4⟩
    have n1 : ¬ iz v 5 = false := by rw [e1]; decide
    have n2 : ¬ iz w 10 = false := by rw [e2]; decide
    rw [if_neg n1, if_neg n1, if_neg n2, if_neg n2] at h
    obtain ⟨k, hk, rfl⟩ := iz_t (n := 5) (by omega) e1
    obtain ⟨f, hf, rfl⟩ := iz_t (n := 10) (by omega) e2
    rw [e_cl (by omega), e_cl (by omega)] at h
    have body : (¬ (nI k = nI 2 ∧ hdc f (sN X.1) = true)) → mm_sp (d + 3) sn kX6_spareWay [.ref 2] m (qR fun x6 m1 => (x6 = none → (P (-4) m1)) ∧ (∀ a7, x6 = some a7 → shY a7 ∧ (mm_sp (d + 3) sn kX9_becomeKind [.ref a7, .int (nI k), .int (nI f), .int (m1.1 2 0)] m1 (qV fun m2 => ∀ m3 : mm_Mem, m3 = (mm_u2 m2.1 2 1 ((m2.1 2 1) + (nI 1)), m2.2) → (P (m2.1 2 1) m3))))) := by
      intro hc
      rw [if_neg hc, if_neg hc] at h
      refine s_spareWay shS_2 hI.1.2.1 hW (fun hw => ?_) (fun hw => ?_)
      · rw [if_neg (by omega), if_neg (by omega)] at h
        refine v_so ⟨shS_y shS_2 hw, ?_⟩
        rw [hI.1.1]
        refine s_becomeKind (shS_y shS_2 hw) hk (by omega) (by omega) ?_
        intro m1 hf1 hY1 m2 e2
        obtain ⟨g1, g2, g3⟩ := rS_add ⟨hw, hX.1.2.1.2⟩ hI.1 hf1 hY1 e2
        rw [g2]
        exact h m2 (g3.wide (by omega) (by omega)) (cI_S hX g3 hI g1)
      · rw [if_pos hw, if_pos hw] at h
        exact v_no (h m fz.refl hI)
    refine ⟨fun c5 => body (fun hc => c5 hc.1), fun c5 => ?_⟩
    have c5 := Classical.not_not.mp c5
    rw [hI.1.1]
    refine s_hdc (by omega) (by omega) (e_vz (fun c6 => body (fun hc => by rw [hc.2] at c6; cases c6)) (fun c6 => ?_))
    rw [if_pos ⟨c5, c6⟩, if_pos ⟨c5, c6⟩] at h
    exact h m fz.refl hI
  · have e1 := iz_of c c2
    have e2 : iz w 10 = false := by
      rw [iz_1 (n := 9) (by omega)]
      exact decide_eq_false (fun e => e.2 (Int32.not_le.mp c4))
    have n1 : ¬ iz v 5 = false := by rw [e1]; decide
    rw [if_neg n1, if_neg n1, if_pos e2, if_pos e2] at h
    exact h m fz.refl hI
  · rw [if_pos (iz_no2 c2), if_pos (iz_no2 c2)] at h
    exact h m fz.refl hI
noncomputable def A_hand (S : St) (v : Int32) : Int32 := @ite _ (v < 0 ∨ ¬ arr (sN S) v.toNatClampNeg) (Classical.propDecidable _) (-2) (if sW S = 4 then -4 else nI (sW S))
noncomputable def S_hand (S : St) (v : Int32) : St := @ite _ (v < 0 ∨ ¬ arr (sN S) v.toNatClampNeg) (Classical.propDecidable _) S (if sW S = 4 then S else stAdd 5 0 (hd (sN S) v.toNatClampNeg) S)
theorem arr_okY {n D : Nat} (h : arr n D) : okY n 5 0 (hd n D) := by
  refine ⟨by omega, by omega, fun p hp => ?_, fun p q hp hq e => ?_, fun p h1 h2 => if_neg (by omega)⟩
  · have := h.1 (n - 1 - p) (by omega)
    unfold hd
    unfold dg at this
    rw [if_pos hp]
    omega
  · have h1 := h.1 (n - 1 - p) (by omega)
    have h2 := h.1 (n - 1 - q) (by omega)
    unfold hd at e
    rw [if_pos hp, if_pos hq] at e
    unfold dg at h1 h2
    have := h.2.1 (n - 1 - p) (n - 1 - q) (by omega) (by omega) (by unfold dg; omega)
    omega
theorem okS_hand {S : St} {v : Int32} (h : okS S) : okS (S_hand S v) := by
  unfold S_hand
  split
  · exact h
  · split
    · exact h
    · next h1 h2 =>
      have := h.2.1.1
      exact okS_add h (by omega) (arr_okY (Classical.byContradiction fun e => h1 (Or.inr e)))
theorem c_hand {d sn : Nat} {X : GS} {v : Int32} {m : mm_Mem} {P : Int32 → mm_Mem → Prop} (hX : okX X) (hI : cI X m) (h : ∀ m', fz 1 81 m m' → cI (setS X (S_hand X.1 v)) m' → P (A_hand X.1 v) m') : mm_sp (d + 3) sn kX10_hand [.ref 1, .int v] m (qI P) := by
  refine v_X10_hand ?_
  have hW := hX.1.2.1.1
  have hN := hX.1.1
  unfold A_hand S_hand at h
  rw [hI.1.1]
  refine s_isArr (by omega) (fun D hD e hA => ?_) (fun hno => ?_)
  · subst e
    rw [e_cl hD] at h
    have hc : ¬ (nI D < 0 ∨ ¬ arr (sN X.1) D) := by
      rintro (c | c)
      · rw [e_lt0 hD] at c; exact c
      · exact c hA
    rw [if_neg hc, if_neg hc] at h
    refine e_vT (by decide) ?_
    refine s_spareWay shS_2 hI.1.2.1 hW (fun hw => ?_) (fun hw => ?_)
    · rw [if_neg (by omega), if_neg (by omega)] at h
      refine v_so ⟨shS_y shS_2 hw, ?_⟩
      rw [hI.1.1]
      refine s_becomeByHand (shS_y shS_2 hw) hD (by omega) (fun i hi => (hA.1 i hi).1) ?_
      intro m1 hf1 hY1 m2 e2
      obtain ⟨g1, g2, g3⟩ := rS_add ⟨hw, hX.1.2.1.2⟩ hI.1 hf1 hY1 e2
      rw [g2]
      exact h m2 (g3.wide (by omega) (by omega)) (cI_S hX g3 hI g1)
    · rw [if_pos hw, if_pos hw] at h
      exact v_no (h m fz.refl hI)
  · refine e_vF (by decide) ?_
    have hc : v < 0 ∨ ¬ arr (sN X.1) v.toNatClampNeg := by
      by_cases hv : v < 0
      · exact Or.inl hv
      · refine Or.inr ?_
        rcases pk_ix v (n := 2147483647) (by omega) with c | c | ⟨j, c1, c2⟩
        · exact absurd c hv
        · have e : v = nI 2147483647 := by
            rw [Int32.le_iff_toInt_le, nI_toInt (by omega)] at c
            have := v.toInt_lt
            rw [← Int32.toInt_inj, nI_toInt (by omega)]
            omega
          rw [e, e_cl (by omega)]
          exact hno _ (by omega) e
        · rw [c2, e_cl (by omega)]
          exact hno j (by omega) c2
    rw [if_pos hc, if_pos hc] at h
    exact h m fz.refl hI
