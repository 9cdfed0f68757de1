-- THE MODEL: way
theorem nz {b : Bool} (h : b = true) : ¬ b = false := by rw [h]; decide
theorem nt {b : Bool} (h : b = false) : ¬ b = true := by rw [h]; decide
theorem mI_sc {X : GS} {m m' : mm_Mem} (hX : okX X) (h : fz 97 200 m m') (hI : mI X m) : mI X m' := by
  obtain ⟨g1, g2, g3, g4, g5⟩ := hI
  refine ⟨fz_rMs hX.1.2.1.2 h (by omega) g1, ?_, fun e => fz_rMs (hX.2.1 e).2.1.2 h (by omega) (g3 e), ⟨?_, fun j hj => ?_⟩, fun k hk => ⟨?_, ?_, fun i hi => ?_⟩⟩
  · rw [h.i (by omega)]; exact g2
  · rw [h.i (by omega)]; exact g4.1
  · rw [h.i (by omega)]; exact g4.2 j hj
  · rw [h.i (by omega)]; exact (g5 k hk).1
  · rw [h.i (by omega)]; exact (g5 k hk).2.1
  · rw [h.l (by omega)]; exact (g5 k hk).2.2 i hi
theorem mI_S2 {X : GS} {S : St} {m m' : mm_Mem} (hX : okX X) (h : ∀ a, a ≠ 83 → (a < 86 ∨ 90 < a) → (a < 97 ∨ 200 < a) → m'.1 a = m.1 a ∧ m'.2 a = m.2 a) (hI : mI X m) (hS : rMs 83 86 S m') : mI (setS X S) m' := by
  obtain ⟨_, g2, g3, g4, g5⟩ := hI
  refine ⟨hS, ?_, fun e => ?_, ⟨?_, fun j hj => ?_⟩, fun k hk => ⟨?_, ?_, fun i hi => ?_⟩⟩
  · rw [(h 82 (by omega) (by omega) (by omega)).1]; exact g2
  · have hc := (hX.2.1 e).2.1.2
    have g3 := g3 e
    have hc : sC X.2.1 ≤ 4 := hc
    unfold rMs
    rw [show (setS X S).2.1 = X.2.1 from rfl, (h 84 (by omega) (by omega) (by omega)).1, (h 92 (by omega) (by omega) (by omega)).1]
    refine ⟨g3.1, g3.2.1, g3.2.2.1, g3.2.2.2.1, fun i hi => ?_⟩
    rw [(h (92 + 1 + i) (by omega) (by omega) (by omega)).1]
    exact g3.2.2.2.2 i hi
  · rw [(h 82 (by omega) (by omega) (by omega)).1]; exact g4.1
  · rw [(h 201 (by omega) (by omega) (by omega)).1]; exact g4.2 j hj
  · rw [(h 202 (by omega) (by omega) (by omega)).1]; exact (g5 k hk).1
  · rw [(h 203 (by omega) (by omega) (by omega)).1]; exact (g5 k hk).2.1
  · rw [(h (205 + k) (by omega) (by omega) (by omega)).2]; exact (g5 k hk).2.2 i hi
theorem m_common {sn : Nat} : ∀ (b : Nat) {d a : Nat} {m : mm_Mem} {P : Int32 → mm_Mem → Prop}, a < 10000 → b < 10000 → P (nI (Nat.gcd a b)) m → mm_sp (d + b + 1) sn kX11_common [.int (nI a), .int (nI b)] m (qI P) := by
  intro b
  induction b using Nat.strongRecOn with
  | ind b ih =>
    intro d a m P ha hb h
    refine v_X11_common ⟨fun c => ⟨c, ?_⟩, fun c => ?_⟩
    · have c : b ≠ 0 := fun e => c (by rw [e]; rfl)
      rw [e_rem (by omega) (by omega) (by omega)]
      have hl : a % b < b := Nat.mod_lt _ (by omega)
      refine mm_sp.up (ih (a % b) hl (d := 0) (by omega) (by omega) ?_) (by omega)
      rw [Nat.gcd_comm b (a % b), ← Nat.gcd_rec b a, Nat.gcd_comm b a]
      exact h
    · have c := Classical.not_not.mp c
      rw [e_eq0 (by omega)] at c
      subst c
      rw [Nat.gcd_zero_right] at h
      exact h
theorem e_subadd {a b c : Nat} (h : b ≤ a + c) : nI a - nI b + nI c = nI (a + c - b) := by
  rw [← e_sub h, ← e_add]
  apply Int32.toBitVec_inj.mp
  simp only [Int32.toBitVec_add, Int32.toBitVec_sub]
  generalize (nI a).toBitVec = x
  generalize (nI b).toBitVec = y
  generalize (nI c).toBitVec = z
  bv_omega
theorem m_goes {d sn k f n p : Nat} {m : mm_Mem} {P : Int32 → mm_Mem → Prop} (hN : m.1 83 0 = nI n) (hn : 3 ≤ n ∧ n ≤ 8) (hk : k < 5) (hf : f < 10) (hp : p < n) (h : P (nI (tk k f n p)) m) : mm_sp (d + 1) sn kX11_goes [.ref 82, .int (nI k), .int (nI f), .int (nI p)] m (qI P) := by
  refine v_X11_goes ?_
  have hpf : p * f < 8 * 10 := Nat.mul_lt_mul'' (by omega) (by omega)
  have hm1 : f % n < n := Nat.mod_lt _ (by omega)
  have n0 : ¬ nI n = 0 := by rw [e_eq0 (by omega)]; omega
  unfold tk at h
  rw [hN]
  refine ⟨fun e => ⟨n0, ?_⟩, fun e => ⟨n0, ?_⟩, fun e => ⟨n0, ?_⟩, fun e => ⟨n0, n0, ?_⟩, fun e0 e1 e2 e3 => ?_⟩
  · have e := e_in (by omega) (by omega) e
    rw [if_pos e] at h
    rw [e_add, e_rem (by omega) (by omega) (by omega)]
    exact h
  · have e := e_in (by omega) (by omega) e
    rw [if_neg (by omega), if_pos e] at h
    rw [e_mul, e_subadd (by omega), e_rem (by omega) (by omega) (by omega)]
    have e9 : f + 2 * n - p = (f + n - p) + n := by omega
    rw [e9, Nat.add_mod_right]
    exact h
  · have e := e_in (by omega) (by omega) e
    rw [if_neg (by omega), if_neg (by omega), if_pos e] at h
    rw [e_mul, e_rem (by omega) (by omega) (by omega)]
    exact h
  · have e := e_in (by omega) (by omega) e
    rw [if_neg (by omega), if_neg (by omega), if_neg (by omega), if_pos e] at h
    have hm2 : (f + 1) % n < n := Nat.mod_lt _ (by omega)
    rw [e_rem (by omega) (by omega) (by omega), e_add, e_rem (by omega) (by omega) (by omega), Nat.mod_add_mod, e_eq (by omega) (by omega), e_eq (by omega) (by omega)]
    unfold swp at h
    refine ⟨fun c => ⟨fun c2 => ?_, fun c2 => ?_⟩, fun c => ?_⟩
    · rw [if_neg c, if_neg c2] at h; exact h
    · rw [if_neg c, if_pos (Classical.not_not.mp c2)] at h; exact h
    · rw [if_pos (Classical.not_not.mp c)] at h; exact h
  · have e0 : k ≠ 0 := fun e => e0 (by rw [e])
    have e1 : k ≠ 1 := fun e => e1 (by rw [e])
    have e2 : k ≠ 2 := fun e => e2 (by rw [e])
    have e3 : k ≠ 3 := fun e => e3 (by rw [e])
    rw [if_neg e0, if_neg e1, if_neg e2, if_neg e3] at h
    rw [e_sub (by omega), e_eq (by omega) (by omega), e_eq0 (by omega)]
    refine ⟨fun c => ⟨by omega, ?_⟩, fun c => ?_⟩
    · rw [if_neg c] at h
      rw [e_add, e_rem (by omega) (by omega) (by omega)]
      exact h
    · rw [if_pos (Classical.not_not.mp c)] at h; exact h
theorem rMs_add {k f : Nat} {T : Nat → Nat} {S : St} {m m' : mm_Mem} (h4 : sW S < 4 ∧ sC S ≤ 4) (hS : rMs 83 86 S m) (hf : ∀ a, 86 ≤ a → a ≤ 90 → m'.1 a = m.1 a) (h1 : m'.1 83 1 = nI (sW S + 1)) (h2 : m'.1 83 (2 + sW S) = nI k) (h6 : m'.1 83 (6 + sW S) = nI f) (hT : ∀ p, p < sN S → m'.1 83 (10 + 8 * sW S + p) = nI (T p)) (ho : ∀ x, x ≠ 1 → x ≠ 2 + sW S → x ≠ 6 + sW S → (x < 10 + 8 * sW S ∨ 42 ≤ x) → m'.1 83 x = m.1 83 x) (h8 : sN S ≤ 8) : rMs 83 86 (stAdd k f T S) m' := by
  obtain ⟨⟨a0, a1, a42, a43⟩, aW, aC, aB, aD⟩ := hS
  refine ⟨⟨?_, h1, ?_, ?_⟩, fun w hw => ?_, fun i hi => ?_, ?_, fun i hi => ?_⟩
  · rw [ho 0 (by omega) (by omega) (by omega) (by omega)]; exact a0
  · rw [ho 42 (by omega) (by omega) (by omega) (by omega)]; exact a42
  · rw [ho 43 (by omega) (by omega) (by omega) (by omega)]; exact a43
  · have hw : w < sW S + 1 := hw
    show m'.1 83 (2 + w) = nI (ud (sKd S) (sW S) k w) ∧ m'.1 83 (6 + w) = nI (ud (sFg S) (sW S) f w) ∧ ∀ p, p < sN S → m'.1 83 (10 + 8 * w + p) = nI (ud (sT S) (sW S) T w p)
    by_cases e : w = sW S
    · subst e
      rw [ud_s, ud_s, ud_s]
      exact ⟨h2, h6, hT⟩
    · rw [ud_n e, ud_n e, ud_n e]
      obtain ⟨b1, b2, b3⟩ := aW w (by omega)
      refine ⟨?_, ?_, fun p hp => ?_⟩
      · rw [ho _ (by omega) (by omega) (by omega) (by omega)]; exact b1
      · rw [ho _ (by omega) (by omega) (by omega) (by omega)]; exact b2
      · rw [ho _ (by omega) (by omega) (by omega) (by omega)]; exact b3 p hp
  · rw [ho _ (by omega) (by omega) (by omega) (by omega)]; exact aC i hi
  · rw [hf 86 (by omega) (by omega)]; exact aB
  · have hi : i < sC S := hi
    rw [hf _ (by omega) (by omega)]; exact aD i hi
theorem gcd_hdc : alN (fun n => alN (fun f => decide (n < 3) || (hdc f n == !(Nat.gcd n f == 1))) 10) 9 = true := by decide +kernel
theorem gcd_h {n f : Nat} (hn : 3 ≤ n ∧ n ≤ 8) (hf : f < 10) : (Nat.gcd n f = 1 ↔ hdc f n = false) := by
  have h := alN_of (alN_of gcd_hdc n (by omega)) f hf
  rw [decide_eq_false (by omega), Bool.false_or, beq_iff_eq] at h
  rw [h, Bool.not_eq_false', beq_iff_eq]
theorem m_way {d sn : Nat} {X : GS} {v w : Int32} {m : mm_Mem} {P : Int32 → mm_Mem → Prop} (hX : okX X) (hI : mI X m) (h : ∀ m', fz 83 211 m m' → mI (setS X (S_way X.1 v w)) m' → P (A_way X.1 v w) m') : mm_sp (d + 11) sn kX11_way [.ref 82, .int v, .int w] m (qI P) := by
  refine v_X11_way ?_
  have hW := hX.1.2.1.1
  have hN := hX.1.1
  unfold A_way S_way at h
  have e4 : lN 4 = (nI 4).toInt64 := by decide
  have e9 : lN 9 = (nI 9).toInt64 := by decide
  rw [e4]
  refine s_in (n := 5) (by decide) (by omega) (e_vb (fun e => ?_) (fun e => ?_))
  · rw [e9]
    refine s_in (n := 10) (by decide) (by omega) (e_vz (fun e2 => ?_) (fun e2 => ?_))
    · rw [if_neg (nz e), if_neg (nz e), if_pos e2, if_pos e2] at h
      exact h m fz.refl hI
    · rw [if_neg (nz e), if_neg (nz e), if_neg (nz e2), if_neg (nz e2)] at h
      obtain ⟨k, hk, rfl⟩ := iz_t (n := 5) (by omega) e
      obtain ⟨f, hf, rfl⟩ := iz_t (n := 10) (by omega) e2
      rw [e_cl (by omega), e_cl (by omega)] at h
      have h0 := hI.1.1.1
      have h1 := hI.1.1.2.1
      have body : (¬ (nI k = nI 2 ∧ hdc f (sN X.1) = true)) → ((¬ m.1 83 1 = nI 4) → (vp_in ((nI 2) + (m.1 83 1)) 48 ∧ (∀ m3 : mm_Mem, m3 = (mm_u2 m.1 83 ((nI 2) + (m.1 83 1)).toNatClampNeg (nI k), m.2) → (vp_in ((nI 6) + (m.1 83 1)) 48 ∧ (∀ m4 : mm_Mem, m4 = (mm_u2 m3.1 83 ((nI 6) + (m.1 83 1)).toNatClampNeg (nI f), m3.2) → (mm_wp (d + 10) sn kX11_way 90 [some (.ref 82), some (.int (nI k)), some (.int (nI f)), some (.int (m.1 83 1)), some (.int (nI 0))] [] m4 (qI P))))))) ∧ (¬ (¬ m.1 83 1 = nI 4) → (P (-4) m)) := by
        intro hc
        rw [if_neg hc, if_neg hc] at h
        rw [h1, e_eq (by omega) (by omega), e_add, e_add, e_vin (by omega) (by omega), e_vin (by omega) (by omega), e_cl (by omega), e_cl (by omega)]
        refine ⟨fun c => ?_, fun c => ?_⟩
        · rw [if_neg c, if_neg c] at h
          have hw : sW X.1 < 4 := by omega
          refine ⟨by omega, fun m3 q3 => ⟨by omega, fun m4 q4 => ?_⟩⟩
          have q : ∀ x, m4.1 83 x = if x = 6 + sW X.1 then nI f else if x = 2 + sW X.1 then nI k else m.1 83 x := by
            intro x
            subst q3; subst q4
            simp only [e_u2, true_and]
          have f4 : fr [83] m m4 := by
            subst q3; subst q4
            exact (fr_u2 (by simp)).trans (fr_u2 (m := (_, _)) (by simp))
          clear q3 q4
          refine lp_up (W := fun p => ∀ m5, fr [83] m m5 → (∀ q, q < p → m5.1 83 (10 + 8 * sW X.1 + q) = nI (tk k f (sN X.1) q)) → (∀ x, (x < 10 + 8 * sW X.1 ∨ 10 + 8 * sW X.1 + p ≤ x) → m5.1 83 x = m4.1 83 x) → mm_wp (d + 10) sn kX11_way 90 [some (.ref 82), some (.int (nI k)), some (.int (nI f)), some (.int (nI (sW X.1))), some (.int (nI p))] [] m5 (qI P)) (Nat.zero_le (sN X.1)) ?_ ?_ m4 f4 (fun q hq => by omega) (fun x _ => rfl)
          · intro m5 g0 g1 g2
            refine v_X11_way_90 ?_
            have z0 : m5.1 83 0 = nI (sN X.1) := by rw [g2 0 (by omega), q, if_neg (by omega), if_neg (by omega)]; exact h0
            have z1 : m5.1 83 1 = nI (sW X.1) := by rw [g2 1 (by omega), q, if_neg (by omega), if_neg (by omega)]; exact h1
            rw [z0, z1]
            refine e_vT (by rw [e_le (by omega) (by omega)]; omega) (fun m6 q6 => ?_)
            have f6 : fr [83] m m6 := g0.trans (by subst q6; exact fr_u2 (by simp))
            have u : ∀ x, m6.1 83 x = if x = 1 then nI (sW X.1 + 1) else m5.1 83 x := by
              intro x
              subst q6
              simp only [e_u2, true_and, e_add]
            refine h m6 (fun a ha => f6 a (by simp; omega)) (mI_S2 hX (fun a b1 b2 b3 => f6 a (by simp; omega)) hI (rMs_add ⟨hw, hX.1.2.1.2⟩ hI.1 (fun a b1 b2 => f6.i (by simp; omega)) ?_ ?_ ?_ (fun p hp => ?_) (fun x x1 x2 x3 x4 => ?_) hN.2))
            · rw [u, if_pos rfl]
            · rw [u, if_neg (by omega), g2 _ (by omega), q, if_neg (by omega), if_pos rfl]
            · rw [u, if_neg (by omega), g2 _ (by omega), q, if_pos rfl]
            · rw [u, if_neg (by omega), g1 p hp]
              unfold tkF
              rw [if_pos hp]
            · rw [u, if_neg x1, g2 x (by omega), q, if_neg x3, if_neg x2]
          · intro p _ hp ih m5 g0 g1 g2
            refine v_X11_way_90 ?_
            have z0 : m5.1 83 0 = nI (sN X.1) := by rw [g2 0 (by omega), q, if_neg (by omega), if_neg (by omega)]; exact h0
            rw [z0]
            refine e_vF (by rw [e_le (by omega) (by omega)]; omega) ?_
            refine mm_sp.up (m_goes (d := 0) z0 hN hk hf hp ?_) (by omega)
            rw [e_mul, e_add, e_add, e_vin (by omega) (by omega), e_cl (by omega), e_add]
            refine ⟨by omega, fun m6 q6 => ih m6 (g0.trans (by subst q6; exact fr_u2 (by simp))) (fun q hq => ?_) (fun x hx => ?_)⟩
            · subst q6
              simp only [e_u2, true_and]
              by_cases e5 : q = p
              · subst e5; rw [if_pos rfl]
              · rw [if_neg (by omega)]; exact g1 q (by omega)
            · subst q6
              simp only [e_u2, true_and]
              rw [if_neg (by omega)]
              exact g2 x (by omega)
        · rw [if_pos (Classical.not_not.mp c), if_pos (Classical.not_not.mp c)] at h
          exact h m fz.refl hI
      refine ⟨fun c5 => body (fun hc => c5 hc.1), fun c5 => ?_⟩
      have c5 := Classical.not_not.mp c5
      rw [h0]
      refine mm_sp.up (m_common f (d := 0) (by omega) (by omega) ?_) (by omega)
      have hg : Nat.gcd (sN X.1) f ≤ sN X.1 := Nat.gcd_le_left _ (by omega)
      rw [e_eq (by omega) (by omega)]
      refine ⟨fun c6 => body (fun hc => ?_), fun c6 => ?_⟩
      · rw [(gcd_h hN hf).mp c6] at hc
        cases hc.2
      · have c7 : hdc f (sN X.1) = true := by
          cases e8 : hdc f (sN X.1) with
          | true => rfl
          | false => exact absurd ((gcd_h hN hf).mpr e8) c6
        rw [if_pos ⟨c5, c7⟩, if_pos ⟨c5, c7⟩] at h
        exact h m fz.refl hI
  · rw [if_pos e, if_pos e] at h
    exact h m fz.refl hI
