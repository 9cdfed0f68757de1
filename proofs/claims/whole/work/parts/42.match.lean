-- MATCHING: alike, selves
def fitB (A B : Nat → Bool) (L : Nat → Nat) (p t : Nat) : Bool := alN (fun r => A (2 ^ p + r) == B (mvN L r p ||| 1 <<< t)) (2 ^ p)
def cpN (A B : Nat → Bool) (n : Nat) : Nat → (Nat → Nat) → Nat → Nat → Bool
  | 0, _, _, _ => true
  | f + 1, L, p, u => !alN (fun t => !(!u.testBit t && (fitB A B L p t && cpN A B n f (ud L p t) (p + 1) (u ||| 1 <<< t)))) n
/-- where the sets of the points placed so far go -/
def rL (L : Nat → Nat) (p : Nat) (m : mm_Mem) : Prop := ∀ s, 0 < s → s < 2 ^ p → m.1 74 s = nI (mvN L s p)
theorem mvN_ud {L : Nat → Nat} {s p t : Nat} : ∀ {n : Nat}, n ≤ p → mvN (ud L p t) s n = mvN L s n
  | 0, _ => rfl
  | n + 1, h => by
    unfold mvN
    rw [mvN_ud (show n ≤ p by omega), ud_n (show n ≠ p by omega)]
theorem mvN_hi {L : Nat → Nat} {s n : Nat} (hs : s < 2 ^ n) (k : Nat) : mvN L s (n + k) = mvN L s n := mvN_ge hs k
theorem tb_add {p r i : Nat} (hr : r < 2 ^ p) : (2 ^ p + r).testBit i = if i = p then true else r.testBit i := by
  by_cases e : i = p
  · subst e
    rw [if_pos rfl, Nat.testBit_two_pow_add_eq, Nat.testBit_lt_two_pow hr]
    rfl
  · rw [if_neg e]
    by_cases e2 : i < p
    · rw [Nat.testBit_two_pow_add_gt e2]
    · rw [Nat.testBit_lt_two_pow (x := r) (Nat.lt_of_lt_of_le hr (Nat.pow_le_pow_right (by decide) (by omega)))]
      refine Nat.testBit_lt_two_pow ?_
      have : 2 ^ (p + 1) ≤ 2 ^ i := Nat.pow_le_pow_right (by decide) (by omega)
      rw [Nat.pow_succ] at this
      omega
theorem mvN_low {L : Nat → Nat} {p r : Nat} (hr : r < 2 ^ p) : ∀ {n : Nat}, n ≤ p → mvN L (2 ^ p + r) n = mvN L r n
  | 0, _ => rfl
  | n + 1, h => by
    unfold mvN
    rw [mvN_low hr (show n ≤ p by omega), tb_add hr, if_neg (show n ≠ p by omega)]
theorem mvN_add {L : Nat → Nat} {p r t : Nat} (hr : r < 2 ^ p) : mvN (ud L p t) (2 ^ p + r) (p + 1) = mvN L r p ||| 1 <<< t := by
  show (if (2 ^ p + r).testBit p = true then mvN (ud L p t) (2 ^ p + r) p ||| 1 <<< (ud L p t p) else _) = _
  rw [tb_add hr, if_pos rfl, if_pos rfl, ud_s, mvN_low hr (Nat.le_refl p), mvN_ud (Nat.le_refl p)]
theorem s_fits {d sn a b p t : Nat} {A B : Nat → Bool} {L : Nat → Nat} {m : mm_Mem} {P : Int32 → mm_Mem → Prop} (ha : shB a) (hb : shB b) (hne : (a + 1 < 73 ∨ 74 < a) ∧ (b + 1 < 73 ∨ 74 < b)) (hA : rZ (m.1 (a + 1)) A 256) (hB : rZ (m.1 (b + 1)) B 256) (hp : p < 8) (ht : t < 8) (hL8 : ∀ q, q < p → L q < 8) (hL : rL L p m) (h : ∀ m', fz 73 74 m m' → rL L p m' → (fitB A B L p t = true → rL (ud L p t) (p + 1) m') → P (nI (fitB A B L p t).toNat) m') : mm_sp (d + 2) sn kX4_fits [.ref 73, .ref a, .ref b, .int (nI p), .int (nI t)] m (qI P) := by
  have hp2 : 2 ^ p ≤ 128 := Nat.pow_le_pow_right (n := 2) (by decide) (show p ≤ 7 by omega)
  have hpp := Nat.two_pow_pos p
  refine v_X4_fits ha hb ?_
  rw [e_shl (by omega), Nat.shiftLeft_eq, Nat.one_mul]
  refine lp_up (W := fun r => ∀ m1, fz 73 74 m m1 → rL L p m1 → (∀ x, x < r → A (2 ^ p + x) = B (mvN L x p ||| 1 <<< t) ∧ m1.1 74 (2 ^ p + x) = nI (mvN L x p ||| 1 <<< t)) → mm_wp (d + 1) sn kX4_fits 8 [some (.ref 73), some (.ref a), some (.ref b), none, some (.int (nI t)), some (.int (nI (2 ^ p))), some (.int (nI r)), none] [] m1 (qI P)) (Nat.zero_le (2 ^ p)) ?_ ?_ m fz.refl hL (fun x hx => by omega)
  · intro m1 g0 g1 g2
    have eT : fitB A B L p t = true := alN_t (fun r hr => beq_iff_eq.mpr (g2 r hr).1)
    refine v_X4_fits_8 ha hb (e_vT (by rw [e_le (by omega) (by omega)]; omega) ?_)
    have := h m1 g0 g1 (fun _ s hs0 hs => ?_)
    · rw [eT] at this; exact this
    · by_cases e : s < 2 ^ p
      · rw [g1 s hs0 e, mvN_ge (T := ud L p t) e 1, mvN_ud (Nat.le_refl p)]
      · have hs : s < 2 ^ p * 2 := by rw [← Nat.pow_succ]; exact hs
        obtain ⟨r, hr⟩ : ∃ r, s = 2 ^ p + r := ⟨s - 2 ^ p, by omega⟩
        subst hr
        rw [(g2 r (by omega)).2, mvN_add (by omega)]
  · intro r _ hr ih m1 g0 g1 g2
    have him : mvN L r p ||| 1 <<< t < 256 := Nat.or_lt_two_pow (n := 8) (mvN_lt hL8) (shl_lt ht)
    refine v_X4_fits_8 ha hb (e_vF (by rw [e_le (by omega) (by omega)]; omega) ?_)
    rw [e_add]
    refine e_vF (by rw [e_le (by omega) (by omega)]; omega) ?_
    have hA1 : ∀ m', fz 73 74 m m' → rZ (m'.1 (a + 1)) A 256 := fun m' g => by rw [g.i (by omega)]; exact hA
    have hB1 : ∀ m', fz 73 74 m m' → rZ (m'.1 (b + 1)) B 256 := fun m' g => by rw [g.i (by omega)]; exact hB
    have body : ∀ m2 : mm_Mem, m2 = (mm_u2 m1.1 74 (2 ^ p + r) (nI (mvN L r p ||| 1 <<< t)), m1.2) → mm_sp (d + 1) sn kX0_has [.ref a, .int (nI (2 ^ p + r))] m2 (qI fun x6 m2 => mm_sp (d + 1) sn kX0_has [.ref b, .int (nI (mvN L r p ||| 1 <<< t))] m2 (qI fun x7 m3 => ((x6 = x7) → (mm_wp (d + 1) sn kX4_fits 8 [some (.ref 73), some (.ref a), some (.ref b), none, some (.int (nI t)), some (.int (nI (2 ^ p))), some (.int (nI (r + 1))), none] [] m3 (qI P))) ∧ (¬ (x6 = x7) → (P (nI 0) m3)))) := by
      intro m2 e2
      have f2 : fz 73 74 m1 m2 := by subst e2; exact fz_u2 (by omega) (by omega)
      have g3 := g0.trans f2
      have rl2 : rL L p m2 := by
        intro s hs0 hs
        subst e2
        show mm_u2 m1.1 74 (2 ^ p + r) (nI (mvN L r p ||| 1 <<< t)) 74 s = _
        rw [u2_j (by omega)]
        exact g1 s hs0 hs
      refine s_has ha (hA1 m2 g3) (by omega) ?_
      refine s_has hb (hB1 m2 g3) him ?_
      have eb : (nI (A (2 ^ p + r)).toNat = nI (B (mvN L r p ||| 1 <<< t)).toNat) = (A (2 ^ p + r) = B (mvN L r p ||| 1 <<< t)) := by
        cases A (2 ^ p + r) <;> cases B (mvN L r p ||| 1 <<< t) <;> exact propext ⟨fun h => by revert h; decide, fun h => by revert h; decide⟩
      rw [eb]
      refine ⟨fun e => ih m2 g3 rl2 (fun x hx => ?_), fun e => ?_⟩
      · by_cases e3 : x = r
        · subst e3
          refine ⟨e, ?_⟩
          subst e2
          show mm_u2 m1.1 74 (2 ^ p + x) (nI (mvN L x p ||| 1 <<< t)) 74 (2 ^ p + x) = _
          rw [u2_s]
        · obtain ⟨q1, q2⟩ := g2 x (by omega)
          refine ⟨q1, ?_⟩
          subst e2
          show mm_u2 m1.1 74 (2 ^ p + r) (nI (mvN L r p ||| 1 <<< t)) 74 (2 ^ p + x) = _
          rw [u2_j (by omega)]
          exact q2
      · have eF : fitB A B L p t = false := alN_f (p := fun r => A (2 ^ p + r) == B (mvN L r p ||| 1 <<< t)) (s := r) (beq_eq_false_iff_ne.mpr e) hr
        have := h m2 g3 rl2 (fun e => by rw [eF] at e; cases e)
        rw [eF] at this
        exact this
    rw [e_eq0 (by omega), e_add]
    refine ⟨fun e => ?_, fun e => ?_⟩
    · rw [e_vin (by omega) (by omega), e_vin (by omega) (by omega), e_cl (by omega), e_cl (by omega), g1 r (by omega) hr, e_shl (by omega), e_or]
      exact ⟨by omega, by omega, body⟩
    · have e := Classical.not_not.mp e
      subst e
      rw [e_vin (by omega) (by omega), e_cl (by omega), e_shl (by omega), e_or]
      have e0 : mvN L 0 p = 0 := by
        have := mvN_ge (T := L) (s := 0) (n := 0) (by decide) p
        rw [Nat.zero_add] at this
        exact this
      rw [e0] at body
      exact ⟨by omega, body⟩
theorem s_canPlace {sn a b n : Nat} {A B : Nat → Bool} (ha : shB a) (hb : shB b) (hne : (a + 1 < 73 ∨ 74 < a) ∧ (b + 1 < 73 ∨ 74 < b)) (hn : n ≤ 8) : ∀ (f : Nat) {d p u : Nat} {L : Nat → Nat} {m : mm_Mem} {P : Int32 → mm_Mem → Prop}, p + f = n → u < 256 → (∀ q, q < p → L q < 8) → rZ (m.1 (a + 1)) A 256 → rZ (m.1 (b + 1)) B 256 → rL L p m → (∀ m', fz 73 74 m m' → rL L p m' → P (nI (cpN A B n f L p u).toNat) m') → mm_sp (d + f + 3) sn kX4_canPlace [.ref 73, .ref a, .ref b, .int (nI n), .int (nI p), .int (nI u)] m (qI P)
  | 0, d, p, u, L, m, P, hp, hu, hL8, hA, hB, hL, h => by
    refine v_X4_canPlace ha hb (e_vT (by rw [e_le (by omega) (by omega)]; omega) (h m fz.refl hL))
  | f + 1, d, p, u, L, m, P, hp, hu, hL8, hA, hB, hL, h => by
    refine v_X4_canPlace ha hb (e_vF (by rw [e_le (by omega) (by omega)]; omega) (e_vT (by rw [e_lt (by omega) (by omega)]; omega) ?_))
    refine lp_up (W := fun t => ∀ m1, fz 73 74 m m1 → rL L p m1 → (∀ x, x < t → (!(!u.testBit x && (fitB A B L p x && cpN A B n f (ud L p x) (p + 1) (u ||| 1 <<< x)))) = true) → mm_wp (d + (f + 1) + 2) sn kX4_canPlace 18 [some (.ref 73), some (.ref a), some (.ref b), some (.int (nI n)), some (.int (nI p)), some (.int (nI u)), some (.int (nI t)), none] [] m1 (qI P)) (Nat.zero_le n) ?_ ?_ m fz.refl hL (fun x hx => by omega)
    · intro m1 g0 g1 g2
      refine v_X4_canPlace_18 ha hb (e_vT (by rw [e_le (by omega) (by omega)]; omega) ?_)
      have e : cpN A B n (f + 1) L p u = false := by
        unfold cpN
        rw [alN_t g2]; rfl
      have := h m1 g0 g1
      rw [e] at this
      exact this
    · intro t _ ht ih m1 g0 g1 g2
      refine v_X4_canPlace_18 ha hb (e_vF (by rw [e_le (by omega) (by omega)]; omega) ?_)
      have next : ∀ m2, fz 73 74 m m2 → rL L p m2 → (!(!u.testBit t && (fitB A B L p t && cpN A B n f (ud L p t) (p + 1) (u ||| 1 <<< t)))) = true → mm_wp (d + (f + 1) + 2) sn kX4_canPlace 18 [some (.ref 73), some (.ref a), some (.ref b), some (.int (nI n)), some (.int (nI p)), some (.int (nI u)), some (.int (nI (t + 1))), none] [] m2 (qI P) := by
        intro m2 q0 q1 q2
        refine ih m2 q0 q1 (fun x hx => ?_)
        by_cases e : x = t
        · subst e; exact q2
        · exact g2 x (by omega)
      have hl : (u >>> t) &&& 1 ≤ 1 := Nat.and_le_right
      rw [e_shr (by omega) (by omega), e_and, e_eq0 (by omega), e_bit0, e_bt, e_add]
      refine ⟨fun e => next m1 g0 g1 (by simp only [Bool.not_eq_false] at e; rw [e]; rfl), fun e => ?_⟩
      have e := Classical.not_not.mp e
      have hA1 : ∀ m', fz 73 74 m m' → rZ (m'.1 (a + 1)) A 256 := fun m' g => by rw [g.i (by omega)]; exact hA
      have hB1 : ∀ m', fz 73 74 m m' → rZ (m'.1 (b + 1)) B 256 := fun m' g => by rw [g.i (by omega)]; exact hB
      refine mm_sp.up (s_fits (d := 0) ha hb hne (hA1 m1 g0) (hB1 m1 g0) (by omega) (by omega) hL8 g1 ?_) (by omega)
      intro m2 f0 f1 f2
      refine e_vz (fun e2 => next m2 (g0.trans f0) f1 (by rw [e2, Bool.false_and, Bool.and_false]; rfl)) (fun e2 => ?_)
      have hu2 : u ||| 1 <<< t < 256 := Nat.or_lt_two_pow (n := 8) hu (shl_lt (by omega))
      rw [e_add, e_shl (by omega), e_or]
      have g3 := g0.trans f0
      refine mm_sp.up (s_canPlace ha hb hne hn f (d := d) (p := p + 1) (L := ud L p t) (by omega) hu2 (fun q hq => ?_) (hA1 m2 g3) (hB1 m2 g3) (f2 e2) ?_) (by omega)
      · by_cases e3 : q = p
        · subst e3; rw [ud_s]; omega
        · rw [ud_n e3]; exact hL8 q (by omega)
      · intro m3 b0 b1
        have rl3 : rL L p m3 := by
          intro s hs0 hs
          rw [b1 s hs0 (Nat.lt_of_lt_of_le hs (Nat.pow_le_pow_right (by decide) (by omega))), mvN_ge (T := ud L p t) hs 1, mvN_ud (Nat.le_refl p)]
        refine e_vz (fun e3 => next m3 (g3.trans b0) rl3 (by rw [e3, Bool.and_false, Bool.and_false]; rfl)) (fun e3 => ?_)
        have eT : cpN A B n (f + 1) L p u = true := by
          unfold cpN
          rw [alN_f (p := fun t => !(!u.testBit t && (fitB A B L p t && cpN A B n f (ud L p t) (p + 1) (u ||| 1 <<< t)))) (s := t) (by rw [e, e2, e3]; rfl) ht]
          rfl
        have := h m3 (g3.trans b0) rl3
        rw [eT] at this
        exact this
