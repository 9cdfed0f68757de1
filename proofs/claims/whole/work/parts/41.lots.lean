-- LOTS
def sdn (z : Int32) : Nat → Int32
  | 0 => z
  | j + 1 => sdn z j * nI 1103515245 + nI 12345
def chb (z : Int32) (j : Nat) : Bool := mm_rem ((sdn z (j + 1) &&& nI 2147483647) / nI 65536) (nI 2) == nI 1
def ltC (num : Nat → Option Nat) (k : Nat) (z : Int32) : Nat → Bool := fun s => match num s with
  | none => false
  | some i => chb z i && bc s == k
noncomputable def evn (C : Nat → Bool) (n : Nat) : Bool := !(shV C (2 ^ n - 1) 1 == -5)
/-- after so many lots: the seed, how often even, how many sets -/
noncomputable def plN (num : Nat → Option Nat) (a k n : Nat) (z : Int32) : Nat → Int32 × Nat × Nat
  | 0 => (z, 0, 0)
  | i + 1 => (sdn (plN num a k n z i).1 a, (plN num a k n z i).2.1 + (evn (ltC num k (plN num a k n z i).1) n).toNat, (plN num a k n z i).2.2 + cN (ltC num k (plN num a k n z i).1) 256)
def swN (C : Nat → Bool) (p s : Nat) : Nat := cN (fun x => C x && x.testBit p) s
theorem swN_le (C : Nat → Bool) (p s : Nat) : swN C p s ≤ s := cN_le _ _
theorem sw_ar {C : Nat → Bool} {p : Nat} : arN C (1 <<< p) = swN C p 256 := cN_ext fun s _ => by
  have : (s &&& 1 <<< p == 1 <<< p) = s.testBit p := by
    cases e : s.testBit p with
    | true =>
      rw [beq_iff_eq]
      apply Nat.eq_of_testBit_eq
      intro i
      rw [Nat.testBit_and, tb_shl]
      by_cases e2 : p = i
      · subst e2; rw [e]; rfl
      · rw [decide_eq_false e2, Bool.and_false]
    | false =>
      rw [beq_eq_false_iff_ne]
      intro h
      have h2 := congrArg (fun x => x.testBit p) h
      simp only [Nat.testBit_and, tb_shl, e, decide_true, Bool.and_true] at h2
      cases h2
  rw [this]
theorem sg_all : alN (fun n => alN (fun x => !shm (2 ^ n - 1) 1 x || !alN (fun p => !(x == 1 <<< p)) n) 256 && alN (fun p => shm (2 ^ n - 1) 1 (1 <<< p) && decide (1 <<< p < 256)) n) 9 = true := by decide +kernel
theorem sg_1 {n x : Nat} (hn : n ≤ 8) (hx : x < 256) (h : shm (2 ^ n - 1) 1 x = true) : ∃ p, p < n ∧ x = 1 <<< p := by
  have g := alN_of sg_all n (by omega)
  rw [Bool.and_eq_true] at g
  have g := alN_of g.1 x hx
  rw [h, Bool.not_true, Bool.false_or] at g
  apply Classical.byContradiction
  intro hn2
  have : alN (fun p => !(x == 1 <<< p)) n = true := alN_t (fun p hp => by
    have : x ≠ 1 <<< p := fun e => hn2 ⟨p, hp, e⟩
    rw [beq_eq_false_iff_ne.mpr this]; rfl)
  rw [this] at g
  cases g
theorem sg_2 {n p : Nat} (hn : n ≤ 8) (hp : p < n) : shm (2 ^ n - 1) 1 (1 <<< p) = true ∧ 1 <<< p < 256 := by
  have g := alN_of sg_all n (by omega)
  rw [Bool.and_eq_true] at g
  have g := alN_of g.2 p hp
  rw [Bool.and_eq_true, decide_eq_true_iff] at g
  exact g
theorem evn_t {C : Nat → Bool} {n : Nat} (hn : 1 ≤ n ∧ n ≤ 8) (h : ∀ p, p < n → swN C p 256 = swN C 0 256) : evn C n = true := by
  obtain ⟨g1, g2⟩ := sg_2 hn.2 (show 0 < n by omega)
  have e : shV C (2 ^ n - 1) 1 = nI (swN C 0 256) := shV_s g2 g1 (fun x hx hs => by
    obtain ⟨p, hp, rfl⟩ := sg_1 hn.2 hx hs
    rw [sw_ar]; exact h p hp)
  unfold evn
  rw [e]
  have hl := swN_le C 0 256
  have : nI (swN C 0 256) ≠ -5 := fun e => by
    rw [e_m5 (by omega)] at e
    exact e
  rw [beq_eq_false_iff_ne.mpr this]
  rfl
theorem evn_f {C : Nat → Bool} {n p : Nat} (hn : n ≤ 8) (hp : p + 1 < n) (h : swN C (p + 1) 256 ≠ swN C p 256) : evn C n = false := by
  obtain ⟨g1, g2⟩ := sg_2 hn hp
  obtain ⟨g3, g4⟩ := sg_2 hn (show p < n by omega)
  have e : shV C (2 ^ n - 1) 1 = -5 := shV_2 g2 g1 g4 g3 (by rw [sw_ar, sw_ar]; exact h)
  unfold evn
  rw [e]
  rfl
theorem s_drawOrbits {d sn a : Nat} {z e3 e4 : Int32} {m : mm_Mem} {P : mm_Mem → Prop} (ha : a ≤ 70) (hz : m.1 75 2 = z ∧ m.1 75 3 = e3 ∧ m.1 75 4 = e4) (h : ∀ m', fz 75 77 m m' → m'.1 75 2 = sdn z a → m'.1 75 3 = e3 → m'.1 75 4 = e4 → (∀ j, j < a → m'.1 76 j = nI (chb z j).toNat) → P m') : mm_sp (d + 2) sn kX3_drawOrbits [.ref 75, .int (nI a)] m (qV P) := by
  refine v_X3_drawOrbits ?_
  refine lp_up (W := fun i => ∀ m1, fz 75 77 m m1 → m1.1 75 2 = sdn z i → m1.1 75 3 = e3 → m1.1 75 4 = e4 → (∀ j, j < i → m1.1 76 j = nI (chb z j).toNat) → mm_wp (d + 1) sn kX3_drawOrbits 2 [some (.ref 75), some (.int (nI a)), some (.int (nI i))] [] m1 (qV P)) (Nat.zero_le a) ?_ ?_ m fz.refl hz.1 hz.2.1 hz.2.2 (fun j hj => by omega)
  · intro m1 g0 g1 g2 g3 g4
    exact v_X3_drawOrbits_2 (e_vT (by rw [e_le (by omega) (by omega)]; omega) (h m1 g0 g1 g2 g3 g4))
  · intro i _ hi ih m1 g0 g1 g2 g3 g4
    refine v_X3_drawOrbits_2 (e_vF (by rw [e_le (by omega) (by omega)]; omega) (e_vF (by rw [e_le (by omega) (by omega)]; omega) ?_))
    refine v_X3_drawBelowTwo ?_
    intro m2 e2
    have e75 : m2.1 75 2 = sdn z (i + 1) := by
      subst e2
      show mm_u2 m1.1 75 2 (m1.1 75 2 * nI 1103515245 + nI 12345) 75 2 = _
      rw [u2_s, g1]; rfl
    have step : ∀ b : Bool, chb z i = b → ∀ m3 : mm_Mem, m3 = (mm_u2 m2.1 76 i (nI b.toNat), m2.2) → mm_wp (d + 1) sn kX3_drawOrbits 2 [some (.ref 75), some (.int (nI a)), some (.int (nI (i + 1)))] [] m3 (qV P) := by
      intro b hb m3 e3'
      have f2 : fz 75 77 m1 m2 := by subst e2; exact fz_u2 (by omega) (by omega)
      have f3 : fz 75 77 m2 m3 := by subst e3'; exact fz_u2 (by omega) (by omega)
      have r75 : m3.1 75 = m2.1 75 := by
        subst e3'
        show mm_u2 m2.1 76 i (nI b.toNat) 75 = _
        rw [u2_r (by omega)]
      have q : ∀ x, x ≠ 2 → m2.1 75 x = m1.1 75 x := by
        intro x hx
        subst e2
        show mm_u2 m1.1 75 2 (m1.1 75 2 * nI 1103515245 + nI 12345) 75 x = _
        rw [u2_j hx]
      refine ih m3 (g0.trans (f2.trans f3)) (by rw [r75]; exact e75) (by rw [r75, q 3 (by omega)]; exact g2) (by rw [r75, q 4 (by omega)]; exact g3) (fun j hj => ?_)
      have e76 : m2.1 76 = m1.1 76 := by
        subst e2
        show mm_u2 m1.1 75 2 (m1.1 75 2 * nI 1103515245 + nI 12345) 76 = _
        rw [u2_r (by omega)]
      subst e3'
      show mm_u2 m2.1 76 i (nI b.toNat) 76 j = _
      by_cases e : j = i
      · subst e; rw [u2_s, hb]
      · rw [u2_j e, e76]; exact g4 j (by omega)
    rw [e75]
    rw [e_vin (by omega) (by omega), e_cl (by omega), e_nar0, e_nar1, e_add]
    refine ⟨fun c => ⟨by omega, fun m3 e3' => step false (beq_eq_false_iff_ne.mpr c) m3 e3'⟩, fun c => ⟨by omega, fun m3 e3' => step true (beq_iff_eq.mpr (Classical.not_not.mp c)) m3 e3'⟩⟩
theorem s_lcountSet {d sn s : Nat} {f : Nat → Nat} {t : Nat} {m : mm_Mem} {P : mm_Mem → Prop} (hs : s < 256) (hf : ∀ p, p < 8 → m.1 77 p = nI (f p)) (h4 : m.1 75 4 = nI t) (h : ∀ m', fz 75 77 m m' → m'.1 76 = m.1 76 → m'.1 75 2 = m.1 75 2 → m'.1 75 3 = m.1 75 3 → m'.1 75 4 = nI (t + 1) → (∀ p, p < 8 → m'.1 77 p = nI (f p + (s.testBit p).toNat)) → P m') : mm_sp (d + 1) sn kX3_countSet [.ref 75, .int (nI s)] m (qV P) := by
  refine v_X3_countSet ?_
  intro m1 e1
  rw [h4, e_add] at e1
  have f1 : fz 75 77 m m1 := by subst e1; exact fz_u2 (by omega) (by omega)
  have r : ∀ x, x ≠ 75 → m1.1 x = m.1 x := by
    intro x hx
    subst e1
    show mm_u2 m.1 75 4 (nI (t + 1)) x = _
    rw [u2_r hx]
  have q : ∀ x, x ≠ 4 → m1.1 75 x = m.1 75 x := by
    intro x hx
    subst e1
    show mm_u2 m.1 75 4 (nI (t + 1)) 75 x = _
    rw [u2_j hx]
  have q4 : m1.1 75 4 = nI (t + 1) := by
    subst e1
    show mm_u2 m.1 75 4 (nI (t + 1)) 75 4 = _
    rw [u2_s]
  refine lp_up (W := fun i => ∀ m2, fz 77 77 m1 m2 → (∀ p, p < 8 → m2.1 77 p = nI (f p + if p < i then (s.testBit p).toNat else 0)) → mm_wp d sn kX3_countSet 12 [some (.ref 75), some (.int (nI s)), some (.int (nI i))] [] m2 (qV P)) (Nat.zero_le 8) ?_ ?_ m1 fz.refl (fun p hp => ?_)
  · intro m2 g0 g1
    refine v_X3_countSet_12 (e_vT (by decide) (h m2 (f1.trans (g0.wide (by omega) (by omega))) ?_ ?_ ?_ ?_ (fun p hp => ?_)))
    · rw [g0.i (by omega)]; exact r 76 (by omega)
    · rw [g0.i (by omega)]; exact q 2 (by omega)
    · rw [g0.i (by omega)]; exact q 3 (by omega)
    · rw [g0.i (by omega)]; exact q4
    · rw [g1 p hp, if_pos hp]
  · intro i _ hi ih m2 g0 g1
    refine v_X3_countSet_12 (e_vF (by rw [e_le (by omega) (by omega)]; omega) ?_)
    rw [e_vin (by omega) (by omega), e_cl (by omega), g1 i hi, if_neg (Nat.lt_irrefl i), e_shr (by omega) (by omega), e_and, e_bit0, e_add, e_add]
    refine ⟨by omega, by omega, fun m3 e3 => ih m3 (g0.trans (by subst e3; exact fz_u2 (by omega) (by omega))) (fun p hp => ?_)⟩
    subst e3
    show mm_u2 m2.1 77 i (nI (f i + 0 + (s.testBit i).toNat)) 77 p = _
    by_cases e : p = i
    · subst e
      rw [u2_s, if_pos (by omega), Nat.add_zero]
    · rw [u2_j e, g1 p hp]
      by_cases e2 : p < i
      · rw [if_pos e2, if_pos (by omega)]
      · rw [if_neg e2, if_neg (by omega)]
  · rw [r 77 (by omega), hf p hp, if_neg (Nat.not_lt_zero p), Nat.add_zero]
theorem shI_77 : shI 8 77 := ⟨by decide, fun _ => rfl⟩
theorem s_countSets {d sn k t : Nat} {z : Int32} {num : Nat → Option Nat} {amt : Nat → Nat} {m : mm_Mem} {P : mm_Mem → Prop} (hO : rO num amt m) (hk : k < 9) (hN : ∀ s o, s < 256 → num s = some o → o < 256 ∧ (bc s = k → o < amt k)) (ha : amt k ≤ 70) (hc : ∀ j, j < amt k → m.1 76 j = nI (chb z j).toNat) (h4 : m.1 75 4 = nI t) (h : ∀ m', fz 75 77 m m' → m'.1 75 2 = m.1 75 2 → m'.1 75 3 = m.1 75 3 → m'.1 75 4 = nI (t + cN (ltC num k z) 256) → (∀ p, p < 8 → m'.1 77 p = nI (swN (ltC num k z) p 256)) → P m') : mm_sp (d + 2) sn kX3_countSets [.ref 75, .ref 59, .int (nI k)] m (qV P) := by
  refine v_X3_countSets ?_
  refine s_fillI shI_77 (by omega) ?_
  intro m1 hf1 h1
  refine lp_up (W := fun s => ∀ m2, fz 75 77 m m2 → m2.1 76 = m.1 76 → m2.1 75 2 = m.1 75 2 → m2.1 75 3 = m.1 75 3 → m2.1 75 4 = nI (t + cN (ltC num k z) s) → (∀ p, p < 8 → m2.1 77 p = nI (swN (ltC num k z) p s)) → mm_wp (d + 1) sn kX3_countSets 10 [some (.ref 75), some (.ref 59), some (.int (nI k)), some (.int (nI s)), none] [] m2 (qV P)) (Nat.zero_le 256) ?_ ?_ m1 (hf1.z1 (by omega) (by omega)) (hf1.i (by simp)) (by rw [hf1.i (by simp)]) (by rw [hf1.i (by simp)]) (by rw [hf1.i (by simp)]; exact h4) (fun p hp => h1 p hp)
  · intro m2 g0 g1 g2 g3 g4 g5
    exact v_X3_countSets_10 (e_vT (by decide) (h m2 g0 g2 g3 g4 g5))
  · intro s _ hs ih m2 g0 g1 g2 g3 g4 g5
    refine v_X3_countSets_10 (e_vF (by rw [e_le (by omega) (by omega)]; omega) ?_)
    have skip : ltC num k z s = false → mm_wp (d + 1) sn kX3_countSets 10 [some (.ref 75), some (.ref 59), some (.int (nI k)), some (.int (nI (s + 1))), none] [] m2 (qV P) := by
      intro e
      refine ih m2 g0 g1 g2 g3 (by rw [cN_f e]; exact g4) (fun p hp => ?_)
      have e2 : swN (ltC num k z) p (s + 1) = swN (ltC num k z) p s := cN_f (by rw [e]; rfl)
      rw [e2]; exact g5 p hp
    have hO2 : rO num amt m2 := by
      unfold rO
      rw [g0.i (by omega), g0.i (by omega)]
      exact hO
    rw [e_add]
    refine s_numberOf hO2 hs ?_
    cases hq : num s with
    | none => exact e_vT (by decide) (skip (by unfold ltC; rw [hq]))
    | some i =>
      obtain ⟨hi, hia⟩ := hN s i hs hq
      have hl : ltC num k z s = (chb z i && bc s == k) := by unfold ltC; rw [hq]
      rw [oI_s]
      refine e_vF (by rw [e_lt0 (by omega)]; exact id) ?_
      rw [e_le (by omega) (by omega)]
      have hbl := bc_le s
      refine ⟨fun c => skip (by rw [hl, beq_eq_false_iff_ne.mpr (fun e => by have := hia e; omega), Bool.and_false]), fun c => ?_⟩
      rw [e_vin (by omega) (by omega), e_cl (by omega), g1]
      refine ⟨by omega, ?_⟩
      by_cases e : bc s = k
      · rw [hc i (hia e), e_b0]
        refine ⟨fun c2 => skip (by rw [hl, c2, Bool.false_and]), fun c2 => ?_⟩
        have c2 : chb z i = true := by simpa using c2
        refine s_bitCount (by omega) ?_
        rw [e_eq (by omega) (by omega)]
        refine e_vF (fun hh => hh e) ?_
        have eT : ltC num k z s = true := by rw [hl, c2, beq_iff_eq.mpr e]; rfl
        refine s_lcountSet (f := fun p => swN (ltC num k z) p s) hs g5 g4 ?_
        intro m3 b0 b1 b2 b3 b4 b5
        refine ih m3 (g0.trans b0) (b1.trans g1) (b2.trans g2) (b3.trans g3) (by rw [cN_t eT]; exact b4) (fun p hp => ?_)
        rw [b5 p hp]
        have e2 : swN (ltC num k z) p (s + 1) = swN (ltC num k z) p s + (s.testBit p).toNat := by
          show swN (ltC num k z) p s + (ltC num k z s && s.testBit p).toNat = _
          rw [eT, Bool.true_and]
        rw [e2]
      · have sk := skip (by rw [hl, beq_eq_false_iff_ne.mpr e, Bool.and_false])
        refine ⟨fun _ => sk, fun _ => ?_⟩
        refine s_bitCount (by omega) ?_
        rw [e_eq (by omega) (by omega)]
        exact e_vT e sk
theorem s_isEven {d sn n : Nat} {C : Nat → Bool} {m : mm_Mem} {P : Int32 → mm_Mem → Prop} (hn : 1 ≤ n ∧ n ≤ 8) (h7 : ∀ p, p < 8 → m.1 77 p = nI (swN C p 256)) (h : P (nI (evn C n).toNat) m) : mm_sp (d + 1) sn kX3_isEven [.ref 75, .int (nI n)] m (qI P) := by
  refine v_X3_isEven ?_
  refine lp_up (W := fun i => (∀ p, p < i → swN C p 256 = swN C 0 256) → mm_wp d sn kX3_isEven 2 [some (.ref 75), some (.int (nI n)), some (.int (nI i))] [] m (qI P)) hn.1 ?_ ?_ (fun p hp => by rw [show p = 0 by omega])
  · intro hp
    refine v_X3_isEven_2 (e_vT (by rw [e_le (by omega) (by omega)]; omega) ?_)
    rw [evn_t hn hp] at h
    exact h
  · intro i h1 hi ih hp
    refine v_X3_isEven_2 (e_vF (by rw [e_le (by omega) (by omega)]; omega) (e_vF (by rw [e_le (by omega) (by omega)]; omega) ?_))
    have l1 := swN_le C i 256
    have l2 := swN_le C (i - 1) 256
    rw [e_sub h1, e_vin (by omega) (by omega), e_vin (by omega) (by omega), e_cl (by omega), e_cl (by omega), h7 i (by omega), h7 (i - 1) (by omega), e_eq (by omega) (by omega), e_add]
    refine ⟨by omega, by omega, fun e => ih (fun p hpi => ?_), fun e => ?_⟩
    · by_cases e2 : p = i
      · subst e2; rw [e]; exact hp _ (by omega)
      · exact hp p (by omega)
    · have e3 : i - 1 + 1 = i := by omega
      rw [evn_f (p := i - 1) hn.2 (by omega) (by rw [e3]; exact e)] at h
      exact h
theorem s_play {d sn k n times : Nat} {z : Int32} {num : Nat → Option Nat} {amt : Nat → Nat} {m : mm_Mem} {P : mm_Mem → Prop} (hO : rO num amt m) (hk : k < 9) (hn : 1 ≤ n ∧ n ≤ 8) (ht : times < 1000) (hN : ∀ s o, s < 256 → num s = some o → o < 256 ∧ (bc s = k → o < amt k)) (ha : amt k ≤ 70) (h : ∀ m', fz 75 77 m m' → m'.1 75 3 = nI (plN num (amt k) k n z times).2.1 → m'.1 75 4 = nI (plN num (amt k) k n z times).2.2 → P m') : mm_sp (d + 3) sn kX3_play [.ref 75, .ref 59, .int (nI n), .int (nI k), .int (nI times), .int z] m (qV P) := by
  refine v_X3_play ?_
  intro m1 e1 m2 e2 m3 e3
  have hz3 : fz 75 77 m m3 := by
    subst e1; subst e2; subst e3
    exact ((fz_u2 (by omega) (by omega)).trans (fz_u2 (m := (_, _)) (by omega) (by omega))).trans (fz_u2 (m := (_, _)) (by omega) (by omega))
  refine lp_up (W := fun i => ∀ m4, fz 75 77 m m4 → m4.1 75 2 = (plN num (amt k) k n z i).1 → m4.1 75 3 = nI (plN num (amt k) k n z i).2.1 → m4.1 75 4 = nI (plN num (amt k) k n z i).2.2 → mm_wp (d + 2) sn kX3_play 19 [some (.ref 75), some (.ref 59), some (.int (nI n)), some (.int (nI k)), some (.int (nI times)), none, some (.int (nI i))] [] m4 (qV P)) (Nat.zero_le times) ?_ ?_ m3 hz3 ?_ ?_ ?_
  · intro m4 g0 g1 g2 g3
    exact v_X3_play_19 (e_vT (by rw [e_le (by omega) (by omega)]; omega) (h m4 g0 g2 g3))
  · intro i _ hi ih m4 g0 g1 g2 g3
    refine v_X3_play_19 (e_vF (by rw [e_le (by omega) (by omega)]; omega) ?_)
    have rO_of : ∀ m', fz 75 77 m m' → rO num amt m' := fun m' g => by
      unfold rO
      rw [g.i (by omega), g.i (by omega)]
      exact hO
    refine s_amountOf (rO_of m4 g0) hk ?_
    refine s_drawOrbits ha ⟨g1, g2, g3⟩ ?_
    intro m5 f0 f1 f2 f3 f4
    refine s_countSets (z := (plN num (amt k) k n z i).1) (rO_of m5 (g0.trans f0)) hk hN ha f4 f3 ?_
    intro m6 b0 b1 b2 b3 b4
    refine s_isEven (C := ltC num k (plN num (amt k) k n z i).1) hn b4 (e_vz (fun e => ?_) (fun e => ?_))
    · rw [e_add]
      refine ih m6 (g0.trans (f0.trans b0)) (b1.trans f1) ?_ b3
      rw [b2, f2]
      show _ = nI ((plN num (amt k) k n z i).2.1 + (evn (ltC num k (plN num (amt k) k n z i).1) n).toNat)
      rw [e]; rfl
    · intro m7 e7
      have f7 : fz 75 77 m6 m7 := by subst e7; exact fz_u2 (by omega) (by omega)
      rw [e_add]
      refine ih m7 (g0.trans (f0.trans (b0.trans f7))) ?_ ?_ ?_
      · subst e7
        show mm_u2 m6.1 75 3 (m6.1 75 3 + nI 1) 75 2 = _
        rw [u2_j (by omega)]
        exact b1.trans f1
      · subst e7
        show mm_u2 m6.1 75 3 (m6.1 75 3 + nI 1) 75 3 = nI ((plN num (amt k) k n z i).2.1 + (evn (ltC num k (plN num (amt k) k n z i).1) n).toNat)
        rw [u2_s, b2, f2, e, e_add]
        rfl
      · subst e7
        show mm_u2 m6.1 75 3 (m6.1 75 3 + nI 1) 75 4 = _
        rw [u2_j (by omega)]
        exact b3
  · subst e1; subst e2; subst e3
    show mm_u2 (mm_u2 (mm_u2 m.1 75 2 z) 75 3 (nI 0)) 75 4 (nI 0) 75 2 = z
    rw [u2_j (by omega), u2_j (by omega), u2_s]
  · subst e1; subst e2; subst e3
    show mm_u2 (mm_u2 (mm_u2 m.1 75 2 z) 75 3 (nI 0)) 75 4 (nI 0) 75 3 = nI 0
    rw [u2_j (by omega), u2_s]
  · subst e1; subst e2; subst e3
    show mm_u2 (mm_u2 (mm_u2 m.1 75 2 z) 75 3 (nI 0)) 75 4 (nI 0) 75 4 = nI 0
    rw [u2_s]
noncomputable def A_lots (S : St) (k t z w : Int32) : Int32 := if iz k (sN S + 1) = false then -2 else if t < nI 1 ∨ ¬ t ≤ nI 20 then -2 else if iz w 2 = false then -1 else if w = nI 0 then nI (plN (fndS S).1 ((fndS S).2 k.toNatClampNeg) k.toNatClampNeg (sN S) z t.toNatClampNeg).2.1 else nI (plN (fndS S).1 ((fndS S).2 k.toNatClampNeg) k.toNatClampNeg (sN S) z t.toNatClampNeg).2.2
theorem fnd_70 {S : St} (h : okS S) {k : Nat} (hk : k < 11) : (fndS S).2 k ≤ 70 := by
  have h1 := (fnd_oF h).2.2.2 k
  have h2 := cN_mono (p := fun x => bc x == k) (p2_le h.1.2)
  have h3 := amt_70 k hk
  omega
theorem c_lots {d sn : Nat} {X : GS} {k t z w : Int32} {m : mm_Mem} {P : Int32 → mm_Mem → Prop} (hX : okX X) (hI : cI X m) (h : ∀ m', fz 1 81 m m' → cI X m' → P (A_lots X.1 k t z w) m') : mm_sp (d + 5) sn kX10_lots [.ref 1, .int k, .int t, .int z, .int w] m (qI P) := by
  refine v_X10_lots ?_
  have hN := hX.1.1
  unfold A_lots at h
  refine s_isSize shS_2 hI.1.1 hN.2 (e_vz (fun e => ?_) (fun e => ?_))
  · rw [if_pos e] at h
    exact h m fz.refl hI
  · have n1 : ¬ iz k (sN X.1 + 1) = false := by rw [e]; decide
    rw [if_neg n1] at h
    refine ⟨fun c => ?_, fun c => ⟨fun c2 => ?_, fun c2 => ?_⟩⟩
    · rw [if_pos (Or.inl c)] at h
      exact h m fz.refl hI
    · have n2 : ¬ (t < nI 1 ∨ ¬ t ≤ nI 20) := fun hh => hh.elim c (fun hh => hh c2)
      rw [if_neg n2] at h
      refine ⟨fun c3 => ?_, fun c3 => ⟨fun c4 => ?_, fun c4 => ?_⟩⟩
      · rw [if_pos (iz_no1 c3)] at h
        exact h m fz.refl hI
      · have e2 : iz w 2 = true := by
          rw [iz_1 (n := 1) (by omega)]
          exact decide_eq_true ⟨c3, Int32.not_lt.mpr c4⟩
        have n3 : ¬ iz w 2 = false := by rw [e2]; decide
        rw [if_neg n3] at h
        obtain ⟨k, hk, rfl⟩ := iz_t (by omega) e
        have e3 : iz t 21 = true := by
          rw [iz_1 (n := 20) (by omega)]
          refine decide_eq_true ⟨fun hh => c ?_, Int32.not_lt.mpr c2⟩
          have : (0 : Int32) < nI 1 := by decide
          exact Int32.lt_trans hh this
        obtain ⟨t, ht, rfl⟩ := iz_t (n := 21) (by omega) e3
        rw [e_cl (by omega), e_cl (by omega)] at h
        refine s_find hI.1 hX.1 ?_
        intro m1 hz hO
        have hI1 := fz_cI hX hz (by omega) hI
        have hF := fnd_oF hX.1
        have hS := fnd_oS hX.1
        rw [hI1.1.1]
        refine s_play (z := z) hO (by omega) ⟨by omega, hN.2⟩ (by omega) (fun s o hs e => ⟨hS.1 s o hs e, fun eb => by have := (hF.1 s o e).2; rw [eb] at this; exact this⟩) (fnd_70 hX.1 (by omega)) ?_
        intro m2 hz2 g1 g2
        have h := h m2 ((hz.wide (by omega) (by omega)).trans (hz2.wide (by omega) (by omega))) (fz_cI hX hz2 (by omega) hI1)
        rw [g1, g2]
        have ew0 : (w = 0) = (w = nI 0) := by rw [nI_0]
        rw [ew0]
        refine ⟨fun c5 => ?_, fun c5 => ?_⟩
        · rw [if_neg c5] at h; exact h
        · rw [if_pos (Classical.not_not.mp c5)] at h; exact h
      · have e2 : iz w 2 = false := by
          rw [iz_1 (n := 1) (by omega)]
          exact decide_eq_false (fun e => e.2 (Int32.not_le.mp c4))
        rw [if_pos e2] at h
        exact h m fz.refl hI
    · rw [if_pos (Or.inr c2)] at h
      exact h m fz.refl hI
