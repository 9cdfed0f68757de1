-- BLOCKS: made of others
def kept (B : Nat → Bool) (T : Nat → Nat) : Bool := alN (fun s => !B s || B (mv T s)) 256
theorem s_areKeptBy {d sn a y kd fg : Nat} {T : Nat → Nat} {m : mm_Mem} {P : Int32 → mm_Mem → Prop} {B : Nat → Bool} (ha : shB a) (hy : shY y) (hB : rZ (m.1 (a + 1)) B 256) (hT : rY y kd fg T m) (h8 : ∀ p, p < 8 → T p < 8) (h : P (nI (kept B T).toNat) m) : mm_sp (d + 2) sn kX0_areKeptBy [.ref a, .ref y] m (qI P) := by
  refine v_X0_areKeptBy ha hy ?_
  refine lp_up (W := fun s => (∀ t, t < s → (!B t || B (mv T t)) = true) → mm_wp (d + 1) sn kX0_areKeptBy 2 [some (.ref a), some (.ref y), some (.int (nI s))] [] m (qI P)) (Nat.zero_le 256) ?_ ?_ (fun t ht => by omega)
  · intro hn
    refine v_X0_areKeptBy_2 ha hy ?_
    simp (disch := omega) only [e_le, e_lt, e_eq, e_lt0, e_0le, e_le0, e_0lt, e_eq0, e_m1, e_m5, e_m1l, e_m5l, e_m1e, e_add, e_dec, e_sub, e_mul, e_div, e_rem, e_and, e_or, e_shl, e_shr, e_vin, e_nar, e_nar0, e_nar1, e_cl, e_b0, e_b00, e_b1, e_bt, e_andn, e_xor, Bool.not_eq_false, Bool.not_eq_true, Classical.not_not, not_false_eq_true, not_true_eq_false, true_implies, false_implies, true_and, and_true]
    refine ⟨fun _ => ?_, fun c => by omega⟩
    rw [show kept B T = true from alN_t hn] at h
    exact h
  · intro s _ hs ih hn
    refine v_X0_areKeptBy_2 ha hy ?_
    have hb := hB s hs
    have next : (!B s || B (mv T s)) = true → mm_wp (d + 1) sn kX0_areKeptBy 2 [some (.ref a), some (.ref y), some (.int (nI (s + 1)))] [] m (qI P) := by
      intro e
      refine ih (fun t ht => ?_)
      by_cases e2 : t = s
      · subst e2; exact e
      · exact hn t (by omega)
    simp (disch := omega) only [e_le, e_lt, e_eq, e_lt0, e_0le, e_le0, e_0lt, e_eq0, e_m1, e_m5, e_m1l, e_m5l, e_m1e, e_add, e_dec, e_sub, e_mul, e_div, e_rem, e_and, e_or, e_shl, e_shr, e_vin, e_nar, e_nar0, e_nar1, e_cl, e_b0, e_b00, e_b1, e_bt, e_andn, e_xor, Bool.not_eq_false, Bool.not_eq_true, Classical.not_not, not_false_eq_true, not_true_eq_false, true_implies, false_implies, true_and, and_true, hb]
    refine ⟨fun c => by omega, fun _ => ⟨hs, fun hf => ?_, fun ht => ?_⟩⟩
    · exact next (by rw [hf]; rfl)
    · refine s_setFor hy hT h8 (by omega) ?_
      refine s_has ha hB (mv_lt h8) ?_
      simp (disch := omega) only [e_le, e_lt, e_eq, e_lt0, e_0le, e_le0, e_0lt, e_eq0, e_m1, e_m5, e_m1l, e_m5l, e_m1e, e_add, e_dec, e_sub, e_mul, e_div, e_rem, e_and, e_or, e_shl, e_shr, e_vin, e_nar, e_nar0, e_nar1, e_cl, e_b0, e_b00, e_b1, e_bt, e_andn, e_xor, Bool.not_eq_false, Bool.not_eq_true, Classical.not_not, not_false_eq_true, not_true_eq_false, true_implies, false_implies, true_and, and_true]
      refine ⟨fun e => ?_, fun e => ?_⟩
      · exact next (by rw [e, Bool.or_true])
      · have hf : (!B s || B (mv T s)) = false := by rw [ht, e]; rfl
        rw [show kept B T = false from alN_f (p := fun s => !B s || B (mv T s)) hf hs] at h
        exact h
theorem rB_B {a K : Nat} {B C : Nat → Bool} {m : mm_Mem} (h : B = C) (hB : rB a K B m) : rB a K C m := by rw [← h]; exact hB
/-- of a row that is built up from its least place on -/
theorem up_lt {C : Nat → Bool} {s : Nat} : up (fun x => decide (x < s) && C x) s (C s) = fun x => decide (x < s + 1) && C x := funext fun x => by
  by_cases e : x = s
  · subst e
    rw [up_s, decide_eq_true (by omega), Bool.true_and]
  · rw [up_n e]
    by_cases e2 : x < s
    · rw [decide_eq_true e2, decide_eq_true (by omega)]
    · rw [decide_eq_false e2, decide_eq_false (by omega)]
theorem lt_skip {C : Nat → Bool} {s : Nat} (h : C s = false) : (fun x => decide (x < s) && C x) = fun x => decide (x < s + 1) && C x := funext fun x => by
  by_cases e : x = s
  · subst e
    rw [h, Bool.and_false, Bool.and_false]
  · by_cases e2 : x < s
    · rw [decide_eq_true e2, decide_eq_true (by omega)]
    · rw [decide_eq_false e2, decide_eq_false (by omega)]
theorem oI_s {i : Nat} : oI (some i) = nI i := rfl
def chs (num : Nat → Option Nat) (k c : Nat) : Nat → Bool := fun s => match num s with
  | none => false
  | some i => decide (i < 31) && c.testBit i && bc s == k
theorem s_becomeChoice {d sn a k c : Nat} {m : mm_Mem} {P : mm_Mem → Prop} {num : Nat → Option Nat} {amt : Nat → Nat} (ha : shB a) (hne : 61 < a ∨ a + 1 < 60) (hO : rO num amt m) (hS : oS num amt) (hk : k < 9) (hc : c < 2147483648) (h : ∀ m', fr [a, a + 1] m m' → rB a k (chs num k c) m' → P m') : mm_sp (d + 2) sn kX0_becomeChoice [.ref a, .ref 59, .int (nI k), .int (nI c)] m (qV P) := by
  refine v_X0_becomeChoice ha ?_
  refine s_becomeEmpty ha (K := k) ?_
  intro m1 hf1 hB1
  refine lp_up (W := fun s => ∀ m2, fr [a, a + 1] m m2 → rB a k (fun x => decide (x < s) && chs num k c x) m2 → mm_wp (d + 1) sn kX0_becomeChoice 8 [some (.ref a), some (.ref 59), some (.int (nI k)), some (.int (nI c)), some (.int (nI s)), none, none] [] m2 (qV P)) (Nat.zero_le 256) ?_ ?_ m1 hf1 (rB_B (funext fun x => by simp) hB1)
  · intro m2 hf2 hB2
    refine v_X0_becomeChoice_8 ha ?_
    simp (disch := omega) only [e_le, e_lt, e_eq, e_lt0, e_0le, e_le0, e_0lt, e_eq0, e_m1, e_m5, e_m1l, e_m5l, e_m1e, e_add, e_dec, e_sub, e_mul, e_div, e_rem, e_and, e_or, e_shl, e_shr, e_vin, e_nar, e_nar0, e_nar1, e_cl, e_b0, e_b00, e_b1, e_bt, e_andn, e_xor, Bool.not_eq_false, Bool.not_eq_true, Classical.not_not, not_false_eq_true, not_true_eq_false, true_implies, false_implies, true_and, and_true]
    refine ⟨fun _ => h m2 hf2 (rB_ext (fun s hs => ?_) hB2), fun c => by omega⟩
    rw [decide_eq_true hs, Bool.true_and]
  · intro s _ hs ih m2 hf2 hB2
    refine v_X0_becomeChoice_8 ha ?_
    have skip : chs num k c s = false → mm_wp (d + 1) sn kX0_becomeChoice 8 [some (.ref a), some (.ref 59), some (.int (nI k)), some (.int (nI c)), some (.int (nI (s + 1))), none, none] [] m2 (qV P) := fun e => ih m2 hf2 (rB_B (lt_skip e) hB2)
    simp (disch := omega) only [e_le, e_add]
    refine ⟨fun c => by omega, fun _ => ?_⟩
    refine s_numberOf (fr_rO hf2 (by simp; omega) (by simp; omega) hO) hs ?_
    cases hq : num s with
    | none =>
      refine e_vT (by decide) ?_
      exact skip (by unfold chs; rw [hq])
    | some i =>
      have hi := hS.1 s i hs hq
      have hch : chs num k c s = (decide (i < 31) && c.testBit i && bc s == k) := by unfold chs; rw [hq]
      rw [oI_s]
      refine e_vF (by rw [e_lt0 (by omega)]; exact id) ?_
      rw [e_le (by omega) (by omega)]
      refine ⟨fun e => ?_, fun e => ?_⟩
      · exact skip (by rw [hch, decide_eq_false (by omega)]; rfl)
      · have hl : (c >>> i) &&& 1 ≤ 1 := Nat.and_le_right
        rw [e_shr (by omega) (by omega), e_and, e_eq (by omega) (by omega), e_bit]
        refine ⟨fun e2 => ?_, fun e2 => ?_⟩
        · exact skip (by rw [hch, Bool.not_eq_true _ |>.mp e2, Bool.and_false, Bool.false_and])
        · have e2 := Classical.not_not.mp e2
          refine s_bitCount (by omega) ?_
          have hkb := bc_le s
          rw [e_eq (by omega) (by omega)]
          refine ⟨fun e3 => ?_, fun e3 => ?_⟩
          · exact skip (by rw [hch, beq_eq_false_iff_ne.mpr e3, Bool.and_false])
          · have e3 := Classical.not_not.mp e3
            refine s_put (b := true) ha hB2 hs ?_
            intro m3 hf3 hB3
            refine ih m3 (hf2.trans hf3) (rB_B ?_ hB3)
            have e4 : chs num k c s = true := by rw [hch, decide_eq_true (by omega), e2, beq_iff_eq.mpr e3]; rfl
            rw [← up_lt, e4]
def prt (B : Nat → Bool) (p : Nat) (w : Bool) : Nat → Bool := fun x => !x.testBit p && (if w = true then B (x ||| 1 <<< p) else B x)
theorem prt_1 : ∀ p, p < 8 → ∀ s, s < 256 → ((s &&& 1 <<< p = 0) ↔ s.testBit p = false) ∧ (s.testBit p = true → (s ^^^ (s &&& 1 <<< p)).testBit p = false ∧ (s ^^^ (s &&& 1 <<< p)) ||| 1 <<< p = s) ∧ (s.testBit p = false → s ^^^ (s &&& 1 <<< p) = s ∧ (s ||| 1 <<< p) ^^^ ((s ||| 1 <<< p) &&& 1 <<< p) = s ∧ (s ||| 1 <<< p).testBit p = true ∧ s ||| 1 <<< p < 256) ∧ s ^^^ (s &&& 1 <<< p) < 256 := by decide +kernel
def prs (B : Nat → Bool) (p : Nat) (w : Bool) (s : Nat) : Nat → Bool := fun x => prt B p w x && decide ((if w = true then x ||| 1 <<< p else x) < s)
/-- one place more: nothing comes, or one set comes -/
theorem prs_skip {B : Nat → Bool} {p s : Nat} {w : Bool} (hp : p < 8) (hs : s < 256) (h : s.testBit p = w → B s = false) : ∀ x, x < 256 → prs B p w s x = prs B p w (s + 1) x := by
  intro x hx
  unfold prs prt
  obtain ⟨_, _, h3, _⟩ := prt_1 p hp x hx
  cases w with
  | true =>
    rw [if_pos rfl, if_pos rfl]
    by_cases e : x ||| 1 <<< p = s
    · cases e2 : x.testBit p with
      | true => rfl
      | false =>
        rw [e, h (by rw [← e]; exact (h3 e2).2.2.1), Bool.and_false, Bool.false_and, Bool.false_and]
    · by_cases e3 : x ||| 1 <<< p < s
      · rw [decide_eq_true e3, decide_eq_true (by omega)]
      · rw [decide_eq_false e3, decide_eq_false (by omega)]
  | false =>
    rw [if_neg (by decide), if_neg (by decide)]
    by_cases e : x = s
    · subst e
      cases e2 : x.testBit p with
      | true => rfl
      | false => rw [h e2, Bool.and_false, Bool.false_and, Bool.false_and]
    · by_cases e3 : x < s
      · rw [decide_eq_true e3, decide_eq_true (by omega)]
      · rw [decide_eq_false e3, decide_eq_false (by omega)]
theorem prs_put {B : Nat → Bool} {p s : Nat} {w : Bool} (hp : p < 8) (hs : s < 256) (h : s.testBit p = w) (hB : B s = true) : ∀ x, x < 256 → up (prs B p w s) (s ^^^ (s &&& 1 <<< p)) true x = prs B p w (s + 1) x := by
  intro x hx
  obtain ⟨_, h2, h3, _⟩ := prt_1 p hp s hs
  obtain ⟨_, _, g3, _⟩ := prt_1 p hp x hx
  by_cases e : x = s ^^^ (s &&& 1 <<< p)
  · rw [e, up_s]
    unfold prs prt
    cases w with
    | true =>
      rw [if_pos rfl, if_pos rfl, (h2 h).1, (h2 h).2, hB, decide_eq_true (by omega)]
      rfl
    | false =>
      rw [if_neg (by decide), if_neg (by decide), (h3 h).1, h, hB, decide_eq_true (by omega)]
      rfl
  · rw [up_n e]
    unfold prs prt
    cases w with
    | true =>
      rw [if_pos rfl, if_pos rfl]
      cases e2 : x.testBit p with
      | true => rfl
      | false =>
        have e4 : x ||| 1 <<< p ≠ s := fun e4 => e (by rw [← e4]; exact (g3 e2).2.1.symm)
        by_cases e3 : x ||| 1 <<< p < s
        · rw [decide_eq_true e3, decide_eq_true (by omega)]
        · rw [decide_eq_false e3, decide_eq_false (by omega)]
    | false =>
      rw [if_neg (by decide), if_neg (by decide)]
      have e4 : x ≠ s := fun e4 => e (by rw [e4]; exact (h3 h).1.symm)
      by_cases e3 : x < s
      · rw [decide_eq_true e3, decide_eq_true (by omega)]
      · rw [decide_eq_false e3, decide_eq_false (by omega)]
theorem s_becomePart {d sn a b K p : Nat} {w : Bool} {m : mm_Mem} {P : mm_Mem → Prop} {B : Nat → Bool} (ha : shB a) (hb : shB b) (hne : a ≠ b ∧ a ≠ b + 1 ∧ a + 1 ≠ b) (hB : rB b K B m) (hK : 1 ≤ K) (hp : p < 8) (h : ∀ m', fr [a, a + 1] m m' → rB a (if w = true then K - 1 else K) (prt B p w) m' → P m') : mm_sp (d + 2) sn kX0_becomePart [.ref a, .ref b, .int (nI (1 <<< p)), .int (nI w.toNat)] m (qV P) := by
  refine v_X0_becomePart ha hb ?_
  rw [hB.1]
  have key : mm_sp (d + 1) sn kX0_becomeEmpty [.ref a, .int (nI (if w = true then K - 1 else K))] m (qV fun m1 => mm_wp (d + 1) sn kX0_becomePart 24 [some (.ref a), some (.ref b), some (.int (nI (1 <<< p))), some (.int (nI w.toNat)), some (.int (nI 0)), none] [] m1 (qV P)) := by
    refine s_becomeEmpty ha ?_
    intro m1 hf1 hB1
    refine lp_up (W := fun s => ∀ m2, fr [a, a + 1] m m2 → rB a (if w = true then K - 1 else K) (prs B p w s) m2 → mm_wp (d + 1) sn kX0_becomePart 24 [some (.ref a), some (.ref b), some (.int (nI (1 <<< p))), some (.int (nI w.toNat)), some (.int (nI s)), none] [] m2 (qV P)) (Nat.zero_le 256) ?_ ?_ m1 hf1 (rB_B (funext fun x => by unfold prs; simp) hB1)
    · intro m2 hf2 hB2
      refine v_X0_becomePart_24 ha hb ?_
      refine e_vT (by decide) ?_
      refine h m2 hf2 (rB_ext (fun s hs => ?_) hB2)
      unfold prs
      obtain ⟨_, _, h3, _⟩ := prt_1 p hp s hs
      cases e2 : s.testBit p with
      | true => unfold prt; rw [e2]; rfl
      | false =>
        have : (if w = true then s ||| 1 <<< p else s) < 256 := by
          split
          · exact (h3 e2).2.2.2
          · exact hs
        rw [decide_eq_true this, Bool.and_true]
    · intro s _ hs ih m2 hf2 hB2
      refine v_X0_becomePart_24 ha hb ?_
      obtain ⟨g1, _, _, g4⟩ := prt_1 p hp s hs
      have hl : s &&& 1 <<< p ≤ s := Nat.and_le_left
      have skip : (s.testBit p = w → B s = false) → mm_wp (d + 1) sn kX0_becomePart 24 [some (.ref a), some (.ref b), some (.int (nI (1 <<< p))), some (.int (nI w.toNat)), some (.int (nI (s + 1))), none] [] m2 (qV P) := fun e => ih m2 hf2 (rB_ext (prs_skip hp hs e) hB2)
      have put : s.testBit p = w → B s = true → mm_sp (d + 1) sn kX0_put [.ref a, .int (nI (s ^^^ (s &&& 1 <<< p))), .int (nI 1)] m2 (qV fun m3 => mm_wp (d + 1) sn kX0_becomePart 24 [some (.ref a), some (.ref b), some (.int (nI (1 <<< p))), some (.int (nI w.toNat)), some (.int (nI (s + 1))), none] [] m3 (qV P)) := by
        intro e1 e2
        refine s_put (b := true) ha hB2 g4 ?_
        intro m3 hf3 hB3
        exact ih m3 (hf2.trans hf3) (rB_ext (prs_put hp hs e1 e2) hB3)
      have hB2b := fr_rB hf2 (by simp; omega) (by simp; omega) hB
      simp (disch := omega) only [e_le, e_add, e_and, e_eq0, e_andn]
      refine ⟨fun c => by omega, fun _ => ⟨fun e => ?_, fun e => ?_⟩⟩
      · have e5 := g1.mp e
        refine s_has hb hB2b.2.2 hs ?_
        rw [e_b0]
        refine ⟨fun e3 => skip (fun _ => e3), fun e3 => ?_⟩
        have e3 : B s = true := by simpa using e3
        cases w with
        | true => exact e_vT (by decide) (skip (fun e6 => by rw [e5] at e6; cases e6))
        | false => exact e_vF (by decide) (put e5 e3)
      · have e5 : s.testBit p = true := by
          cases e6 : s.testBit p with
          | true => rfl
          | false => exact absurd (g1.mpr e6) e
        refine s_has hb hB2b.2.2 hs ?_
        rw [e_b0]
        refine ⟨fun e3 => skip (fun _ => e3), fun e3 => ?_⟩
        have e3 : B s = true := by simpa using e3
        cases w with
        | true => exact e_vF (by decide) (put e5 e3)
        | false => exact e_vT (by decide) (skip (fun e6 => by rw [e5] at e6; cases e6))
  cases w with
  | true =>
    rw [if_pos rfl] at key
    rw [e_sub hK]
    exact e_vF (by decide) key
  | false =>
    rw [if_neg (by decide)] at key
    exact e_vT (by decide) key
