-- MATCHING: what the model counts, and what the class looks for
def leafM (A B : Nat → Bool) (n : Nat) (L : Nat → Nat) : Bool := alN (fun s => !A s || B (mvN L s n)) (2 ^ n)
def wfN (A B : Nat → Bool) (n : Nat) : Nat → (Nat → Nat) → Nat → Nat → Nat
  | 0, L, _, _ => (leafM A B n L).toNat
  | f + 1, L, p, u => sumN (fun t => if u.testBit t = true then 0 else wfN A B n f (ud L p t) (p + 1) (u ||| 1 <<< t)) n
theorem leafM_iff {A B : Nat → Bool} {n : Nat} {L : Nat → Nat} : leafM A B n L = true ↔ ∀ s, s < 2 ^ n → A s = true → B (mvN L s n) = true := by
  constructor
  · intro h s hs ha
    have := alN_of h s hs
    rw [ha] at this
    exact this
  · intro h
    refine alN_t (fun s hs => ?_)
    cases e : A s with
    | false => rfl
    | true => rw [h s hs e]; rfl
def okD (n c : Nat) : Bool := alN (fun q => decide (d8 c q < n)) n && alN (fun q => alN (fun r => !(d8 c q == d8 c r) || q == r) n) n
theorem okD_iff {n c : Nat} : okD n c = true ↔ okT n (d8 c) := by
  unfold okD okT
  rw [Bool.and_eq_true]
  constructor
  · rintro ⟨h1, h2⟩
    refine ⟨fun p hp => of_decide_eq_true (alN_of h1 p hp), fun p q hp hq e => ?_⟩
    have := alN_of (alN_of h2 p hp) q hq
    rw [e, beq_self_eq_true, Bool.not_true, Bool.false_or, beq_iff_eq] at this
    exact this
  · rintro ⟨h1, h2⟩
    refine ⟨alN_t fun q hq => decide_eq_true (h1 q hq), alN_t fun q hq => alN_t fun r hr => ?_⟩
    by_cases e : d8 c q = d8 c r
    · rw [beq_iff_eq.mpr (h2 q r hq hr e), Bool.or_true]
    · rw [beq_eq_false_iff_ne.mpr e]; rfl
def vld (A B : Nat → Bool) (n : Nat) (L : Nat → Nat) (p c : Nat) : Bool := okD n c && alN (fun q => d8 c q == L q) p && leafM A B n (d8 c)
theorem vld_iff {A B : Nat → Bool} {n p c : Nat} {L : Nat → Nat} : vld A B n L p c = true ↔ okT n (d8 c) ∧ (∀ q, q < p → d8 c q = L q) ∧ ∀ s, s < 2 ^ n → A s = true → B (mvN (d8 c) s n) = true := by
  unfold vld
  rw [Bool.and_eq_true, Bool.and_eq_true, okD_iff, leafM_iff]
  constructor
  · rintro ⟨⟨h1, h2⟩, h3⟩
    exact ⟨h1, fun q hq => beq_iff_eq.mp (alN_of h2 q hq), h3⟩
  · rintro ⟨h1, h2, h3⟩
    exact ⟨⟨h1, alN_t fun q hq => beq_iff_eq.mpr (h2 q hq)⟩, h3⟩
theorem cN_one {c0 N : Nat} {b : Bool} (h : c0 < N) : cN (fun c => c == c0 && b) N = b.toNat := by
  cases b with
  | false => exact cN_none fun s _ => Bool.and_false _
  | true =>
    have h1 := cN_up (B := fun _ => false) (s := c0) (b := true) h
    have h0 : cN (fun _ => false) N = 0 := cN_none (fun _ _ => rfl)
    rw [h0] at h1
    have h1 : cN (up (fun _ => false) c0 true) N + 0 = 0 + 1 := h1
    have h2 : cN (fun c => c == c0 && true) N = cN (up (fun _ => false) c0 true) N := cN_ext fun c _ => by
      by_cases e : c = c0
      · subst e; rw [up_s, beq_self_eq_true]; rfl
      · rw [up_n e, beq_eq_false_iff_ne.mpr e]; rfl
    rw [h2]
    exact h1
/-- the points used are those to which the first p go -/
def usd (n p u : Nat) (L : Nat → Nat) : Prop := (∀ q, q < p → L q < n) ∧ (∀ q r, q < p → r < p → L q = L r → q = r) ∧ ∀ t, t < n → (u.testBit t = true ↔ ∃ q, q < p ∧ L q = t)
theorem usd_0 {n : Nat} {L : Nat → Nat} : usd n 0 0 L := ⟨fun q hq => by omega, fun q r hq => by omega, fun t _ => ⟨fun h => (by rw [Nat.zero_testBit] at h; cases h), fun ⟨q, hq, _⟩ => by omega⟩⟩
theorem usd_s {n p u t : Nat} {L : Nat → Nat} (h : usd n p u L) (ht : t < n) (hu : u.testBit t = false) : usd n (p + 1) (u ||| 1 <<< t) (ud L p t) := by
  obtain ⟨h1, h2, h3⟩ := h
  have hn : ∀ q, q < p → L q ≠ t := fun q hq e => by
    have := (h3 t ht).mpr ⟨q, hq, e⟩
    rw [hu] at this; cases this
  refine ⟨fun q hq => ?_, fun q r hq hr e => ?_, fun x hx => ?_⟩
  · by_cases e : q = p
    · rw [e, ud_s]; exact ht
    · rw [ud_n e]; exact h1 q (by omega)
  · by_cases e1 : q = p
    · by_cases e2 : r = p
      · omega
      · rw [e1, ud_s, ud_n e2] at e
        exact absurd e.symm (hn r (by omega))
    · by_cases e2 : r = p
      · rw [e2, ud_s, ud_n e1] at e
        exact absurd e (hn q (by omega))
      · rw [ud_n e1, ud_n e2] at e
        exact h2 q r (by omega) (by omega) e
  · rw [Nat.testBit_or, Bool.or_eq_true, tb_shl, decide_eq_true_iff, h3 x hx]
    constructor
    · rintro (⟨q, hq, e⟩ | e)
      · exact ⟨q, by omega, by rw [ud_n (by omega)]; exact e⟩
      · exact ⟨p, by omega, by rw [ud_s]; exact e⟩
    · rintro ⟨q, hq, e⟩
      by_cases e1 : q = p
      · rw [e1, ud_s] at e; exact Or.inr e
      · rw [ud_n e1] at e; exact Or.inl ⟨q, by omega, e⟩
theorem wf_cnt {A B : Nat → Bool} {n : Nat} (hn : n ≤ 8) : ∀ (f : Nat) {L : Nat → Nat} {p u : Nat}, p + f = n → usd n p u L → wfN A B n f L p u = cN (vld A B n L p) (8 ^ n)
  | 0, L, p, u, hp, hu => by
    have hp : p = n := by omega
    subst hp
    have h8 : ∀ q, q < p → L q < 8 := fun q hq => by have := hu.1 q hq; omega
    have hc0 := en8_lt h8
    have hd := fun q (hq : q < p) => d8_en h8 hq
    show (leafM A B p L).toNat = _
    rw [← cN_one (b := leafM A B p L) hc0]
    refine cN_ext fun c hc => ?_
    rw [Bool.eq_iff_iff, vld_iff, Bool.and_eq_true, beq_iff_eq, leafM_iff]
    constructor
    · rintro ⟨rfl, h2⟩
      refine ⟨⟨fun q hq => ?_, fun q r hq hr e => ?_⟩, hd, fun s hs ha => ?_⟩
      · rw [hd q hq]; exact hu.1 q hq
      · rw [hd q hq, hd r hr] at e; exact hu.2.1 q r hq hr e
      · rw [mv_ext (U := L) hd]; exact h2 s hs ha
    · rintro ⟨h1, h2, h3⟩
      have e : c = en8 L p := d8_inj hc hc0 (fun q hq => by rw [h2 q hq, hd q hq])
      refine ⟨e, fun s hs ha => ?_⟩
      rw [mv_ext (U := d8 c) (fun q hq => (h2 q hq).symm)]
      exact h3 s hs ha
  | f + 1, L, p, u, hp, hu => by
    rw [cN_sum (d := fun c => d8 c p) n (fun c _ hv => (vld_iff.mp hv).1.1 p (by omega))]
    refine sumN_ext (fun t ht => ?_)
    cases e : u.testBit t with
    | true =>
      rw [if_pos rfl]
      obtain ⟨q, hq, eq⟩ := (hu.2.2 t ht).mp e
      refine (cN_none fun c _ => ?_).symm
      cases ev : vld A B n L p c with
      | false => rfl
      | true =>
        obtain ⟨v1, v2, _⟩ := vld_iff.mp ev
        rw [Bool.true_and, beq_eq_false_iff_ne]
        intro e5
        have := v1.2 q p (by omega) (by omega) (by rw [v2 q hq, e5, eq])
        omega
    | false =>
      rw [if_neg (by decide), wf_cnt hn f (by omega) (usd_s hu ht e)]
      refine cN_ext fun c _ => ?_
      rw [Bool.eq_iff_iff, Bool.and_eq_true, beq_iff_eq, vld_iff, vld_iff]
      constructor
      · rintro ⟨h1, h2, h3⟩
        refine ⟨⟨h1, fun q hq => ?_, h3⟩, ?_⟩
        · rw [h2 q (by omega), ud_n (by omega)]
        · rw [h2 p (by omega), ud_s]
      · rintro ⟨⟨h1, h2, h3⟩, h4⟩
        refine ⟨h1, fun q hq => ?_, h3⟩
        by_cases e5 : q = p
        · rw [e5, ud_s]; exact h4
        · rw [ud_n e5]; exact h2 q (by omega)
theorem wf_pos {A B : Nat → Bool} {n f p u : Nat} {L : Nat → Nat} (hn : n ≤ 8) (hp : p + f = n) (hu : usd n p u L) : 0 < wfN A B n f L p u ↔ ∃ T, okT n T ∧ (∀ q, q < p → T q = L q) ∧ ∀ s, s < 2 ^ n → A s = true → B (mvN T s n) = true := by
  rw [wf_cnt hn f hp hu, cN_pos]
  constructor
  · rintro ⟨c, _, hv⟩
    exact ⟨d8 c, vld_iff.mp hv⟩
  · rintro ⟨T, h1, h2, h3⟩
    have h8 : ∀ q, q < n → T q < 8 := fun q hq => by have := h1.1 q hq; omega
    have hd := fun q (hq : q < n) => d8_en h8 hq
    refine ⟨en8 T n, en8_lt h8, vld_iff.mpr ⟨⟨fun q hq => ?_, fun q r hq hr e => ?_⟩, fun q hq => ?_, fun s hs ha => ?_⟩⟩
    · rw [hd q hq]; exact h1.1 q hq
    · rw [hd q hq, hd r hr] at e; exact h1.2 q r hq hr e
    · rw [hd q (by omega)]; exact h2 q hq
    · rw [mv_ext (U := T) hd]; exact h3 s hs ha
-- the class's look
theorem mv_cut {T : Nat → Nat} {s p n : Nat} (hs : s < 2 ^ p) (hp : p ≤ n) : mvN T s n = mvN T s p := by
  have e : n = p + (n - p) := by omega
  rw [e]
  exact mvN_ge hs _
theorem fit_iff {A B : Nat → Bool} {L : Nat → Nat} {p t : Nat} : fitB A B L p t = true ↔ ∀ s, 2 ^ p ≤ s → s < 2 ^ (p + 1) → A s = B (mvN (ud L p t) s (p + 1)) := by
  unfold fitB
  constructor
  · intro h s h1 h2
    rw [Nat.pow_succ] at h2
    have e : s = 2 ^ p + (s - 2 ^ p) := by omega
    have := alN_of h (s - 2 ^ p) (by omega)
    rw [beq_iff_eq, ← e] at this
    rw [this]
    have e2 := mvN_add (L := L) (t := t) (show s - 2 ^ p < 2 ^ p by omega)
    rw [← e] at e2
    rw [e2]
  · intro h
    refine alN_t fun r hr => ?_
    have := h (2 ^ p + r) (by omega) (by rw [Nat.pow_succ]; omega)
    rw [mvN_add hr] at this
    exact beq_iff_eq.mpr this
theorem cp_iff {A B : Nat → Bool} {n : Nat} : ∀ (f : Nat) {L : Nat → Nat} {p u : Nat}, p + f = n → usd n p u L → (cpN A B n f L p u = true ↔ ∃ T, okT n T ∧ (∀ q, q < p → T q = L q) ∧ ∀ s, 2 ^ p ≤ s → s < 2 ^ n → A s = B (mvN T s n))
  | 0, L, p, u, hp, hu => by
    have hp : p = n := by omega
    subst hp
    exact ⟨fun _ => ⟨L, ⟨hu.1, hu.2.1⟩, fun q _ => rfl, fun s h1 h2 => by omega⟩, fun _ => rfl⟩
  | f + 1, L, p, u, hp, hu => by
    have key : cpN A B n (f + 1) L p u = true ↔ ∃ t, t < n ∧ u.testBit t = false ∧ fitB A B L p t = true ∧ cpN A B n f (ud L p t) (p + 1) (u ||| 1 <<< t) = true := by
      show (!alN (fun t => !(!u.testBit t && (fitB A B L p t && cpN A B n f (ud L p t) (p + 1) (u ||| 1 <<< t)))) n) = true ↔ _
      constructor
      · intro h
        refine Classical.byContradiction fun hc => ?_
        rw [alN_t (fun t ht => ?_)] at h
        · cases h
        · cases e : (!u.testBit t && (fitB A B L p t && cpN A B n f (ud L p t) (p + 1) (u ||| 1 <<< t))) with
          | false => rfl
          | true =>
            rw [Bool.and_eq_true, Bool.and_eq_true, Bool.not_eq_true'] at e
            exact absurd ⟨t, ht, e.1, e.2.1, e.2.2⟩ hc
      · rintro ⟨t, ht, h1, h2, h3⟩
        rw [alN_f (p := fun t => !(!u.testBit t && (fitB A B L p t && cpN A B n f (ud L p t) (p + 1) (u ||| 1 <<< t)))) (s := t) (by rw [h1, h2, h3]; rfl) ht]
        rfl
    rw [key]
    constructor
    · rintro ⟨t, ht, h1, h2, h3⟩
      obtain ⟨T, g1, g2, g3⟩ := (cp_iff f (by omega) (usd_s hu ht h1)).mp h3
      refine ⟨T, g1, fun q hq => by rw [g2 q (by omega), ud_n (by omega)], fun s h4 h5 => ?_⟩
      by_cases e : s < 2 ^ (p + 1)
      · rw [fit_iff.mp h2 s h4 e, mv_cut (T := T) (n := n) e (by omega), mv_ext (U := ud L p t) g2]
      · exact g3 s (by omega) h5
    · rintro ⟨T, g1, g2, g3⟩
      have hpn : p < n := by omega
      have hu0 : u.testBit (T p) = false := by
        cases e : u.testBit (T p) with
        | false => rfl
        | true =>
          obtain ⟨q, hq, e2⟩ := (hu.2.2 _ (g1.1 p hpn)).mp e
          have := g1.2 q p (by omega) hpn (by rw [g2 q hq, e2])
          omega
      have hx : ∀ q, q < p + 1 → T q = ud L p (T p) q := fun q hq => by
        by_cases e : q = p
        · rw [e, ud_s]
        · rw [ud_n e]; exact g2 q (by omega)
      have hpw : 2 ^ (p + 1) ≤ 2 ^ n := Nat.pow_le_pow_right (by decide) (by omega)
      refine ⟨T p, g1.1 p hpn, hu0, fit_iff.mpr (fun s h4 h5 => ?_), (cp_iff f (by omega) (usd_s hu (g1.1 p hpn) hu0)).mpr ⟨T, g1, hx, fun s h4 h5 => g3 s ?_ h5⟩⟩
      · rw [g3 s h4 (by omega), mv_cut h5 (by omega), mv_ext (U := ud L p (T p)) hx]
      · rw [Nat.pow_succ] at h4; omega
/-- alike: the two say the same -/
theorem alike_eq {A B : Nat → Bool} {n : Nat} (hn : n ≤ 8) (hA : ∀ s, 2 ^ n ≤ s → s < 256 → A s = false) (hB : ∀ s, 2 ^ n ≤ s → s < 256 → B s = false) (h0 : A 0 = B 0) : (decide (cN A 256 = cN B 256) && decide (0 < wfN A B n n idL 0 0)) = cpN A B n n idL 0 0 := by
  have hp8 := p2_le hn
  have hp0 := Nat.two_pow_pos n
  have eA := cN_tail hp8 hA
  have eB := cN_tail hp8 hB
  have mz : ∀ T, mvN T 0 n = 0 := fun T => by
    apply Nat.eq_of_testBit_eq
    intro i
    rw [Nat.zero_testBit]
    cases e : (mvN T 0 n).testBit i with
    | false => rfl
    | true =>
      obtain ⟨p, _, h, _⟩ := mv_iff.mp e
      rw [Nat.zero_testBit] at h; cases h
  rw [Bool.eq_iff_iff, Bool.and_eq_true, decide_eq_true_iff, decide_eq_true_iff, wf_pos hn (by omega) usd_0, cp_iff n (by omega) usd_0]
  constructor
  · rintro ⟨h1, T, h2, h3, h4⟩
    exact ⟨T, h2, h3, fun s _ hs => half h2 (by rw [← eA, ← eB]; exact h1) h4 s hs⟩
  · rintro ⟨T, h2, h3, h4⟩
    have full : ∀ s, s < 2 ^ n → A s = B (mvN T s n) := by
      intro s hs
      by_cases e : s = 0
      · rw [e, mz, h0]
      · exact h4 s (by rw [Nat.pow_zero]; omega) hs
    refine ⟨?_, T, h2, h3, fun s hs ha => by rw [← full s hs]; exact ha⟩
    have g1 : cN A (2 ^ n) ≤ cN B (2 ^ n) := cN_map (σ := fun s => mvN T s n) (P := A) (2 ^ n) B (fun x hx hp => ⟨mv_lt2 h2.1, by rw [← full x hx]; exact hp⟩) (fun x y hx hy _ _ e => mv_inj h2 hx hy e)
    have g2 : cN B (2 ^ n) ≤ cN A (2 ^ n) := cN_map (σ := fun s => mvN (inv n T) s n) (P := B) (2 ^ n) A (fun x hx hp => ⟨mv_lt2 (inv_ok h2).1, by
      rw [full _ (mv_lt2 (inv_ok h2).1), mv_inv h2 hx]; exact hp⟩) (fun x y hx hy _ _ e => mv_inj (inv_ok h2) hx hy e)
    omega
-- selves
theorem T_le {B : Nat → Bool} {n p : Nat} {G L L' : Nat → Nat} (hn : n ≤ 8) (hG : okT n G) (hp : p ≤ n) (hf : ∀ s, s < 2 ^ n → B s = B (mvN G s n)) (hL : ∀ q, q < p → G (L q) = L' q) : cN (vld B B n L p) (8 ^ n) ≤ cN (vld B B n L' p) (8 ^ n) := by
  refine cN_map (σ := fun c => en8 (fun q => G (d8 c q)) n) (8 ^ n) _ (fun c _ hv => ?_) (fun c e hc he hv hw h => ?_)
  · obtain ⟨v1, v2, v3⟩ := vld_iff.mp hv
    have hok := comp_ok hG v1
    have h8 : ∀ q, q < n → G (d8 c q) < 8 := fun q hq => by have : G (d8 c q) < n := hok.1 q hq; omega
    have hd := fun q (hq : q < n) => d8_en (F := fun q => G (d8 c q)) h8 hq
    refine ⟨en8_lt (F := fun q => G (d8 c q)) h8, vld_iff.mpr ⟨⟨fun q hq => ?_, fun q r hq hr e => ?_⟩, fun q hq => ?_, fun s hs ha => ?_⟩⟩
    · rw [hd q hq]; exact hok.1 q hq
    · rw [hd q hq, hd r hr] at e; exact hok.2 q r hq hr e
    · rw [hd q (by omega)]
      show G (d8 c q) = L' q
      rw [v2 q hq]
      exact hL q hq
    · rw [mv_ext (U := fun q => G (d8 c q)) hd, mv_comp v1.1, ← hf _ (mv_lt2 v1.1)]
      exact v3 s hs ha
  · have v1 := (vld_iff.mp hv).1
    have w1 := (vld_iff.mp hw).1
    have h8 : ∀ q, q < n → G (d8 c q) < 8 := fun q hq => by have : G (d8 c q) < n := (comp_ok hG v1).1 q hq; omega
    have h8' : ∀ q, q < n → G (d8 e q) < 8 := fun q hq => by have : G (d8 e q) < n := (comp_ok hG w1).1 q hq; omega
    refine d8_inj hc he (fun q hq => ?_)
    have e1 := d8_en (F := fun q => G (d8 c q)) h8 hq
    have e2 := d8_en (F := fun q => G (d8 e q)) h8' hq
    have h : en8 (fun q => G (d8 c q)) n = en8 (fun q => G (d8 e q)) n := h
    rw [h, e2] at e1
    exact (hG.2 _ _ (w1.1 q hq) (v1.1 q hq) e1).symm
theorem usd_id {n p : Nat} (hp : p ≤ n) : usd n p (2 ^ p - 1) idL := ⟨fun q hq => (by show q < n; omega), fun q r _ _ e => e, fun t _ => by
  rw [Nat.testBit_two_pow_sub_one, decide_eq_true_iff]
  exact ⟨fun h => ⟨t, h, rfl⟩, fun ⟨q, hq, e⟩ => by have e : q = t := e; omega⟩⟩
theorem sumN_skip {g : Nat → Nat} {p : Nat} : ∀ m, (∀ t, t < p → g t = 0) → sumN g (p + m) = sumN (fun i => g (p + i)) m
  | 0, h => by
    have e : ∀ q, q ≤ p → sumN g q = 0 := by
      intro q
      induction q with
      | zero => intro _; rfl
      | succ q ih =>
        intro hq
        show sumN g q + g q = 0
        rw [ih (by omega), h q (by omega)]
    exact e p (Nat.le_refl _)
  | m + 1, h => by
    show sumN g (p + m) + g (p + m) = sumN (fun i => g (p + i)) m + g (p + m)
    rw [sumN_skip m h]
theorem sumN_if {b : Nat → Bool} {x : Nat} : ∀ m, sumN (fun i => if b i = true then x else 0) m = cN b m * x
  | 0 => (Nat.zero_mul x).symm
  | m + 1 => by
    show sumN (fun i => if b i = true then x else 0) m + (if b m = true then x else 0) = _
    rw [sumN_if m]
    cases e : b m with
    | true => rw [if_pos rfl, cN_t e, Nat.add_mul, Nat.one_mul]
    | false => rw [if_neg (by decide), cN_f e, Nat.add_zero]
theorem self_step {B : Nat → Bool} {n p : Nat} (hn : n ≤ 8) (hp : p < n) : wfN B B n (n - p) idL p (2 ^ p - 1) = cN (glN B n p) (n - p) * wfN B B n (n - (p + 1)) idL (p + 1) (2 ^ (p + 1) - 1) := by
  have e1 : n - p = (n - (p + 1)) + 1 := by omega
  have hu := usd_id (show p ≤ n by omega)
  have hz : wfN B B n (n - p) idL p (2 ^ p - 1) = sumN (fun t => if (2 ^ p - 1).testBit t = true then 0 else wfN B B n (n - (p + 1)) (ud idL p t) (p + 1) ((2 ^ p - 1) ||| 1 <<< t)) (p + (n - p)) := by
    have e2 : p + (n - p) = n := by omega
    rw [e2, e1]
    rfl
  rw [hz, sumN_skip _ (fun t ht => if_pos (by rw [Nat.testBit_two_pow_sub_one, decide_eq_true ht])), ← sumN_if]
  refine sumN_ext fun i hi => ?_
  have hb : (2 ^ p - 1).testBit (p + i) = false := by
    rw [Nat.testBit_two_pow_sub_one, decide_eq_false (by omega)]
  show (if (2 ^ p - 1).testBit (p + i) = true then 0 else _) = _
  rw [if_neg (by rw [hb]; decide)]
  have hs := usd_s hu (show p + i < n by omega) hb
  have hp1 : p + 1 + (n - (p + 1)) = n := by omega
  have pos_iff := wf_pos (A := B) (B := B) hn hp1 hs
  have gl_iff : glN B n p i = true ↔ 0 < wfN B B n (n - (p + 1)) (ud idL p (p + i)) (p + 1) ((2 ^ p - 1) ||| 1 <<< (p + i)) := by
    unfold glN
    rw [Bool.and_eq_true, cp_iff _ hp1 hs, pos_iff, fit_iff]
    constructor
    · rintro ⟨h1, T, g1, g2, g3⟩
      refine ⟨T, g1, g2, fun s hs ha => ?_⟩
      by_cases c1 : s < 2 ^ p
      · have : mvN T s n = s := by
          rw [mv_cut c1 (by omega)]
          exact mv_one c1 (fun q hq => by rw [g2 q (by omega), ud_n (by omega)]; rfl)
        rw [this]; exact ha
      · by_cases c2 : s < 2 ^ (p + 1)
        · rw [mv_cut c2 (by omega), mv_ext (U := ud idL p (p + i)) g2, ← h1 s (by omega) c2]
          exact ha
        · rw [← g3 s (by omega) hs]; exact ha
    · rintro ⟨T, g1, g2, g3⟩
      have full := half (A := B) (B := B) g1 rfl g3
      have hpw : 2 ^ (p + 1) ≤ 2 ^ n := Nat.pow_le_pow_right (by decide) (by omega)
      refine ⟨fun s h1 h2 => ?_, T, g1, g2, fun s _ h2 => full s h2⟩
      rw [full s (by omega), mv_cut h2 (by omega), mv_ext (U := ud idL p (p + i)) g2]
  by_cases e : glN B n p i = true
  · rw [if_pos e]
    obtain ⟨G, g1, g2, g3⟩ := pos_iff.mp (gl_iff.mp e)
    have full := half (A := B) (B := B) g1 rfl g3
    have hfi : ∀ s, s < 2 ^ n → B s = B (mvN (inv n G) s n) := fun s hs => by
      rw [full _ (mv_lt2 (inv_ok g1).1), mv_inv g1 hs]
    rw [wf_cnt hn _ hp1 hs, wf_cnt hn _ hp1 (usd_id (show p + 1 ≤ n by omega))]
    refine Nat.le_antisymm (T_le hn (inv_ok g1) (by omega) hfi (fun q hq => ?_)) (T_le hn g1 (by omega) full (fun q hq => g2 q hq))
    rw [← g2 q hq, inv_l g1 (by omega)]
    rfl
  · rw [if_neg e]
    have : ¬ 0 < _ := fun h => e (gl_iff.mpr h)
    omega
theorem self_eq {B : Nat → Bool} {n : Nat} (hn : n ≤ 8) : slv B n n = wfN B B n n idL 0 0 := by
  have g : ∀ p, p ≤ n → slv B n p * wfN B B n (n - p) idL p (2 ^ p - 1) = wfN B B n n idL 0 0 := by
    intro p
    induction p with
    | zero =>
      intro _
      show 1 * wfN B B n (n - 0) idL 0 (2 ^ 0 - 1) = _
      rw [Nat.one_mul]
      rfl
    | succ p ih =>
      intro hp
      rw [← ih (by omega), self_step hn (show p < n by omega)]
      show slv B n p * cN (glN B n p) (n - p) * _ = _
      rw [Nat.mul_assoc]
  have := g n (Nat.le_refl _)
  rw [Nat.sub_self] at this
  have e : wfN B B n 0 idL n (2 ^ n - 1) = 1 := by
    show (leafM B B n idL).toNat = 1
    rw [leafM_iff.mpr (fun s hs ha => by rw [mvN_id hs]; exact ha)]
    rfl
  rw [e, Nat.mul_one] at this
  exact this
