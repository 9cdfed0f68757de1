-- COUNTING: codes of arrangements
theorem cN_map {σ : Nat → Nat} {N : Nat} {P : Nat → Bool} : ∀ (M : Nat) (Q : Nat → Bool), (∀ x, x < M → P x = true → σ x < N ∧ Q (σ x) = true) → (∀ x y, x < M → y < M → P x = true → P y = true → σ x = σ y → x = y) → cN P M ≤ cN Q N
  | 0, _, _, _ => Nat.zero_le _
  | M + 1, Q, h1, h2 => by
    cases e : P M with
    | false =>
      rw [cN_f e]
      exact cN_map M Q (fun x hx => h1 x (by omega)) (fun x y hx hy => h2 x y (by omega) (by omega))
    | true =>
      rw [cN_t e]
      obtain ⟨g1, g2⟩ := h1 M (by omega) e
      have ih : cN P M ≤ cN (up Q (σ M) false) N := by
        refine cN_map (N := N) (P := P) M (up Q (σ M) false) (fun x hx hp => ?_) (fun x y hx hy => h2 x y (by omega) (by omega))
        obtain ⟨k1, k2⟩ := h1 x (by omega) hp
        refine ⟨k1, ?_⟩
        rw [up_n (fun e5 => by have := h2 x M (by omega) (by omega) hp e e5; omega)]
        exact k2
      have hu := cN_up (B := Q) (b := false) g1
      rw [g2] at hu
      have e1 : true.toNat = 1 := rfl
      have e2 : false.toNat = 0 := rfl
      omega
theorem cN_full {p : Nat → Bool} {n : Nat} (h : cN p n = n) : ∀ s, s < n → p s = true := by
  intro s hs
  cases e : p s with
  | true => rfl
  | false => have := cN_lt e hs; omega
theorem cN_pos {p : Nat → Bool} {n : Nat} : 0 < cN p n ↔ ∃ s, s < n ∧ p s = true := by
  constructor
  · intro h
    refine Classical.byContradiction fun hc => ?_
    rw [cN_none (fun s hs => ?_)] at h
    · omega
    · cases e : p s with
      | false => rfl
      | true => exact absurd ⟨s, hs, e⟩ hc
  · rintro ⟨s, hs, h⟩
    have h1 := cN_t h
    have h2 := cN_mono (p := p) (show s + 1 ≤ n by omega)
    omega
theorem cN_split {p q : Nat → Bool} : ∀ (n : Nat), cN p n = cN (fun x => p x && q x) n + cN (fun x => p x && !q x) n
  | 0 => rfl
  | n + 1 => by
    have ih := cN_split (p := p) (q := q) n
    show cN p n + (p n).toNat = cN (fun x => p x && q x) n + (p n && q n).toNat + (cN (fun x => p x && !q x) n + (p n && !q n).toNat)
    have : (p n).toNat = (p n && q n).toNat + (p n && !q n).toNat := by
      cases p n <;> cases q n <;> rfl
    omega
def sumN (g : Nat → Nat) : Nat → Nat
  | 0 => 0
  | n + 1 => sumN g n + g n
theorem sumN_ext {g h : Nat → Nat} : ∀ {n : Nat}, (∀ t, t < n → g t = h t) → sumN g n = sumN h n
  | 0, _ => rfl
  | n + 1, e => by
    show sumN g n + g n = sumN h n + h n
    rw [sumN_ext (fun t ht => e t (by omega)), e n (by omega)]
theorem cN_sum {v : Nat → Bool} {d : Nat → Nat} {N : Nat} : ∀ (n : Nat), (∀ c, c < N → v c = true → d c < n) → cN v N = sumN (fun t => cN (fun c => v c && d c == t) N) n
  | 0, h => cN_none fun s hs => by
    cases e : v s with
    | false => rfl
    | true => have := h s hs e; omega
  | n + 1, h => by
    have ih := cN_sum (v := fun c => v c && !(d c == n)) (d := d) (N := N) n (fun c hc hv => by
      rw [Bool.and_eq_true, Bool.not_eq_true', beq_eq_false_iff_ne] at hv
      have := h c hc hv.1
      omega)
    rw [cN_split (q := fun c => d c == n) N, ih]
    show _ = sumN _ n + cN (fun c => v c && d c == n) N
    rw [Nat.add_comm]
    congr 1
    refine sumN_ext (fun t ht => cN_ext (fun c hc => ?_))
    by_cases e : d c = t
    · rw [beq_iff_eq.mpr e, beq_eq_false_iff_ne.mpr (by omega), Bool.not_false, Bool.and_true]
    · rw [beq_eq_false_iff_ne.mpr e, Bool.and_false, Bool.and_false]
-- digits
def d8 (c q : Nat) : Nat := c / 8 ^ q % 8
theorem d8_lt (c q : Nat) : d8 c q < 8 := Nat.mod_lt _ (by decide)
def en8 (F : Nat → Nat) : Nat → Nat
  | 0 => 0
  | n + 1 => en8 F n + F n * 8 ^ n
theorem en8_lt {F : Nat → Nat} : ∀ {n : Nat}, (∀ q, q < n → F q < 8) → en8 F n < 8 ^ n
  | 0, _ => Nat.pow_pos (n := 0) (by decide : 0 < 8)
  | n + 1, h => by
    have ih := en8_lt (fun q hq => h q (by omega) : ∀ q, q < n → F q < 8)
    have hn := h n (by omega)
    have : F n * 8 ^ n ≤ 7 * 8 ^ n := Nat.mul_le_mul_right _ (by omega)
    show en8 F n + F n * 8 ^ n < 8 ^ (n + 1)
    rw [Nat.pow_succ]
    omega
theorem d8_en {F : Nat → Nat} : ∀ {n q : Nat}, (∀ q, q < n → F q < 8) → q < n → d8 (en8 F n) q = F q
  | n + 1, q, h, hq => by
    have hlt := en8_lt (fun q hq => h q (by omega) : ∀ q, q < n → F q < 8)
    have h0 := Nat.two_pow_pos
    have hp : 0 < 8 ^ n := Nat.pow_pos (by decide)
    have hn := h n (by omega)
    show (en8 F n + F n * 8 ^ n) / 8 ^ q % 8 = F q
    by_cases e : q = n
    · subst e
      rw [Nat.add_mul_div_right _ _ hp, Nat.div_eq_of_lt hlt, Nat.zero_add, Nat.mod_eq_of_lt hn]
    · have e2 : 8 ^ n = 8 ^ (n - q - 1) * 8 * 8 ^ q := by
        rw [← Nat.pow_succ, ← Nat.pow_add]
        congr 1
        omega
      have ih := d8_en (F := F) (n := n) (q := q) (fun q hq => h q (by omega)) (by omega)
      have hpq : 0 < 8 ^ q := Nat.pow_pos (by decide)
      unfold d8 at ih
      rw [e2, ← Nat.mul_assoc, ← Nat.mul_assoc, Nat.add_mul_div_right _ _ hpq, Nat.add_mul_mod_self_right]
      exact ih
theorem d8_inj : ∀ {n c e : Nat}, c < 8 ^ n → e < 8 ^ n → (∀ q, q < n → d8 c q = d8 e q) → c = e
  | 0, c, e, h1, h2, _ => by
    rw [Nat.pow_zero] at h1 h2
    omega
  | n + 1, c, e, h1, h2, h => by
    have h0 := h 0 (by omega)
    unfold d8 at h0
    rw [Nat.pow_zero, Nat.div_one, Nat.div_one] at h0
    rw [Nat.pow_succ] at h1 h2
    have ih := d8_inj (n := n) (c := c / 8) (e := e / 8) (by omega) (by omega) (fun q hq => by
      have := h (q + 1) (by omega)
      unfold d8 at this ⊢
      rw [Nat.pow_succ, Nat.mul_comm, ← Nat.div_div_eq_div_mul, ← Nat.div_div_eq_div_mul] at this
      exact this)
    omega
-- arrangements
theorem mv_iff {T : Nat → Nat} {s x n : Nat} : (mvN T s n).testBit x = true ↔ ∃ p, p < n ∧ s.testBit p = true ∧ T p = x := by
  constructor
  · exact mvN_bits
  · rintro ⟨p, h1, h2, rfl⟩
    exact mvN_has h2 h1
theorem mv_ext {T U : Nat → Nat} {s : Nat} : ∀ {n : Nat}, (∀ p, p < n → T p = U p) → mvN T s n = mvN U s n
  | 0, _ => rfl
  | n + 1, h => by
    unfold mvN
    rw [mv_ext (fun p hp => h p (by omega)), h n (by omega)]
theorem mv_comp {G H : Nat → Nat} {s n : Nat} (hH : ∀ p, p < n → H p < n) : mvN (fun p => G (H p)) s n = mvN G (mvN H s n) n := by
  apply Nat.eq_of_testBit_eq
  intro i
  rw [Bool.eq_iff_iff, mv_iff, mv_iff]
  constructor
  · rintro ⟨p, h1, h2, h3⟩
    exact ⟨H p, hH p h1, mv_iff.mpr ⟨p, h1, h2, rfl⟩, h3⟩
  · rintro ⟨y, h1, h2, h3⟩
    obtain ⟨p, g1, g2, g3⟩ := mv_iff.mp h2
    exact ⟨p, g1, g2, by show G (H p) = i; rw [g3]; exact h3⟩
theorem mv_one {T : Nat → Nat} {s n : Nat} (hs : s < 2 ^ n) (h : ∀ p, p < n → T p = p) : mvN T s n = s := by
  rw [mv_ext (U := idL) (fun p hp => h p hp)]
  exact mvN_id hs
theorem mv_inj {T : Nat → Nat} {n s t : Nat} (hT : okT n T) (hs : s < 2 ^ n) (ht : t < 2 ^ n) (e : mvN T s n = mvN T t n) : s = t := by
  apply Nat.eq_of_testBit_eq
  intro i
  by_cases hi : i < n
  · have g : ∀ x : Nat, (mvN T x n).testBit (T i) = x.testBit i := by
      intro x
      rw [Bool.eq_iff_iff, mv_iff]
      constructor
      · rintro ⟨p, h1, h2, h3⟩
        rw [← hT.2 p i h1 hi h3]
        exact h2
      · intro h
        exact ⟨i, hi, h, rfl⟩
    rw [← g s, ← g t, e]
  · rw [Nat.testBit_lt_two_pow (Nat.lt_of_lt_of_le hs (Nat.pow_le_pow_right (by decide) (by omega))), Nat.testBit_lt_two_pow (Nat.lt_of_lt_of_le ht (Nat.pow_le_pow_right (by decide) (by omega)))]
theorem mv_lt2 {T : Nat → Nat} {n s : Nat} (hT : ∀ p, p < n → T p < n) : mvN T s n < 2 ^ n := mvN_lt hT
/-- a one-to-one way to take points takes sets of as many sets to as many, so one direction is enough -/
theorem half {A B : Nat → Bool} {n : Nat} {T : Nat → Nat} (hT : okT n T) (hc : cN A (2 ^ n) = cN B (2 ^ n)) (h : ∀ s, s < 2 ^ n → A s = true → B (mvN T s n) = true) : ∀ s, s < 2 ^ n → A s = B (mvN T s n) := by
  have h1 : cN (fun s => B (mvN T s n)) (2 ^ n) ≤ cN B (2 ^ n) := cN_map (σ := fun s => mvN T s n) (P := fun s => B (mvN T s n)) (2 ^ n) B (fun x hx hp => ⟨mv_lt2 hT.1, hp⟩) (fun x y hx hy _ _ e => mv_inj hT hx hy e)
  have h2 := cN_split (p := fun s => B (mvN T s n)) (q := A) (2 ^ n)
  have h3 : cN (fun s => B (mvN T s n) && A s) (2 ^ n) = cN A (2 ^ n) := cN_ext fun s hs => by
    cases e : A s with
    | false => rw [Bool.and_false]
    | true => rw [h s hs e]; rfl
  have h4 : cN (fun s => B (mvN T s n) && !A s) (2 ^ n) = 0 := by omega
  intro s hs
  have h5 := cN_zero h4 s hs
  cases e : A s with
  | true => exact (h s hs e).symm
  | false =>
    rw [e] at h5
    cases e2 : B (mvN T s n) with
    | false => rfl
    | true => rw [e2] at h5; cases h5
/-- the way back -/
noncomputable def inv (n : Nat) (T : Nat → Nat) (y : Nat) : Nat := @dite _ (∃ q, q < n ∧ T q = y) (Classical.propDecidable _) (fun h => Classical.choose h) (fun _ => y)
theorem inv_s {n : Nat} {T : Nat → Nat} (hT : okT n T) {y : Nat} (hy : y < n) : inv n T y < n ∧ T (inv n T y) = y := by
  have hall : ∃ q, q < n ∧ T q = y := by
    have h1 : cN (fun _ => true) n ≤ cN (fun y => @decide (∃ q, q < n ∧ T q = y) (Classical.propDecidable _)) n := cN_map (σ := T) n _ (fun x hx _ => ⟨hT.1 x hx, @decide_eq_true _ (Classical.propDecidable _) ⟨x, hx, rfl⟩⟩) (fun x y hx hy _ _ e => hT.2 x y hx hy e)
    rw [cN_all (fun _ _ => rfl)] at h1
    have h2 := cN_le (fun y => @decide (∃ q, q < n ∧ T q = y) (Classical.propDecidable _)) n
    exact @of_decide_eq_true _ (Classical.propDecidable _) (cN_full (p := fun y => @decide (∃ q, q < n ∧ T q = y) (Classical.propDecidable _)) (by omega) y hy)
  unfold inv
  rw [dif_pos hall]
  exact Classical.choose_spec hall
theorem inv_l {n : Nat} {T : Nat → Nat} (hT : okT n T) {q : Nat} (hq : q < n) : inv n T (T q) = q := by
  obtain ⟨h1, h2⟩ := inv_s hT (hT.1 q hq)
  exact hT.2 _ _ h1 hq h2
theorem inv_ok {n : Nat} {T : Nat → Nat} (hT : okT n T) : okT n (inv n T) := ⟨fun p hp => (inv_s hT hp).1, fun p q hp hq e => by
  have h1 := (inv_s hT hp).2
  have h2 := (inv_s hT hq).2
  rw [← h1, ← h2, e]⟩
theorem comp_ok {n : Nat} {G H : Nat → Nat} (hG : okT n G) (hH : okT n H) : okT n (fun p => G (H p)) := ⟨fun p hp => hG.1 _ (hH.1 p hp), fun p q hp hq e => hH.2 p q hp hq (hG.2 _ _ (hH.1 p hp) (hH.1 q hq) e)⟩
theorem mv_inv {n s : Nat} {T : Nat → Nat} (hT : okT n T) (hs : s < 2 ^ n) : mvN T (mvN (inv n T) s n) n = s := by
  rw [← mv_comp (G := T) (inv_ok hT).1]
  exact mv_one hs (fun p hp => (inv_s hT hp).2)
