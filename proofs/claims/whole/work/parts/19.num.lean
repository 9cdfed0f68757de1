-- NUMBERS: ints that are naturals, in the form nI n; counts; loops
theorem e_le {a b : Nat} (ha : a < 2147483648) (hb : b < 2147483648) : (nI a ≤ nI b) = (a ≤ b) := by
  apply propext
  rw [Int32.le_iff_toInt_le, nI_toInt ha, nI_toInt hb]
  omega
theorem e_lt {a b : Nat} (ha : a < 2147483648) (hb : b < 2147483648) : (nI a < nI b) = (a < b) := by
  apply propext
  rw [Int32.lt_iff_toInt_lt, nI_toInt ha, nI_toInt hb]
  omega
theorem e_eq {a b : Nat} (ha : a < 2147483648) (hb : b < 2147483648) : (nI a = nI b) = (a = b) := by
  apply propext
  rw [← Int32.toInt_inj, nI_toInt ha, nI_toInt hb]
  omega
theorem e_lt0 {a : Nat} (ha : a < 2147483648) : (nI a < 0) = False := eq_false (nI_pos ha)
theorem e_0le {a : Nat} (ha : a < 2147483648) : (0 ≤ nI a) = True := eq_true (nI_pos' ha)
theorem e_le0 {a : Nat} (ha : a < 2147483648) : (nI a ≤ 0) = (a = 0) := by
  have h := e_le (a := a) (b := 0) ha (by omega)
  rw [nI_0] at h
  rw [h]
  exact propext ⟨fun h => by omega, fun h => by omega⟩
theorem e_0lt {a : Nat} (ha : a < 2147483648) : (0 < nI a) = (0 < a) := by
  have h := e_lt (a := 0) (b := a) (by omega) ha
  rw [nI_0] at h
  exact h
theorem e_eq0 {a : Nat} (ha : a < 2147483648) : (nI a = 0) = (a = 0) := by
  have h := e_eq (a := a) (b := 0) ha (by omega)
  rw [nI_0] at h
  exact h
theorem e_neg {a : Nat} {x : Int32} (ha : a < 2147483648) (hx : x < 0) : (nI a = x) = False := eq_false (fun e => by subst e; exact nI_pos ha hx)
theorem e_m1 {a : Nat} (ha : a < 2147483648) : (nI a = -1) = False := e_neg ha (by decide)
theorem e_m5 {a : Nat} (ha : a < 2147483648) : (nI a = -5) = False := e_neg ha (by decide)
theorem e_m1l : ((-1 : Int32) < 0) = True := eq_true (by decide)
theorem e_m5l : ((-5 : Int32) < 0) = True := eq_true (by decide)
theorem e_m1e : ((-1 : Int32) = -1) = True := eq_true rfl
theorem e_add {a b : Nat} : nI a + nI b = nI (a + b) := (Int32.ofNat_add a b).symm
theorem e_dec {a : Nat} (h : 0 < a) : nI a + (-1) = nI (a - 1) := by
  obtain ⟨b, rfl⟩ : ∃ b, a = b + 1 := ⟨a - 1, by omega⟩
  exact pk_m1 b
theorem e_dec0 : nI 0 + (-1) = (-1 : Int32) := by decide
theorem e_sub {a b : Nat} (h : b ≤ a) : nI a - nI b = nI (a - b) := pk_sub h
theorem e_mul {a b : Nat} : nI a * nI b = nI (a * b) := pk_mul a b
theorem e_div {a d : Nat} (ha : a < 2147483648) (h0 : 0 < d) (hd : d < 2147483648) : nI a / nI d = nI (a / d) := pk_div ha h0 hd
theorem e_rem {a d : Nat} (ha : a < 2147483648) (h0 : 0 < d) (hd : d < 2147483648) : mm_rem (nI a) (nI d) = nI (a % d) := pk_rem ha h0 hd
theorem nI_tn (a : Nat) : (nI a).toBitVec.toNat = a % 4294967296 := BitVec.toNat_ofNat a 32
theorem nI_ofBV (x : Int32) : x = nI x.toBitVec.toNat := by
  apply Int32.toBitVec_inj.mp
  apply BitVec.eq_of_toNat_eq
  rw [nI_tn]
  exact (Nat.mod_eq_of_lt x.toBitVec.isLt).symm
theorem e_and {a b : Nat} : nI a &&& nI b = nI (a &&& b) := by
  apply Int32.toBitVec_inj.mp
  apply BitVec.eq_of_toNat_eq
  rw [Int32.toBitVec_and, BitVec.toNat_and, nI_tn, nI_tn, nI_tn]
  have h : (4294967296 : Nat) = 2 ^ 32 := rfl
  rw [h, Nat.and_mod_two_pow]
theorem e_or {a b : Nat} : nI a ||| nI b = nI (a ||| b) := by
  apply Int32.toBitVec_inj.mp
  apply BitVec.eq_of_toNat_eq
  rw [Int32.toBitVec_or, BitVec.toNat_or, nI_tn, nI_tn, nI_tn]
  have h : (4294967296 : Nat) = 2 ^ 32 := rfl
  rw [h, Nat.or_mod_two_pow]
theorem nI_sm {k : Nat} (hk : k < 32) : ((nI k &&& 31).toBitVec.smod 32).toNat = k := by
  have h : ∀ k, k < 32 → ((nI k &&& 31).toBitVec.smod 32).toNat = k := by decide +kernel
  exact h k hk
theorem e_shl {a k : Nat} (hk : k < 32) : mm_shl (nI a) (nI k) = nI (a <<< k) := by
  unfold mm_shl
  apply Int32.toBitVec_inj.mp
  apply BitVec.eq_of_toNat_eq
  rw [pk_shl _ _ k (nI_sm hk), nI_tn, nI_tn, Nat.shiftLeft_eq]
  have h : (4294967296 : Nat) = 2 ^ 32 := rfl
  rw [h, Nat.mod_mul_mod]
theorem e_shr {a k : Nat} (ha : a < 2147483648) (hk : k < 32) : mm_shr (nI a) (nI k) = nI (a >>> k) := by
  unfold mm_shr
  rw [pk_shrN ha _ k (nI_sm hk), Nat.shiftRight_eq_div_pow]
theorem e_vin {i n : Nat} (hi : i < 2147483648) (hn : n < 2147483648) : vp_in (nI i) n = (i < n) := by
  apply propext
  unfold vp_in
  rw [nI_clamp hi]
  have h := e_lt0 hi
  rw [h]
  simp only [false_or, Nat.not_le]
theorem e_nar {b : Bool} : vp_nar .boolean (nI b.toNat) = nI b.toNat := by cases b <;> decide +kernel
theorem e_nar0 : vp_nar .boolean (nI 0) = nI 0 := by decide +kernel
theorem e_nar1 : vp_nar .boolean (nI 1) = nI 1 := by decide +kernel
theorem e_cl {a : Nat} (h : a < 2147483648) : (nI a).toNatClampNeg = a := nI_clamp h
theorem e_b0 {b : Bool} : (nI b.toNat = 0) = (b = false) := by cases b <;> exact propext ⟨fun h => by revert h; decide, fun h => by revert h; decide⟩
theorem e_b00 {b : Bool} : (nI b.toNat = nI 0) = (b = false) := e_b0
theorem e_b1 {b : Bool} : (nI b.toNat = nI 1) = (b = true) := by cases b <;> exact propext ⟨fun h => by revert h; decide, fun h => by revert h; decide⟩
theorem e_bt {b : Bool} : (b.toNat = 0) = (b = false) := by cases b <;> exact propext ⟨fun h => by revert h; decide, fun h => by revert h; decide⟩
theorem e_xor {a b : Nat} : nI a ^^^ nI b = nI (a ^^^ b) := by
  apply Int32.toBitVec_inj.mp
  apply BitVec.eq_of_toNat_eq
  rw [Int32.toBitVec_xor, BitVec.toNat_xor, nI_tn, nI_tn, nI_tn]
  have h : (4294967296 : Nat) = 2 ^ 32 := rfl
  rw [h, Nat.xor_mod_two_pow]
theorem bv_andn (x y : BitVec 32) : x &&& (y ^^^ BitVec.allOnes 32) = x ^^^ (x &&& y) := by
  ext i hi
  simp only [BitVec.getElem_and, BitVec.getElem_xor, BitVec.getElem_allOnes]
  cases x[i] <;> cases y[i] <;> rfl
theorem e_andn {a b : Nat} : nI a &&& (nI b ^^^ (-1)) = nI (a ^^^ (a &&& b)) := by
  rw [← e_xor, ← e_and]
  apply Int32.toBitVec_inj.mp
  rw [Int32.toBitVec_and, Int32.toBitVec_xor, Int32.toBitVec_xor, Int32.toBitVec_and]
  exact bv_andn _ _
theorem sm_le (a b : Nat) : a ^^^ (a &&& b) ≤ a := by
  have h : a ^^^ (a &&& b) = a &&& (a ^^^ (a &&& b)) := by
    apply Nat.eq_of_testBit_eq
    intro i
    simp only [Nat.testBit_xor, Nat.testBit_and]
    cases a.testBit i <;> cases b.testBit i <;> rfl
  rw [h]
  exact Nat.and_le_left
theorem sm_0 {a b : Nat} : (a ^^^ (a &&& b) = 0) = (a &&& b = a) := by
  apply propext
  constructor
  · intro h
    apply Nat.eq_of_testBit_eq
    intro i
    have h2 := congrArg (fun x => x.testBit i) h
    simp only [Nat.testBit_xor, Nat.testBit_and, Nat.zero_testBit] at h2 ⊢
    revert h2
    cases a.testBit i <;> cases b.testBit i <;> decide
  · intro h
    rw [h, Nat.xor_self]
theorem e_u2 {α : Type} {f : Nat → Nat → α} {a k x j : Nat} {v : α} : mm_u2 f a k v x j = if x = a ∧ j = k then v else f x j := rfl
theorem u2_s {α : Type} {f : Nat → Nat → α} {a k : Nat} {v : α} : mm_u2 f a k v a k = v := if_pos ⟨rfl, rfl⟩
theorem u2_j {α : Type} {f : Nat → Nat → α} {a k j : Nat} {v : α} (h : j ≠ k) : mm_u2 f a k v a j = f a j := if_neg (fun e => h e.2)
theorem u2_r {α : Type} {f : Nat → Nat → α} {a k x : Nat} {v : α} (h : x ≠ a) : mm_u2 f a k v x = f x := funext fun j => if_neg (fun e => h e.1)
theorem u2_rj {α : Type} {f : Nat → Nat → α} {a k x j : Nat} {v : α} (h : x ≠ a) : mm_u2 f a k v x j = f x j := if_neg (fun e => h e.1)
-- counts
def cN (p : Nat → Bool) : Nat → Nat
  | 0 => 0
  | n + 1 => cN p n + (p n).toNat
theorem cN_le (p : Nat → Bool) : ∀ n, cN p n ≤ n
  | 0 => Nat.le_refl _
  | n + 1 => by
    have := cN_le p n
    have : (p n).toNat ≤ 1 := Bool.toNat_le _
    show cN p n + (p n).toNat ≤ n + 1
    omega
theorem cN_ext {p q : Nat → Bool} : ∀ {n : Nat}, (∀ s, s < n → p s = q s) → cN p n = cN q n
  | 0, _ => rfl
  | n + 1, h => by
    show cN p n + (p n).toNat = cN q n + (q n).toNat
    rw [cN_ext (fun s hs => h s (by omega)), h n (by omega)]
theorem cN_t {p : Nat → Bool} {n : Nat} (h : p n = true) : cN p (n + 1) = cN p n + 1 := by
  show cN p n + (p n).toNat = _
  rw [h]; rfl
theorem cN_f {p : Nat → Bool} {n : Nat} (h : p n = false) : cN p (n + 1) = cN p n := by
  show cN p n + (p n).toNat = _
  rw [h]; rfl
theorem cN_mono {p : Nat → Bool} : ∀ {a b : Nat}, a ≤ b → cN p a ≤ cN p b
  | a, 0, h => by
    have : a = 0 := by omega
    subst this; exact Nat.le_refl _
  | a, b + 1, h => by
    by_cases e : a = b + 1
    · subst e; exact Nat.le_refl _
    · have := cN_mono (p := p) (show a ≤ b by omega)
      have e2 : cN p (b + 1) = cN p b + (p b).toNat := rfl
      omega
theorem cN_none {p : Nat → Bool} {n : Nat} (h : ∀ s, s < n → p s = false) : cN p n = 0 := by
  induction n with
  | zero => rfl
  | succ n ih => rw [cN_f (h n (by omega))]; exact ih (fun s hs => h s (by omega))
theorem cN_zero {p : Nat → Bool} {n : Nat} (h : cN p n = 0) : ∀ s, s < n → p s = false := by
  intro s hs
  cases e : p s with
  | false => rfl
  | true =>
    have h1 := cN_t e
    have h2 := cN_mono (p := p) (show s + 1 ≤ n by omega)
    omega
def alN (p : Nat → Bool) : Nat → Bool
  | 0 => true
  | n + 1 => alN p n && p n
theorem alN_t {p : Nat → Bool} : ∀ {n : Nat}, (∀ s, s < n → p s = true) → alN p n = true
  | 0, _ => rfl
  | n + 1, h => by
    show (alN p n && p n) = true
    rw [alN_t (fun s hs => h s (by omega)), h n (by omega)]
    rfl
theorem alN_f {p : Nat → Bool} {s : Nat} (hp : p s = false) : ∀ {n : Nat}, s < n → alN p n = false
  | n + 1, h => by
    show (alN p n && p n) = false
    by_cases e : s = n
    · subst e; rw [hp, Bool.and_false]
    · rw [alN_f hp (show s < n by omega), Bool.false_and]
theorem alN_of {p : Nat → Bool} : ∀ {n : Nat}, alN p n = true → ∀ s, s < n → p s = true
  | n + 1, h, s, hs => by
    have h : (alN p n && p n) = true := h
    rw [Bool.and_eq_true] at h
    by_cases e : s = n
    · subst e; exact h.2
    · exact alN_of h.1 s (by omega)
def up (B : Nat → Bool) (s : Nat) (b : Bool) : Nat → Bool := fun x => if x = s then b else B x
theorem up_s {B : Nat → Bool} {s : Nat} {b : Bool} : up B s b s = b := if_pos rfl
theorem up_n {B : Nat → Bool} {s x : Nat} {b : Bool} (h : x ≠ s) : up B s b x = B x := if_neg h
theorem cN_up_lo {B : Nat → Bool} {s : Nat} {b : Bool} {n : Nat} (h : n ≤ s) : cN (up B s b) n = cN B n := cN_ext fun x hx => up_n (by omega)
theorem cN_up {B : Nat → Bool} {s : Nat} {b : Bool} : ∀ {n : Nat}, s < n → cN (up B s b) n + (B s).toNat = cN B n + b.toNat
  | n + 1, h => by
    by_cases e : s = n
    · subst e
      show cN (up B s b) s + (up B s b s).toNat + _ = cN B s + (B s).toNat + _
      rw [cN_up_lo (Nat.le_refl _), up_s]
      omega
    · have ih := cN_up (B := B) (b := b) (show s < n by omega)
      show cN (up B s b) n + (up B s b n).toNat + _ = cN B n + (B n).toNat + _
      rw [up_n (fun h => e h.symm)]
      omega
theorem up_same {B : Nat → Bool} {s : Nat} : up B s (B s) = B := funext fun x => by
  unfold up
  split
  · next h => rw [h]
  · rfl
/-- a loop that goes up, told from its end -/
theorem lp_up {W : Nat → Prop} {lo hi : Nat} (h : lo ≤ hi) (ex : W hi) (st : ∀ i, lo ≤ i → i < hi → W (i + 1) → W i) : W lo := by
  have g : ∀ k, k ≤ hi - lo → W (hi - k) := by
    intro k
    induction k with
    | zero => intro _; exact ex
    | succ k ih =>
      intro hk
      have := ih (by omega)
      have e : hi - k = hi - (k + 1) + 1 := by omega
      rw [e] at this
      exact st _ (by omega) (by omega) this
  have := g (hi - lo) (Nat.le_refl _)
  have e : hi - (hi - lo) = lo := by omega
  rw [e] at this
  exact this
/-- where a memory may differ from another -/
def fr (X : List Nat) (m m' : mm_Mem) : Prop := ∀ a, a ∉ X → m'.1 a = m.1 a ∧ m'.2 a = m.2 a
theorem fr.refl {X : List Nat} {m : mm_Mem} : fr X m m := fun _ _ => ⟨rfl, rfl⟩
theorem fr.trans {X : List Nat} {m1 m2 m3 : mm_Mem} (h : fr X m1 m2) (g : fr X m2 m3) : fr X m1 m3 := fun a ha => ⟨(g a ha).1.trans (h a ha).1, (g a ha).2.trans (h a ha).2⟩
theorem fr.mono {X Y : List Nat} {m m' : mm_Mem} (h : fr X m m') (hs : ∀ a, a ∈ X → a ∈ Y) : fr Y m m' := fun a ha => h a (fun e => ha (hs a e))
theorem fr.i {X : List Nat} {m m' : mm_Mem} (h : fr X m m') {a : Nat} (ha : a ∉ X) : m'.1 a = m.1 a := (h a ha).1
theorem fr.l {X : List Nat} {m m' : mm_Mem} (h : fr X m m') {a : Nat} (ha : a ∉ X) : m'.2 a = m.2 a := (h a ha).2
theorem fr_u2 {X : List Nat} {m : mm_Mem} {a k : Nat} {v : Int32} (h : a ∈ X) : fr X m (mm_u2 m.1 a k v, m.2) := fun x hx => ⟨u2_r (fun e => hx (by rw [e]; exact h)), rfl⟩
theorem fr_u2l {X : List Nat} {m : mm_Mem} {a k : Nat} {v : Int64} (h : a ∈ X) : fr X m (m.1, mm_u2 m.2 a k v) := fun x hx => ⟨rfl, u2_r (fun e => hx (by rw [e]; exact h))⟩
/-- a row of booleans -/
def rZ (r : Nat → Int32) (B : Nat → Bool) (n : Nat) : Prop := ∀ s, s < n → r s = nI (B s).toNat
