-- CHOICES that solve
def iI (z : Int) : Int32 := Int32.ofInt z
theorem iI_t {z : Int} (h1 : -2147483648 ≤ z) (h2 : z < 2147483648) : (iI z).toInt = z := by
  unfold iI
  rw [Int32.toInt_ofInt]
  exact bm h1 h2
theorem iI_add {a b : Int} : iI a + iI b = iI (a + b) := (Int32.ofInt_add a b).symm
theorem iI_mul {a b : Int} : iI a * iI b = iI (a * b) := (Int32.ofInt_mul a b).symm
theorem nI_iI {n : Nat} (h : n < 2147483648) : nI n = iI n := by
  rw [← Int32.toInt_inj, nI_toInt h, iI_t (by omega) (by omega)]
theorem iI_m1 : (-1 : Int32) = iI (-1) := by decide
def smN (f : Nat → Nat) (ch : Nat) : Nat → Nat
  | 0 => 0
  | c + 1 => smN f ch c + if ch.testBit c = true then f c else 0
def totN (f : Nat → Nat) : Nat → Nat
  | 0 => 0
  | c + 1 => totN f c + f c
theorem totN_le {f : Nat → Nat} (hf : ∀ j, f j ≤ 256) : ∀ c, totN f c ≤ 256 * c
  | 0 => Nat.le_refl _
  | c + 1 => by
    have := totN_le hf c
    have := hf c
    show totN f c + f c ≤ _
    omega
theorem smN_le {f : Nat → Nat} {ch : Nat} (hf : ∀ j, f j ≤ 256) : ∀ c, smN f ch c ≤ 256 * c
  | 0 => Nat.le_refl _
  | c + 1 => by
    have := smN_le (ch := ch) hf c
    have := hf c
    show smN f ch c + (if _ then f c else 0) ≤ _
    split <;> omega
theorem smN_or {f : Nat → Nat} {ch c : Nat} (hb : ch.testBit c = false) : ∀ n, smN f (ch ||| 1 <<< c) n = smN f ch n + if c < n then f c else 0
  | 0 => rfl
  | n + 1 => by
    have ih := smN_or (f := f) hb n
    show smN f (ch ||| 1 <<< c) n + (if (ch ||| 1 <<< c).testBit n = true then f n else 0) = smN f ch n + (if ch.testBit n = true then f n else 0) + _
    rw [ih, Nat.testBit_or, tb_shl]
    by_cases e : c = n
    · subst e
      rw [hb, decide_eq_true (show c = c from rfl), if_neg (Nat.lt_irrefl c), if_pos (by rfl), if_neg (by decide), if_pos (Nat.lt_succ_self c)]
    · have e8 : decide (c = n) = false := decide_eq_false e
      rw [e8, Bool.or_false]
      by_cases e2 : c < n
      · have e3 : c < n + 1 := by omega
        rw [if_pos e2, if_pos e3]; omega
      · have e3 : ¬ c < n + 1 := by omega
        rw [if_neg e2, if_neg e3]; omega
def slB (A : Nat → Nat → Nat) (R C aim ch : Nat) : Bool := alN (fun i => smN (A i) ch C == aim) R
abbrev NS : Type := Nat × Int32 × (Nat → Int32)
def ntS (ok : Nat → Bool) (w : Nat) (ch : Nat) (st : NS) : NS := if ok ch = true then (st.1 + 1, if st.1 = w then nI ch else st.2.1, if st.1 < 24 then ud st.2.2 st.1 (nI ch) else st.2.2) else st
def vis (ok : Nat → Bool) (w : Nat) : Nat → Nat → NS → NS
  | 0, ch, st => ntS ok w ch st
  | c + 1, ch, st => vis ok w c (ch ||| 1 <<< c) (vis ok w c ch st)
theorem vis_none {A : Nat → Nat → Nat} {R C aim w i : Nat} (hi : i < R) : ∀ (c ch : Nat) (st : NS), c ≤ C → (∀ j, j < c → ch.testBit j = false) → (aim < smN (A i) ch C ∨ smN (A i) ch C + totN (A i) c < aim) → vis (slB A R C aim) w c ch st = st
  | 0, ch, st, _, _, h => by
    have hne : smN (A i) ch C ≠ aim := by
      have e : totN (A i) 0 = 0 := rfl
      rw [e] at h
      omega
    show ntS _ w ch st = st
    unfold ntS
    have : slB A R C aim ch = false := alN_f (p := fun i => smN (A i) ch C == aim) (beq_eq_false_iff_ne.mpr hne) hi
    rw [this, if_neg (by decide)]
  | c + 1, ch, st, hc, hb, h => by
    have e : totN (A i) (c + 1) = totN (A i) c + A i c := rfl
    rw [e] at h
    have e2 := smN_or (f := A i) (hb c (by omega)) C
    rw [if_pos (by omega)] at e2
    show vis _ w c (ch ||| 1 <<< c) (vis _ w c ch st) = st
    rw [vis_none hi c ch st (by omega) (fun j hj => hb j (by omega)) (by omega)]
    refine vis_none hi c (ch ||| 1 <<< c) st (by omega) (fun j hj => ?_) (by omega)
    rw [Nat.testBit_or, hb j (by omega), tb_shl, decide_eq_false (by omega)]
    rfl
-- memory
def rNF (R : Nat) (nd fe : Nat → Int) (m : mm_Mem) : Prop := ∀ i, i < R → m.1 69 i = iI (nd i) ∧ m.1 70 i = iI (fe i)
def rA (A : Nat → Nat → Nat) (R C : Nat) (m : mm_Mem) : Prop := m.1 66 6 = nI R ∧ m.1 66 7 = nI C ∧ ∀ i, i < R → ∀ j, j < C → m.1 67 (14 * i + j) = nI (A i j)
theorem s_numberAt {d sn R C i j : Nat} {A : Nat → Nat → Nat} {m : mm_Mem} {P : Int32 → mm_Mem → Prop} (hA : rA A R C m) (hR : R ≤ 70) (hC : C ≤ 14) (hi : i < R) (hj : j < C) (h : P (nI (A i j)) m) : mm_sp (d + 1) sn kX1_numberAt [.ref 66, .int (nI i), .int (nI j)] m (qI P) := by
  refine v_X1_numberAt ?_
  have e0 : nI i * nI 14 + nI j = nI (14 * i + j) := by
    rw [e_mul, e_add, Nat.mul_comm]
  rw [e0]
  refine e_vF (by rw [e_lt0 (by omega)]; exact id) (e_vF (by rw [e_le (by omega) (by omega)]; omega) ?_)
  rw [e_vin (by omega) (by omega), e_cl (by omega), hA.2.2 i hi j hj]
  exact ⟨by omega, h⟩
theorem s_change {d sn R C c : Nat} {A : Nat → Nat → Nat} {nd fe : Nat → Int} {a b : Int} {m : mm_Mem} {P : mm_Mem → Prop} (hA : rA A R C m) (hR : R ≤ 70) (hC : C ≤ 14) (hA8 : ∀ i j, A i j ≤ 256) (hc : c < C) (hN : rNF R nd fe m) (h : ∀ m', fz 69 70 m m' → rNF R (fun i => nd i + a * A i c) (fun i => fe i + b * A i c) m' → P m') : mm_sp (d + 2) sn kX1_change [.ref 66, .int (nI c), .int (iI a), .int (iI b)] m (qV P) := by
  refine v_X1_change ?_
  have rA_of : ∀ m', fz 69 70 m m' → rA A R C m' := fun m' g => by
    unfold rA
    rw [g.i (by omega), g.i (by omega)]
    exact hA
  refine lp_up (W := fun i => ∀ m1, fz 69 70 m m1 → (∀ x, x < i → m1.1 69 x = iI (nd x + a * A x c) ∧ m1.1 70 x = iI (fe x + b * A x c)) → (∀ x, i ≤ x → x < R → m1.1 69 x = iI (nd x) ∧ m1.1 70 x = iI (fe x)) → mm_wp (d + 1) sn kX1_change 3 [some (.ref 66), some (.int (nI c)), some (.int (iI a)), some (.int (iI b)), some (.int (nI i)), none] [] m1 (qV P)) (Nat.zero_le R) ?_ ?_ m fz.refl (fun x hx => by omega) (fun x _ hx => hN x hx)
  · intro m1 g0 g1 _
    refine v_X1_change_3 ?_
    rw [(rA_of m1 g0).1]
    exact e_vT (by rw [e_le (by omega) (by omega)]; omega) (h m1 g0 g1)
  · intro i _ hi ih m1 g0 g1 g2
    refine v_X1_change_3 ?_
    rw [(rA_of m1 g0).1]
    refine e_vF (by rw [e_le (by omega) (by omega)]; omega) (e_vF (by rw [e_le (by omega) (by omega)]; omega) (e_vF (by rw [e_le (by omega) (by omega)]; omega) ?_))
    refine s_numberAt (rA_of m1 g0) hR hC hi hc ?_
    have h8 := hA8 i c
    obtain ⟨n1, n2⟩ := g2 i (Nat.le_refl i) hi
    rw [e_vin (by omega) (by omega), e_cl (by omega), n1, nI_iI (n := A i c) (by omega), iI_mul, iI_mul, iI_add, e_add]
    refine ⟨by omega, by omega, fun m2 e2 => ⟨by omega, by omega, fun m3 e3 => ?_⟩⟩
    have n3 : m2.1 70 i = iI (fe i) := by
      subst e2
      show mm_u2 m1.1 69 i (iI (nd i + a * A i c)) 70 i = _
      rw [u2_rj (by omega)]; exact n2
    rw [n3, iI_add] at e3
    have q69 : ∀ x, m3.1 69 x = if x = i then iI (nd i + a * A i c) else m1.1 69 x := by
      intro x
      subst e2; subst e3
      show mm_u2 (mm_u2 m1.1 69 i (iI (nd i + a * A i c))) 70 i (iI (fe i + b * A i c)) 69 x = _
      rw [u2_rj (by omega)]
      by_cases e : x = i
      · subst e; rw [u2_s, if_pos rfl]
      · rw [u2_j e, if_neg e]
    have q70 : ∀ x, m3.1 70 x = if x = i then iI (fe i + b * A i c) else m1.1 70 x := by
      intro x
      subst e2; subst e3
      show mm_u2 (mm_u2 m1.1 69 i (iI (nd i + a * A i c))) 70 i (iI (fe i + b * A i c)) 70 x = _
      by_cases e : x = i
      · subst e; rw [u2_s, if_pos rfl]
      · rw [u2_j e, u2_rj (by omega), if_neg e]
    refine ih m3 (g0.trans ?_) (fun x hx => ?_) (fun x hx hxR => ?_)
    · subst e2; subst e3
      exact (fz_u2 (by omega) (by omega)).trans (fz_u2 (m := (_, _)) (by omega) (by omega))
    · rw [q69, q70]
      by_cases e : x = i
      · subst e; rw [if_pos rfl, if_pos rfl]; exact ⟨rfl, rfl⟩
      · rw [if_neg e, if_neg e]; exact g1 x (by omega)
    · rw [q69, q70, if_neg (by omega), if_neg (by omega)]
      exact g2 x (by omega) hxR
def cslB (R : Nat) (nd fe : Nat → Int) : Bool := alN (fun i => decide (0 ≤ nd i ∧ nd i ≤ fe i)) R
theorem s_canSolve {d sn R : Nat} {nd fe : Nat → Int} {m : mm_Mem} {P : Int32 → mm_Mem → Prop} (h6 : m.1 66 6 = nI R) (hR : R ≤ 70) (hb : ∀ i, i < R → (-100000 ≤ nd i ∧ nd i ≤ 100000) ∧ -100000 ≤ fe i ∧ fe i ≤ 100000) (hN : rNF R nd fe m) (h : P (nI (cslB R nd fe).toNat) m) : mm_sp (d + 1) sn kX1_canSolve [.ref 66] m (qI P) := by
  refine v_X1_canSolve ?_
  refine lp_up (W := fun i => (∀ x, x < i → decide (0 ≤ nd x ∧ nd x ≤ fe x) = true) → mm_wp d sn kX1_canSolve 2 [some (.ref 66), some (.int (nI i))] [] m (qI P)) (Nat.zero_le R) ?_ ?_ (fun x hx => by omega)
  · intro hx
    refine v_X1_canSolve_2 ?_
    rw [h6]
    refine e_vT (by rw [e_le (by omega) (by omega)]; omega) ?_
    rw [show cslB R nd fe = true from alN_t hx] at h
    exact h
  · intro i _ hi ih hx
    refine v_X1_canSolve_2 ?_
    rw [h6]
    refine e_vF (by rw [e_le (by omega) (by omega)]; omega) (e_vF (by rw [e_le (by omega) (by omega)]; omega) (e_vF (by rw [e_le (by omega) (by omega)]; omega) ?_))
    obtain ⟨n1, n2⟩ := hN i hi
    obtain ⟨b1, b2⟩ := hb i hi
    rw [e_vin (by omega) (by omega), e_cl (by omega), n1, n2, e_add]
    have c0 : (iI (nd i) < 0) = (nd i < 0) := by
      apply propext
      rw [Int32.lt_iff_toInt_lt, iI_t (by omega) (by omega)]
      exact Iff.rfl
    have c1 : (iI (nd i) ≤ iI (fe i)) = (nd i ≤ fe i) := by
      apply propext
      rw [Int32.le_iff_toInt_le, iI_t (by omega) (by omega), iI_t (by omega) (by omega)]
    rw [c0, c1]
    have bad : decide (0 ≤ nd i ∧ nd i ≤ fe i) = false → P (nI 0) m := by
      intro e
      rw [show cslB R nd fe = false from alN_f (p := fun i => decide (0 ≤ nd i ∧ nd i ≤ fe i)) e hi] at h
      exact h
    refine ⟨by omega, fun e => bad (decide_eq_false (by omega)), fun e => ⟨by omega, by omega, fun e2 => ih (fun x hxi => ?_), fun e2 => bad (decide_eq_false (by omega))⟩⟩
    by_cases e3 : x = i
    · subst e3; exact decide_eq_true (by omega)
    · exact hx x (by omega)
/-- the solutions noted so far -/
def rNt (w : Int32) (st : NS) (m : mm_Mem) : Prop := m.1 66 8 = w ∧ m.1 66 9 = nI st.1 ∧ m.1 66 11 = st.2.1 ∧ ∀ i, i < 24 → i < st.1 → m.1 72 i = st.2.2 i
def ntI (ok : Nat → Bool) (w : Int32) (ch : Nat) (st : NS) : NS := if ok ch = true then (st.1 + 1, if nI st.1 = w then nI ch else st.2.1, if st.1 < 24 then ud st.2.2 st.1 (nI ch) else st.2.2) else st
def viI (ok : Nat → Bool) (w : Int32) : Nat → Nat → NS → NS
  | 0, ch, st => ntI ok w ch st
  | c + 1, ch, st => viI ok w c (ch ||| 1 <<< c) (viI ok w c ch st)
theorem viI_cnt {ok : Nat → Bool} {w : Int32} : ∀ (c ch : Nat) (st : NS), (viI ok w c ch st).1 ≤ st.1 + 2 ^ c
  | 0, ch, st => by
    show (ntI ok w ch st).1 ≤ st.1 + 1
    unfold ntI
    split
    · exact Nat.le_refl _
    · exact Nat.le_succ _
  | c + 1, ch, st => by
    have h1 := viI_cnt (ok := ok) (w := w) c ch st
    have h2 := viI_cnt (ok := ok) (w := w) c (ch ||| 1 <<< c) (viI ok w c ch st)
    show (viI ok w c (ch ||| 1 <<< c) (viI ok w c ch st)).1 ≤ st.1 + 2 ^ (c + 1)
    rw [Nat.pow_succ]
    omega
theorem viI_none {A : Nat → Nat → Nat} {R C aim i : Nat} {w : Int32} (hi : i < R) : ∀ (c ch : Nat) (st : NS), c ≤ C → (∀ j, j < c → ch.testBit j = false) → (aim < smN (A i) ch C ∨ smN (A i) ch C + totN (A i) c < aim) → viI (slB A R C aim) w c ch st = st
  | 0, ch, st, _, _, h => by
    have hne : smN (A i) ch C ≠ aim := by
      have e : totN (A i) 0 = 0 := rfl
      rw [e] at h
      omega
    show ntI _ w ch st = st
    unfold ntI
    have : slB A R C aim ch = false := alN_f (p := fun i => smN (A i) ch C == aim) (beq_eq_false_iff_ne.mpr hne) hi
    rw [this, if_neg (by decide)]
  | c + 1, ch, st, hc, hb, h => by
    have e : totN (A i) (c + 1) = totN (A i) c + A i c := rfl
    rw [e] at h
    have e2 := smN_or (f := A i) (hb c (by omega)) C
    rw [if_pos (by omega)] at e2
    show viI _ w c (ch ||| 1 <<< c) (viI _ w c ch st) = st
    rw [viI_none hi c ch st (by omega) (fun j hj => hb j (by omega)) (by omega)]
    refine viI_none hi c (ch ||| 1 <<< c) st (by omega) (fun j hj => ?_) (by omega)
    have e8 : decide (c = j) = false := decide_eq_false (by omega)
    rw [Nat.testBit_or, hb j (by omega), tb_shl, e8]
    rfl
theorem s_note {d sn ch : Nat} {w : Int32} {st : NS} {ok : Nat → Bool} {m : mm_Mem} {P : mm_Mem → Prop} (hok : ok ch = true) (hst : st.1 < 100000) (hN : rNt w st m) (h : ∀ m', fz 66 72 m m' → (∀ x, x ≠ 66 → x ≠ 72 → m'.1 x = m.1 x) → (∀ x, x < 9 → m'.1 66 x = m.1 66 x) → rNt w (ntI ok w ch st) m' → P m') : mm_sp (d + 1) sn kX1_noteSolution [.ref 66, .int (nI ch)] m (qV P) := by
  obtain ⟨g8, g9, g11, g72⟩ := hN
  refine v_X1_noteSolution ?_
  have en : ntI ok w ch st = (st.1 + 1, if nI st.1 = w then nI ch else st.2.1, if st.1 < 24 then ud st.2.2 st.1 (nI ch) else st.2.2) := by unfold ntI; rw [if_pos hok]
  rw [en] at h
  -- the part behind the answer
  have tail : ∀ m1 : mm_Mem, fz 66 72 m m1 → (∀ x, x ≠ 66 → m1.1 x = m.1 x) → (∀ x, x ≠ 11 → m1.1 66 x = m.1 66 x) → m1.1 66 11 = (if nI st.1 = w then nI ch else st.2.1) → (∀ m2 : mm_Mem, m2 = (mm_u2 (mm_u2 m1.1 72 st.1 (nI ch)) 66 9 (nI (st.1 + 1)), m1.2) → st.1 < 24 → P m2) ∧ (∀ m2 : mm_Mem, m2 = (mm_u2 m1.1 66 9 (nI (st.1 + 1)), m1.2) → ¬ st.1 < 24 → P m2) := by
    intro m1 f1 r1 r2 r3
    refine ⟨fun m2 e2 c => h m2 ?_ ?_ ?_ ⟨?_, ?_, ?_, fun i h24 hi => ?_⟩, fun m2 e2 c => h m2 ?_ ?_ ?_ ⟨?_, ?_, ?_, fun i h24 hi => ?_⟩⟩
    · refine f1.trans ?_
      subst e2
      exact (fz_u2 (by omega) (by omega)).trans (fz_u2 (m := (_, _)) (by omega) (by omega))
    · intro x h6 h7
      subst e2
      show mm_u2 (mm_u2 m1.1 72 st.1 (nI ch)) 66 9 (nI (st.1 + 1)) x = _
      rw [u2_r h6, u2_r h7]; exact r1 x h6
    · intro x hx
      subst e2
      show mm_u2 (mm_u2 m1.1 72 st.1 (nI ch)) 66 9 (nI (st.1 + 1)) 66 x = _
      rw [u2_j (by omega), u2_rj (by omega)]; exact r2 x (by omega)
    · subst e2
      show mm_u2 (mm_u2 m1.1 72 st.1 (nI ch)) 66 9 (nI (st.1 + 1)) 66 8 = _
      rw [u2_j (by omega), u2_rj (by omega), r2 8 (by omega)]; exact g8
    · subst e2
      show mm_u2 (mm_u2 m1.1 72 st.1 (nI ch)) 66 9 (nI (st.1 + 1)) 66 9 = _
      rw [u2_s]
    · subst e2
      show mm_u2 (mm_u2 m1.1 72 st.1 (nI ch)) 66 9 (nI (st.1 + 1)) 66 11 = _
      rw [u2_j (by omega), u2_rj (by omega)]; exact r3
    · subst e2
      show mm_u2 (mm_u2 m1.1 72 st.1 (nI ch)) 66 9 (nI (st.1 + 1)) 72 i = (if st.1 < 24 then ud st.2.2 st.1 (nI ch) else st.2.2) i
      have hi : i < st.1 + 1 := hi
      rw [u2_rj (by omega), if_pos c]
      by_cases e : i = st.1
      · subst e; rw [u2_s, ud_s]
      · rw [u2_j e, ud_n e, r1 72 (by omega)]
        exact g72 i h24 (by omega)
    · refine f1.trans ?_
      subst e2
      exact fz_u2 (by omega) (by omega)
    · intro x h6 h7
      subst e2
      show mm_u2 m1.1 66 9 (nI (st.1 + 1)) x = _
      rw [u2_r h6]; exact r1 x h6
    · intro x hx
      subst e2
      show mm_u2 m1.1 66 9 (nI (st.1 + 1)) 66 x = _
      rw [u2_j (by omega)]; exact r2 x (by omega)
    · subst e2
      show mm_u2 m1.1 66 9 (nI (st.1 + 1)) 66 8 = _
      rw [u2_j (by omega), r2 8 (by omega)]; exact g8
    · subst e2
      show mm_u2 m1.1 66 9 (nI (st.1 + 1)) 66 9 = _
      rw [u2_s]
    · subst e2
      show mm_u2 m1.1 66 9 (nI (st.1 + 1)) 66 11 = _
      rw [u2_j (by omega)]; exact r3
    · subst e2
      show mm_u2 m1.1 66 9 (nI (st.1 + 1)) 72 i = (if st.1 < 24 then ud st.2.2 st.1 (nI ch) else st.2.2) i
      rw [u2_rj (by omega), if_neg c, r1 72 (by omega)]
      exact g72 i h24 (by omega)
  rw [g9, g8]
  refine ⟨fun c => ?_, fun c m5 e5 => ?_⟩
  · obtain ⟨t1, t2⟩ := tail m fz.refl (fun _ _ => rfl) (fun _ _ => rfl) (by rw [if_neg c]; exact g11)
    refine e_vF (by rw [e_lt0 (by omega)]; exact id) ?_
    rw [e_le (by omega) (by omega), e_add]
    refine ⟨fun c2 m2 e2 => t2 m2 e2 (by omega), fun c2 => ?_⟩
    rw [e_vin (by omega) (by omega), e_cl (by omega)]
    refine ⟨by omega, fun m3 e3 m4 e4 => t1 m4 ?_ (by omega)⟩
    have e9 : m3.1 66 9 = nI st.1 := by
      subst e3
      show mm_u2 m.1 72 st.1 (nI ch) 66 9 = _
      rw [u2_rj (by omega)]; exact g9
    rw [e9, e_add] at e4
    rw [e4, e3]
  · have c := Classical.not_not.mp c
    have f5 : fz 66 72 m m5 := by subst e5; exact fz_u2 (by omega) (by omega)
    have r1 : ∀ x, x ≠ 66 → m5.1 x = m.1 x := by
      intro x hx
      subst e5
      show mm_u2 m.1 66 11 (nI ch) x = _
      rw [u2_r hx]
    have r2 : ∀ x, x ≠ 11 → m5.1 66 x = m.1 66 x := by
      intro x hx
      subst e5
      show mm_u2 m.1 66 11 (nI ch) 66 x = _
      rw [u2_j hx]
    have r3 : m5.1 66 11 = nI ch := by
      subst e5
      show mm_u2 m.1 66 11 (nI ch) 66 11 = _
      rw [u2_s]
    obtain ⟨t1, t2⟩ := tail m5 f5 r1 r2 (by rw [if_pos c]; exact r3)
    have e59 : m5.1 66 9 = nI st.1 := (r2 9 (by omega)).trans g9
    rw [e59]
    refine e_vF (by rw [e_lt0 (by omega)]; exact id) ?_
    rw [e_le (by omega) (by omega), e_add]
    refine ⟨fun c2 m2 e2 => t2 m2 e2 (by omega), fun c2 => ?_⟩
    rw [e_vin (by omega) (by omega), e_cl (by omega)]
    refine ⟨by omega, fun m3 e3 m4 e4 => t1 m4 ?_ (by omega)⟩
    have e9 : m3.1 66 9 = nI st.1 := by
      subst e3
      show mm_u2 m5.1 72 st.1 (nI ch) 66 9 = _
      rw [u2_rj (by omega)]; exact e59
    rw [e9, e_add] at e4
    rw [e4, e3]
