-- THE MODEL: sum, solves, nth; the class's walk as a count through all choices
def itI (ok : Nat → Bool) (w : Int32) (a : Nat) : Nat → NS → NS
  | 0, st => st
  | n + 1, st => ntI ok w (a + n) (itI ok w a n st)
theorem itI_add {ok : Nat → Bool} {w : Int32} {a m : Nat} {st : NS} : ∀ n, itI ok w a (m + n) st = itI ok w (a + m) n (itI ok w a m st)
  | 0 => rfl
  | n + 1 => by
    show ntI ok w (a + (m + n)) (itI ok w a (m + n) st) = ntI ok w (a + m + n) _
    rw [itI_add n, Nat.add_assoc]
theorem viI_it {ok : Nat → Bool} {w : Int32} : ∀ (c q : Nat) (st : NS), viI ok w c (2 ^ c * q) st = itI ok w (2 ^ c * q) (2 ^ c) st
  | 0, q, st => by
    rw [Nat.pow_zero, Nat.one_mul]
    rfl
  | c + 1, q, st => by
    have e1 : 2 ^ (c + 1) * q = 2 ^ c * (2 * q) := by rw [Nat.pow_succ, Nat.mul_assoc]
    have hlt : 2 ^ c < 2 ^ (c + 1) := Nat.pow_lt_pow_right (by decide) (by omega)
    have e2 : 2 ^ (c + 1) * q ||| 1 <<< c = 2 ^ c * (2 * q + 1) := by
      rw [Nat.shiftLeft_eq, Nat.one_mul, ← Nat.two_pow_add_eq_or_of_lt hlt, e1, Nat.mul_add, Nat.mul_one]
    show viI ok w c (2 ^ (c + 1) * q ||| 1 <<< c) (viI ok w c (2 ^ (c + 1) * q) st) = _
    rw [e2, e1, viI_it c, viI_it c]
    have e3 : 2 ^ (c + 1) = 2 ^ c + 2 ^ c := by rw [Nat.pow_succ]; omega
    rw [e3, itI_add, Nat.mul_add, Nat.mul_one]
theorem viI_0 {ok : Nat → Bool} {w : Int32} {c : Nat} {st : NS} : viI ok w c 0 st = itI ok w 0 (2 ^ c) st := by
  have h := viI_it (ok := ok) (w := w) c 0 st
  rw [Nat.mul_zero] at h
  exact h
theorem it_1 {ok : Nat → Bool} {w x : Int32} {f : Nat → Int32} : ∀ n, (itI ok w 0 n (0, x, f)).1 = cN ok n
  | 0 => rfl
  | n + 1 => by
    have ih := it_1 (ok := ok) (w := w) (x := x) (f := f) n
    show (ntI ok w (0 + n) (itI ok w 0 n (0, x, f))).1 = _
    unfold ntI
    rw [Nat.zero_add]
    cases e : ok n with
    | true => rw [if_pos rfl, cN_t e, ← ih]
    | false => rw [if_neg (by decide), cN_f e, ih]
theorem it_2 {ok : Nat → Bool} {w : Int32} {f : Nat → Int32} : ∀ n, n < 100000 → (∀ ch, ch < n → ok ch = true → nI (cN ok ch) = w → (itI ok w 0 n (0, -5, f)).2.1 = nI ch) ∧ ((∀ ch, ch < n → ok ch = true → nI (cN ok ch) ≠ w) → (itI ok w 0 n (0, -5, f)).2.1 = -5)
  | 0, _ => ⟨fun ch h => by omega, fun _ => rfl⟩
  | n + 1, hn => by
    have ih := it_2 (ok := ok) (w := w) (f := f) n (by omega)
    have e1 := it_1 (ok := ok) (w := w) (x := -5) (f := f) n
    have es : itI ok w 0 (n + 1) (0, -5, f) = ntI ok w n (itI ok w 0 n (0, -5, f)) := by
      show ntI ok w (0 + n) _ = _
      rw [Nat.zero_add]
    rw [es]
    unfold ntI
    rw [e1]
    cases e : ok n with
    | false =>
      rw [if_neg (by decide)]
      refine ⟨fun ch h1 h2 h3 => ?_, fun h => ih.2 (fun ch h1 => h ch (by omega))⟩
      by_cases e2 : ch = n
      · subst e2; rw [e] at h2; cases h2
      · exact ih.1 ch (by omega) h2 h3
    | true =>
      rw [if_pos rfl]
      by_cases e3 : nI (cN ok n) = w
      · rw [if_pos e3]
        refine ⟨fun ch h1 h2 h3 => ?_, fun h => absurd e3 (h n (by omega) e)⟩
        have l1 := cN_le ok ch
        have l2 := cN_le ok n
        have e4 := e_in (by omega) (by omega) (h3.trans e3.symm)
        rw [cN_inj h2 e e4]
      · rw [if_neg e3]
        refine ⟨fun ch h1 h2 h3 => ?_, fun h => ih.2 (fun ch h1 => h ch (by omega))⟩
        by_cases e2 : ch = n
        · subst e2; exact absurd h3 e3
        · exact ih.1 ch (by omega) h2 h3
theorem it_3 {ok : Nat → Bool} {w x : Int32} {f : Nat → Int32} : ∀ n, ∀ ch, ch < n → ok ch = true → cN ok ch < 24 → (itI ok w 0 n (0, x, f)).2.2 (cN ok ch) = nI ch
  | 0, ch, h, _, _ => by omega
  | n + 1, ch, h1, h2, h3 => by
    have ih := it_3 (ok := ok) (w := w) (x := x) (f := f) n
    have e1 := it_1 (ok := ok) (w := w) (x := x) (f := f) n
    have es : itI ok w 0 (n + 1) (0, x, f) = ntI ok w n (itI ok w 0 n (0, x, f)) := by
      show ntI ok w (0 + n) _ = _
      rw [Nat.zero_add]
    rw [es]
    unfold ntI
    rw [e1]
    by_cases e2 : ch = n
    · subst e2
      rw [if_pos h2]
      show (if cN ok ch < 24 then ud _ (cN ok ch) (nI ch) else _) (cN ok ch) = _
      rw [if_pos h3, ud_s]
    · have hl := ih ch (by omega) h2 h3
      have hm := cN_mono (p := ok) (show ch + 1 ≤ n by omega)
      rw [cN_t h2] at hm
      cases e : ok n with
      | false => rw [if_neg (by decide)]; exact hl
      | true =>
        rw [if_pos rfl]
        show (if cN ok n < 24 then ud _ (cN ok n) (nI n) else _) (cN ok ch) = _
        split
        · rw [ud_n (by omega)]; exact hl
        · exact hl
theorem smN_le2 {f : Nat → Nat} (hf : ∀ j, f j ≤ 256) {ch : Nat} : ∀ c, smN f ch c ≤ 256 * c
  | 0 => Nat.le_refl _
  | c + 1 => by
    have := smN_le2 hf (ch := ch) c
    have := hf c
    show smN f ch c + (if ch.testBit c = true then f c else 0) ≤ _
    split <;> omega
theorem m_sum {d sn t k i ch : Nat} {S : St} {m : mm_Mem} {P : Int32 → mm_Mem → Prop} (hok : okS S) (hO : rOm (sN S) (fndS S).1 (fndS S).2 m) (hT : rTb S t k m) (hk : k ≤ sN S) (hC : (fndS S).2 k ≤ 14) (hi : i < (fndS S).2 t) (hi7 : i < 70) (hc : ch < 2147483648) (h : P (nI (smN (tA S t k i) ch ((fndS S).2 k))) m) : mm_sp (d + 1) sn kX11_sum [.ref 82, .int (nI i), .int (nI k), .int (nI ch)] m (qI P) := by
  have h8 := hok.1.2
  refine v_X11_sum ?_
  refine lp_up (W := fun j => mm_wp d sn kX11_sum 6 [some (.ref 82), some (.int (nI i)), some (.int (nI k)), some (.int (nI ch)), some (.int (nI (smN (tA S t k i) ch j))), some (.int (nI j))] [] m (qI P)) (Nat.zero_le ((fndS S).2 k)) ?_ ?_
  · refine v_X11_sum_6 ?_
    rw [e_vin (by omega) (by omega), e_cl (by omega), hO.2 k hk]
    exact ⟨by omega, e_vT (Int32.le_refl _) h⟩
  · intro j _ hj ih
    refine v_X11_sum_6 ?_
    have es : smN (tA S t k i) ch (j + 1) = smN (tA S t k i) ch j + if ch.testBit j = true then tA S t k i j else 0 := rfl
    have hl : (ch >>> j) &&& 1 ≤ 1 := Nat.and_le_right
    rw [e_vin (by omega) (by omega), e_cl (by omega), hO.2 k hk, e_shr hc (by omega), e_and, e_eq (by omega) (by omega), e_bit, e_add, e_add, Nat.add_zero, e_vin (by omega) (by omega), e_cl (by omega)]
    refine ⟨by omega, e_vF (by rw [e_le (by omega) (by omega)]; omega) ⟨fun c => ?_, fun c => ⟨i, hi7, rfl, by omega, ?_⟩⟩⟩
    · rw [es, if_neg c] at ih; exact ih
    · rw [es, if_pos (Classical.not_not.mp c)] at ih
      rw [hT.1 i hi j hj, e_add]
      exact ih
theorem m_solves {d sn t k aim ch : Nat} {S : St} {m : mm_Mem} {P : Int32 → mm_Mem → Prop} (hok : okS S) (hO : rOm (sN S) (fndS S).1 (fndS S).2 m) (hT : rTb S t k m) (ht : t ≤ sN S) (hk : k ≤ sN S) (hC : (fndS S).2 k ≤ 14) (ha : aim < 1000) (hc : ch < 2147483648) (h : P (nI (slB (tA S t k) ((fndS S).2 t) ((fndS S).2 k) aim ch).toNat) m) : mm_sp (d + 2) sn kX11_solves [.ref 82, .int (nI t), .int (nI k), .int (nI aim), .int (nI ch)] m (qI P) := by
  have h8 := hok.1.2
  have ht70 := fnd_70 hok (show t < 11 by omega)
  refine v_X11_solves ?_
  refine lp_up (W := fun i => (∀ i', i' < i → (smN (tA S t k i') ch ((fndS S).2 k) == aim) = true) → mm_wp (d + 1) sn kX11_solves 3 [some (.ref 82), some (.int (nI t)), some (.int (nI k)), some (.int (nI aim)), some (.int (nI ch)), some (.int (nI i))] [] m (qI P)) (Nat.zero_le ((fndS S).2 t)) ?_ ?_ (fun i' hi' => by omega)
  · intro hn
    refine v_X11_solves_3 ?_
    rw [e_vin (by omega) (by omega), e_cl (by omega), hO.2 t ht]
    rw [show slB (tA S t k) ((fndS S).2 t) ((fndS S).2 k) aim ch = true from alN_t hn] at h
    exact ⟨by omega, e_vT (Int32.le_refl _) h⟩
  · intro i _ hi ih hn
    refine v_X11_solves_3 ?_
    rw [e_vin (by omega) (by omega), e_cl (by omega), hO.2 t ht]
    refine ⟨by omega, e_vF (by rw [e_le (by omega) (by omega)]; omega) (m_sum hok hO hT hk hC hi (by omega) hc ?_)⟩
    have hs := smN_le2 (tA_8 (S := S) (t := t) (k := k) i) (ch := ch) ((fndS S).2 k)
    rw [e_eq (by omega) (by omega), e_add]
    refine ⟨fun c => ih (fun i' hi' => ?_), fun c => ?_⟩
    · by_cases e : i' = i
      · subst e; exact beq_iff_eq.mpr c
      · exact hn i' (by omega)
    · rw [show slB (tA S t k) ((fndS S).2 t) ((fndS S).2 k) aim ch = false from alN_f (p := fun i => smN (tA S t k i) ch ((fndS S).2 k) == aim) (beq_eq_false_iff_ne.mpr c) hi] at h
      exact h
theorem p2_14 {c : Nat} (h : c ≤ 14) : 2 ^ c ≤ 16384 := Nat.pow_le_pow_right (n := 2) (by decide) h
theorem m_nth {d sn t k aim : Nat} {w : Int32} {S : St} {m : mm_Mem} {P : Int32 → mm_Mem → Prop} (hok : okS S) (hO : rOm (sN S) (fndS S).1 (fndS S).2 m) (hT : rTb S t k m) (ht : t ≤ sN S) (hk : k ≤ sN S) (hC : (fndS S).2 k ≤ 14) (ha : aim < 1000) (h1 : ¬ 0 ≤ w → P (nI (cN (slB (tA S t k) ((fndS S).2 t) ((fndS S).2 k) aim) (2 ^ (fndS S).2 k))) m) (h2 : 0 ≤ w → P (viI (slB (tA S t k) ((fndS S).2 t) ((fndS S).2 k) aim) w ((fndS S).2 k) 0 (0, -5, fun _ => 0)).2.1 m) : mm_sp (d + 3) sn kX11_nth [.ref 82, .int (nI t), .int (nI k), .int (nI aim), .int w] m (qI P) := by
  have h8 := hok.1.2
  have h14 := p2_14 hC
  rw [viI_0] at h2
  generalize hok2 : slB (tA S t k) ((fndS S).2 t) ((fndS S).2 k) aim = ok at h1 h2
  obtain ⟨i1, i2⟩ := it_2 (ok := ok) (w := w) (f := fun _ => 0) (2 ^ (fndS S).2 k) (by omega)
  refine v_X11_nth ?_
  refine lp_up (W := fun s => (∀ ch, ch < s → ok ch = true → nI (cN ok ch) ≠ w) → mm_wp (d + 2) sn kX11_nth 6 [some (.ref 82), some (.int (nI t)), some (.int (nI k)), some (.int (nI aim)), some (.int w), some (.int (nI (cN ok s))), some (.int (nI s))] [] m (qI P)) (Nat.zero_le (2 ^ (fndS S).2 k)) ?_ ?_ (fun ch h => by omega)
  · intro hn
    refine v_X11_nth_6 ?_
    rw [e_vin (by omega) (by omega), e_cl (by omega), hO.2 k hk, e_shl (by omega), Nat.shiftLeft_eq, Nat.one_mul]
    refine ⟨by omega, e_vT (Int32.le_refl _) ⟨fun c => ?_, fun c => h1 c⟩⟩
    have := h2 c
    rw [i2 hn] at this
    exact this
  · intro s _ hs ih hn
    refine v_X11_nth_6 ?_
    rw [e_vin (by omega) (by omega), e_cl (by omega), hO.2 k hk, e_shl (by omega), Nat.shiftLeft_eq, Nat.one_mul, e_add, e_add]
    refine ⟨by omega, e_vF (by rw [e_le (by omega) (by omega)]; omega) (m_solves hok hO hT ht hk hC ha (by omega) ?_)⟩
    rw [hok2]
    refine e_vz (fun e => ?_) (fun e => ⟨fun c => ?_, fun c => ?_⟩)
    · rw [cN_f e] at ih
      refine ih (fun ch hh h3 => ?_)
      by_cases e2 : ch = s
      · subst e2; rw [e] at h3; cases h3
      · exact hn ch (by omega) h3
    · rw [cN_t e] at ih
      refine ih (fun ch hh h3 => ?_)
      by_cases e2 : ch = s
      · subst e2; exact c
      · exact hn ch (by omega) h3
    · have c := Classical.not_not.mp c
      have hl := cN_le ok s
      have h0 : 0 ≤ w := by rw [← c, e_0le (by omega)]; trivial
      have := h2 h0
      rw [i1 s hs e c] at this
      exact this
theorem e_l70 : lN 70 = (nI 70).toInt64 := by decide
theorem s_inAim {d sn : Nat} {v : Int32} {m : mm_Mem} {P : Int32 → mm_Mem → Prop} (h : P (nI (imB v).toNat) m) : mm_sp (d + 1) sn kX11_in [.long v.toInt64, .long (lN 1), .long (lN 70)] m (qI P) := by
  rw [e_l1, e_l70]
  refine s_inC ?_
  have e : decide (¬ v < nI 1 ∧ v ≤ nI 70) = imB v := by
    unfold imB
    by_cases c : v < nI 1
    · rw [decide_eq_true c, decide_eq_false (fun hh => hh.1 c)]; rfl
    · rw [decide_eq_false c]
      by_cases c2 : nI 70 < v
      · rw [decide_eq_true c2, decide_eq_false (fun hh => Int32.not_le.mpr c2 hh.2)]; rfl
      · rw [decide_eq_false c2, decide_eq_true ⟨c, Int32.not_lt.mp c2⟩]; rfl
  rw [e]
  exact h
theorem sol_1 {S : St} {t k a : Nat} : (solS S t k a (nI 0)).1 = cN (slB (tA S t k) ((fndS S).2 t) ((fndS S).2 k) a) (2 ^ (fndS S).2 k) := by
  unfold solS
  rw [viI_0, it_1]
theorem m_solved {d sn : Nat} {X : GS} {t k a w : Int32} {m : mm_Mem} {P : Int32 → mm_Mem → Prop} (hX : okX X) (hI : mI X m) (h : ∀ m', fz 82 211 m m' → mI X m' → P (A_solved X.1 t k a w) m') : mm_sp (d + 5) sn kX11_solved [.ref 82, .int t, .int k, .int a, .int w] m (qI P) := by
  refine v_X11_solved ?_
  have hN := hX.1.1.2
  unfold A_solved at h
  refine m_areSizes hI.1.1.1 hN (e_vz (fun e => ?_) (fun e => ?_))
  · rw [if_pos e] at h
    exact h m fz.refl hI
  · rw [if_neg (by rw [e]; decide)] at h
    obtain ⟨t, k, htk, hk, rfl, rfl⟩ := szs_t hN e
    rw [e_cl (by omega), e_cl (by omega)] at h
    refine s_inAim (e_vb (fun e2 => ?_) (fun e2 => ?_))
    · rw [if_neg (by rw [e2]; decide)] at h
      obtain ⟨a, ha1, ha2, rfl⟩ := imB_t e2
      rw [e_cl (by omega)] at h
      rw [e_l1]
      refine s_in (n := 2) (by decide) (by omega) (e_vb (fun e3 => ?_) (fun e3 => ?_))
      · rw [if_neg (by rw [e3]; decide)] at h
        obtain ⟨w, hw, rfl⟩ := iz_t (by omega) e3
        refine m_tables hI.1 hX.1 (by omega) hk ?_
        intro m1 z1 hO hT
        replace h := h m1 (z1.wide (by omega) (by omega)) (mI_t hX z1 hI)
        have hb2 := fnd_70 hX.1 (show k < 11 by omega)
        have ew0 : (nI w = 0) = (nI w = nI 0) := by rw [nI_0]
        rw [e_vin (by omega) (by omega), e_cl (by omega), hO.2 k hk, e_le (by omega) (by omega), ew0]
        refine ⟨by omega, fun c => ?_, fun c => ?_⟩
        · rw [if_neg (fun hh => hh c)] at h
          refine ⟨fun c2 => ?_, fun c2 => ?_⟩
          · rw [if_neg c2] at h
            refine m_nth hX.1 hO hT (by omega) hk c (by omega) (fun c3 => absurd (by decide) c3) (fun _ => h)
          · rw [if_pos (Classical.not_not.mp c2), sol_1] at h
            refine m_nth hX.1 hO hT (by omega) hk c (by omega) (fun _ => h) (fun c3 => absurd c3 (by decide))
        · rw [if_pos c] at h
          exact h
      · rw [if_pos e3] at h
        exact h m fz.refl hI
    · rw [if_pos e2] at h
      exact h m fz.refl hI
theorem m_solution {d sn : Nat} {X : GS} {t k a w : Int32} {m : mm_Mem} {P : Int32 → mm_Mem → Prop} (hX : okX X) (hI : mI X m) (h : ∀ m', fz 82 211 m m' → mI X m' → P (A_solution X.1 t k a w) m') : mm_sp (d + 5) sn kX11_solution [.ref 82, .int t, .int k, .int a, .int w] m (qI P) := by
  refine v_X11_solution ?_
  have hN := hX.1.1.2
  unfold A_solution at h
  refine m_areSizes hI.1.1.1 hN (e_vz (fun e => ?_) (fun e => ?_))
  · rw [if_pos e] at h
    exact h m fz.refl hI
  · rw [if_neg (by rw [e]; decide)] at h
    obtain ⟨t, k, htk, hk, rfl, rfl⟩ := szs_t hN e
    rw [e_cl (by omega), e_cl (by omega)] at h
    refine s_inAim (e_vb (fun e2 => ?_) (fun e2 => ?_))
    · rw [if_neg (by rw [e2]; decide)] at h
      obtain ⟨a, ha1, ha2, rfl⟩ := imB_t e2
      rw [e_cl (by omega)] at h
      refine ⟨fun c0 => ?_, fun c0 => ?_⟩
      · rw [if_neg (fun hh => hh c0)] at h
        refine m_tables hI.1 hX.1 (by omega) hk ?_
        intro m1 z1 hO hT
        replace h := h m1 (z1.wide (by omega) (by omega)) (mI_t hX z1 hI)
        have hb2 := fnd_70 hX.1 (show k < 11 by omega)
        rw [e_vin (by omega) (by omega), e_cl (by omega), hO.2 k hk, e_le (by omega) (by omega)]
        refine ⟨by omega, fun c => ?_, fun c => ?_⟩
        · rw [if_neg (fun hh => hh c)] at h
          exact m_nth hX.1 hO hT (by omega) hk c (by omega) (fun c3 => absurd c0 c3) (fun _ => h)
        · rw [if_pos c] at h
          exact h
      · rw [if_pos c0] at h
        exact h m fz.refl hI
    · rw [if_pos e2] at h
      exact h m fz.refl hI
