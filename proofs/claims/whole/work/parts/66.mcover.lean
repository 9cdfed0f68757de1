-- THE MODEL: covers, cover; the class's pruned walk as a count through all choices
theorem smN_0 {f : Nat → Nat} {ch : Nat} : ∀ C, (smN f ch C = 0) = (covR f C ch = false)
  | 0 => by
    apply propext
    exact ⟨fun _ => rfl, fun _ => rfl⟩
  | C + 1 => by
    have ih := smN_0 (f := f) (ch := ch) C
    have e1 : smN f ch (C + 1) = smN f ch C + if ch.testBit C = true then f C else 0 := rfl
    have e2 : covR f (C + 1) ch = !(alN (fun j => !(ch.testBit j && decide (0 < f j))) C && !(ch.testBit C && decide (0 < f C))) := rfl
    have e3 : covR f C ch = !alN (fun j => !(ch.testBit j && decide (0 < f j))) C := rfl
    rw [e3] at ih
    rw [e1, e2]
    generalize alN (fun j => !(ch.testBit j && decide (0 < f j))) C = b at *
    apply propext
    by_cases c : ch.testBit C = true
    · rw [if_pos c, c, Bool.true_and]
      by_cases c2 : 0 < f C
      · rw [decide_eq_true c2]
        constructor
        · intro h; omega
        · intro h; cases b <;> cases h
      · rw [decide_eq_false c2]
        have e0 : f C = 0 := by omega
        rw [e0, Nat.add_zero, ih]
        cases b <;> exact Iff.rfl
    · rw [if_neg c, Bool.not_eq_true _ |>.mp c, Bool.false_and, Nat.add_zero, ih]
      cases b <;> exact Iff.rfl
def subC (x y : Nat) : Prop := ∀ j, x.testBit j = true → y.testBit j = true
theorem smN_mono {f : Nat → Nat} {x y : Nat} (h : subC x y) : ∀ c, smN f x c ≤ smN f y c
  | 0 => Nat.le_refl _
  | c + 1 => by
    have ih := smN_mono (f := f) h c
    have hc := h c
    show smN f x c + (if x.testBit c = true then f c else 0) ≤ smN f y c + (if y.testBit c = true then f c else 0)
    by_cases e : x.testBit c = true
    · rw [if_pos e, if_pos (hc e)]; omega
    · rw [if_neg e]
      split <;> omega
theorem cov_mono {A : Nat → Nat → Nat} {R C x y : Nat} (h : subC x y) (hx : cov A R C x = true) : cov A R C y = true := by
  refine alN_t (fun i hi => ?_)
  have hxi : covR (A i) C x = true := alN_of hx i hi
  cases e : covR (A i) C y with
  | true => rfl
  | false =>
    have e1 : (smN (A i) y C = 0) = _ := smN_0 C
    have e2 : (smN (A i) x C = 0) = _ := smN_0 C
    have h1 : smN (A i) y C = 0 := e1.mpr e
    have h2 := smN_mono (f := A i) h C
    have h3 : smN (A i) x C = 0 := by omega
    rw [e2, hxi] at h3
    cases h3
abbrev CS : Type := Nat × Int32
def cst (A : Nat → Nat → Nat) (R C : Nat) (Z : Nat → Nat) (ch : Nat) (st : CS) : CS := if smN Z ch C < st.1 ∧ cov A R C ch = true then (smN Z ch C, nI ch) else st
def cfo (A : Nat → Nat → Nat) (R C : Nat) (Z : Nat → Nat) (a : Nat) : Nat → CS → CS
  | 0, st => st
  | n + 1, st => cst A R C Z (a + n) (cfo A R C Z a n st)
theorem cfo_add {A : Nat → Nat → Nat} {R C : Nat} {Z : Nat → Nat} {a m : Nat} {st : CS} : ∀ n, cfo A R C Z a (m + n) st = cfo A R C Z (a + m) n (cfo A R C Z a m st)
  | 0 => rfl
  | n + 1 => by
    show cst A R C Z (a + (m + n)) (cfo A R C Z a (m + n) st) = cst A R C Z (a + m + n) _
    rw [cfo_add n, Nat.add_assoc]
theorem cfo_id {A : Nat → Nat → Nat} {R C : Nat} {Z : Nat → Nat} {a : Nat} {st : CS} : ∀ n, (∀ r, r < n → ¬ (smN Z (a + r) C < st.1 ∧ cov A R C (a + r) = true)) → cfo A R C Z a n st = st
  | 0, _ => rfl
  | n + 1, h => by
    show cst A R C Z (a + n) (cfo A R C Z a n st) = st
    rw [cfo_id n (fun r hr => h r (by omega))]
    exact if_neg (h n (by omega))
theorem vc_fo {A : Nat → Nat → Nat} {R C : Nat} {Z : Nat → Nat} : ∀ (c q : Nat) (st : CS), c ≤ C → vc A R C Z c (2 ^ c * q) (smN Z (2 ^ c * q) C) st = cfo A R C Z (2 ^ c * q) (2 ^ c) st
  | 0, q, st, _ => by
    rw [Nat.pow_zero, Nat.one_mul]
    rfl
  | c + 1, q, st, hc => by
    have e1 : 2 ^ (c + 1) * q = 2 ^ c * (2 * q) := by rw [Nat.pow_succ, Nat.mul_assoc]
    have hlt : 2 ^ c < 2 ^ (c + 1) := Nat.pow_lt_pow_right (by decide) (by omega)
    have hp := Nat.two_pow_pos (c + 1)
    have e2 : 2 ^ (c + 1) * q ||| 1 <<< c = 2 ^ c * (2 * q + 1) := by
      rw [Nat.shiftLeft_eq, Nat.one_mul, ← Nat.two_pow_add_eq_or_of_lt hlt, e1, Nat.mul_add, Nat.mul_one]
    have e3 : 2 ^ (c + 1) = 2 ^ c + 2 ^ c := by rw [Nat.pow_succ]; omega
    have hbit : ∀ r, r < 2 ^ (c + 1) → ∀ j, (2 ^ (c + 1) * q + r).testBit j = ((2 ^ (c + 1) * q).testBit j || r.testBit j) := by
      intro r hr j
      rw [Nat.two_pow_add_eq_or_of_lt hr, Nat.testBit_or]
    have hlow : ∀ j, j < c + 1 → (2 ^ (c + 1) * q).testBit j = false := by
      intro j hj
      rw [Nat.testBit_two_pow_mul]
      simp; omega
    have hhi : ∀ r, r < 2 ^ (c + 1) → ∀ j, c + 1 ≤ j → r.testBit j = false := by
      intro r hr j hj
      exact Nat.testBit_lt_two_pow (Nat.lt_of_lt_of_le hr (Nat.pow_le_pow_right (by decide) hj))
    show (if smN Z (2 ^ (c + 1) * q) C < st.1 ∧ cov A R C (2 ^ (c + 1) * q ||| (2 ^ (c + 1) - 1)) = true then vc A R C Z c (2 ^ (c + 1) * q ||| 1 <<< c) (smN Z (2 ^ (c + 1) * q) C + Z c) (vc A R C Z c (2 ^ (c + 1) * q) (smN Z (2 ^ (c + 1) * q) C) st) else st) = _
    by_cases hcond : smN Z (2 ^ (c + 1) * q) C < st.1 ∧ cov A R C (2 ^ (c + 1) * q ||| (2 ^ (c + 1) - 1)) = true
    · rw [if_pos hcond]
      have es : smN Z (2 ^ (c + 1) * q) C + Z c = smN Z (2 ^ c * (2 * q + 1)) C := by
        have g : ∀ n, smN Z (2 ^ c * (2 * q + 1)) n = smN Z (2 ^ (c + 1) * q) n + if c < n then Z c else 0 := by
          intro n
          induction n with
          | zero => rw [if_neg (by omega)]; rfl
          | succ n ih =>
            show smN Z (2 ^ c * (2 * q + 1)) n + (if (2 ^ c * (2 * q + 1)).testBit n = true then Z n else 0) = smN Z (2 ^ (c + 1) * q) n + (if (2 ^ (c + 1) * q).testBit n = true then Z n else 0) + _
            rw [ih, ← e2, Nat.testBit_or, tb_shl]
            by_cases e5 : c = n
            · subst e5
              rw [hlow c (by omega), decide_eq_true rfl, if_neg (by omega), if_pos (by rfl), if_neg (by decide), if_pos (by omega)]
            · rw [decide_eq_false e5, Bool.or_false]
              by_cases e6 : c < n
              · rw [if_pos e6, if_pos (show c < n + 1 by omega), Nat.add_right_comm]
              · rw [if_neg e6, if_neg (show ¬ c < n + 1 by omega)]; rfl
        rw [g C, if_pos (by omega)]
      rw [es, e2, e1, vc_fo c _ _ (by omega), vc_fo c _ _ (by omega), e3, cfo_add, Nat.mul_add, Nat.mul_one]
    · rw [if_neg hcond]
      refine (cfo_id _ (fun r hr hh => hcond ⟨?_, ?_⟩)).symm
      · refine Nat.lt_of_le_of_lt (smN_mono (fun j hj => ?_) C) hh.1
        rw [hbit r hr, hj]; rfl
      · refine cov_mono (fun j hj => ?_) hh.2
        rw [hbit r hr] at hj
        rw [Nat.testBit_or, Nat.testBit_two_pow_sub_one]
        by_cases e5 : j < c + 1
        · rw [decide_eq_true e5, Bool.or_true]
        · rw [hhi r hr j (by omega), Bool.or_false] at hj
          rw [hj]; rfl
theorem vc_0 {A : Nat → Nat → Nat} {R C : Nat} {Z : Nat → Nat} {st : CS} : vc A R C Z C 0 0 st = cfo A R C Z 0 (2 ^ C) st := by
  have h := vc_fo (A := A) (R := R) (Z := Z) C 0 st (Nat.le_refl _)
  have e : smN Z 0 C = 0 := by
    have g : ∀ n, smN Z 0 n = 0 := by
      intro n
      induction n with
      | zero => rfl
      | succ n ih =>
        show smN Z 0 n + (if (0 : Nat).testBit n = true then Z n else 0) = 0
        rw [ih, Nat.zero_testBit, if_neg (by decide)]
    exact g C
  rw [Nat.mul_zero, e] at h
  exact h
theorem m_covers {d sn t k ch : Nat} {S : St} {m : mm_Mem} {P : Int32 → mm_Mem → Prop} (hok : okS S) (hO : rOm (sN S) (fndS S).1 (fndS S).2 m) (hT : rTb S t k m) (ht : t ≤ sN S) (hk : k ≤ sN S) (hC : (fndS S).2 k ≤ 14) (hc : ch < 2147483648) (h : P (nI (cov (tA S t k) ((fndS S).2 t) ((fndS S).2 k) ch).toNat) m) : mm_sp (d + 2) sn kX11_covers [.ref 82, .int (nI t), .int (nI k), .int (nI ch)] m (qI P) := by
  have h8 := hok.1.2
  have ht70 := fnd_70 hok (show t < 11 by omega)
  refine v_X11_covers ?_
  refine lp_up (W := fun i => (∀ i', i' < i → covR (tA S t k i') ((fndS S).2 k) ch = true) → mm_wp (d + 1) sn kX11_covers 3 [some (.ref 82), some (.int (nI t)), some (.int (nI k)), some (.int (nI ch)), some (.int (nI i))] [] m (qI P)) (Nat.zero_le ((fndS S).2 t)) ?_ ?_ (fun i' hi' => by omega)
  · intro hn
    refine v_X11_covers_3 ?_
    rw [e_vin (by omega) (by omega), e_cl (by omega), hO.2 t ht]
    rw [show cov (tA S t k) ((fndS S).2 t) ((fndS S).2 k) ch = true from alN_t hn] at h
    exact ⟨by omega, e_vT (Int32.le_refl _) h⟩
  · intro i _ hi ih hn
    refine v_X11_covers_3 ?_
    rw [e_vin (by omega) (by omega), e_cl (by omega), hO.2 t ht]
    refine ⟨by omega, e_vF (by rw [e_le (by omega) (by omega)]; omega) (m_sum hok hO hT hk hC hi (by omega) hc ?_)⟩
    have hs := smN_le2 (tA_8 (S := S) (t := t) (k := k) i) (ch := ch) ((fndS S).2 k)
    rw [e_eq0 (by omega), smN_0, e_add]
    refine ⟨fun c => ih (fun i' hi' => ?_), fun c => ?_⟩
    · by_cases e : i' = i
      · subst e; simpa using c
      · exact hn i' (by omega)
    · rw [show cov (tA S t k) ((fndS S).2 t) ((fndS S).2 k) ch = false from alN_f (p := fun i => covR (tA S t k i) ((fndS S).2 k) ch) (Classical.not_not.mp c) hi] at h
      exact h
theorem m_cover {d sn : Nat} {X : GS} {t k w : Int32} {m : mm_Mem} {P : Int32 → mm_Mem → Prop} (hX : okX X) (hI : mI X m) (h : ∀ m', fz 82 211 m m' → mI X m' → P (A_cover X.1 t k w) m') : mm_sp (d + 5) sn kX11_cover [.ref 82, .int t, .int k, .int w] m (qI P) := by
  refine v_X11_cover ?_
  have hN := hX.1.1.2
  unfold A_cover at h
  refine m_areSizes hI.1.1.1 hN (e_vb (fun e => ?_) (fun e => ?_))
  · rw [if_neg (by rw [e]; decide)] at h
    obtain ⟨t, k, htk, hk, rfl, rfl⟩ := szs_t hN e
    rw [e_cl (by omega), e_cl (by omega)] at h
    rw [e_l1]
    refine s_in (n := 2) (by decide) (by omega) (e_vb (fun e3 => ?_) (fun e3 => ?_))
    · rw [if_neg (by rw [e3]; decide)] at h
      obtain ⟨w, hw, rfl⟩ := iz_t (by omega) e3
      refine m_tables hI.1 hX.1 (by omega) hk ?_
      intro m1 z1 hO hT
      replace h := h m1 (z1.wide (by omega) (by omega)) (mI_t hX z1 hI)
      have hb2 := fnd_70 hX.1 (show k < 11 by omega)
      rw [e_vin (by omega) (by omega), e_cl (by omega), hO.2 k hk, e_le (by omega) (by omega)]
      have ew0 : (nI w = 0) = (nI w = nI 0) := by rw [nI_0]
      refine ⟨by omega, fun hC => ?_, fun hC => ?_⟩
      · rw [if_neg (fun hh => hh hC)] at h
        have h14 := p2_14 hC
        unfold covS at h
        rw [vc_0] at h
        generalize hA : tA X.1 t k = A at h
        generalize hZ : (fun j => cN (hld (fndS X.1).1 k j) 256) = Z at h
        have hZ8 : ∀ j, Z j ≤ 256 := fun j => by rw [← hZ]; exact cN_le _ _
        refine lp_up (W := fun s => ∀ (b f : Int32) (st : CS), cfo A ((fndS X.1).2 t) ((fndS X.1).2 k) Z 0 s (2147483647, -5) = st → (b = -5 ∧ f = -5 ∧ st = (2147483647, -5) ∨ ∃ F c, F < 10000 ∧ c < 16384 ∧ b = nI c ∧ f = nI F ∧ st = (F, nI c)) → mm_wp (d + 4) sn kX11_cover 55 [some (.ref 82), some (.int (nI t)), some (.int (nI k)), some (.int (nI w)), some (.int b), some (.int f), some (.int (nI s)), none, none] [] m1 (qI P)) (Nat.zero_le (2 ^ (fndS X.1).2 k)) ?_ ?_ (-5) (-5) (2147483647, -5) rfl (Or.inl ⟨rfl, rfl, rfl⟩)
        · intro b f st es hst
          rw [es] at h
          refine v_X11_cover_55 ?_
          rw [e_vin (by omega) (by omega), e_cl (by omega), hO.2 k hk, e_shl (by omega), Nat.shiftLeft_eq, Nat.one_mul, ew0]
          refine ⟨by omega, e_vT (Int32.le_refl _) ?_⟩
          rcases hst with ⟨rfl, rfl, rfl⟩ | ⟨F, c, hF, hc, rfl, rfl, rfl⟩
          · rw [if_pos rfl] at h
            exact ⟨fun _ => h, fun _ => h⟩
          · rw [if_neg (show ¬ nI c = -5 by rw [e_m5 (by omega)]; exact id)] at h
            refine ⟨fun c2 => ?_, fun c2 => ?_⟩
            · rw [if_neg c2] at h; exact h
            · rw [if_pos (Classical.not_not.mp c2)] at h; exact h
        · intro s _ hs ih b f st es hst
          have ih := ih
          have es2 : cfo A ((fndS X.1).2 t) ((fndS X.1).2 k) Z 0 (s + 1) (2147483647, -5) = cst A ((fndS X.1).2 t) ((fndS X.1).2 k) Z s st := by
            show cst A _ _ Z (0 + s) (cfo A _ _ Z 0 s (2147483647, -5)) = _
            rw [es, Nat.zero_add]
          refine v_X11_cover_55 ?_
          rw [e_vin (by omega) (by omega), e_cl (by omega), hO.2 k hk, e_shl (by omega), Nat.shiftLeft_eq, Nat.one_mul]
          refine ⟨by omega, e_vF (by rw [e_le (by omega) (by omega)]; omega) ?_⟩
          refine lp_up (W := fun j => mm_wp (d + 4) sn kX11_cover 74 [some (.ref 82), some (.int (nI t)), some (.int (nI k)), some (.int (nI w)), some (.int b), some (.int f), some (.int (nI s)), some (.int (nI (smN Z s j))), some (.int (nI j))] [] m1 (qI P)) (Nat.zero_le ((fndS X.1).2 k)) ?_ ?_
          · have hsl := smN_le2 hZ8 (ch := s) ((fndS X.1).2 k)
            have fin : ∀ (b' f' : Int32), (cst A ((fndS X.1).2 t) ((fndS X.1).2 k) Z s st = (2147483647, -5) ∧ b' = -5 ∧ f' = -5 ∨ ∃ F c, F < 10000 ∧ c < 16384 ∧ b' = nI c ∧ f' = nI F ∧ cst A ((fndS X.1).2 t) ((fndS X.1).2 k) Z s st = (F, nI c)) → mm_wp (d + 4) sn kX11_cover 55 [some (.ref 82), some (.int (nI t)), some (.int (nI k)), some (.int (nI w)), some (.int b'), some (.int f'), some (.int (nI (s + 1))), none, none] [] m1 (qI P) := by
              intro b' f' hh
              refine ih b' f' _ es2 ?_
              rcases hh with ⟨h1, h2, h3⟩ | hh
              · exact Or.inl ⟨h2, h3, h1⟩
              · exact Or.inr hh
            have same : ¬ (smN Z s ((fndS X.1).2 k) < st.1 ∧ cov A ((fndS X.1).2 t) ((fndS X.1).2 k) s = true) → mm_wp (d + 4) sn kX11_cover 55 [some (.ref 82), some (.int (nI t)), some (.int (nI k)), some (.int (nI w)), some (.int b), some (.int f), some (.int (nI (s + 1))), none, none] [] m1 (qI P) := by
              intro hn
              have e5 : cst A ((fndS X.1).2 t) ((fndS X.1).2 k) Z s st = st := if_neg hn
              refine fin b f ?_
              rw [e5]
              rcases hst with ⟨h1, h2, h3⟩ | hh
              · exact Or.inl ⟨h3, h1, h2⟩
              · exact Or.inr hh
            have better : smN Z s ((fndS X.1).2 k) < st.1 → cov A ((fndS X.1).2 t) ((fndS X.1).2 k) s = true → mm_wp (d + 4) sn kX11_cover 55 [some (.ref 82), some (.int (nI t)), some (.int (nI k)), some (.int (nI w)), some (.int (nI s)), some (.int (nI (smN Z s ((fndS X.1).2 k)))), some (.int (nI (s + 1))), none, none] [] m1 (qI P) := fun h1 h2 => fin _ _ (Or.inr ⟨_, s, by omega, by omega, rfl, rfl, if_pos ⟨h1, h2⟩⟩)
            have cvs : smN Z s ((fndS X.1).2 k) < st.1 → mm_sp (d + 4) sn kX11_covers [.ref 82, .int (nI t), .int (nI k), .int (nI s)] m1 (qI fun x4 m2 => ((x4 = 0) → mm_wp (d + 4) sn kX11_cover 55 [some (.ref 82), some (.int (nI t)), some (.int (nI k)), some (.int (nI w)), some (.int b), some (.int f), some (.int (nI (s + 1))), none, none] [] m2 (qI P)) ∧ (¬ (x4 = 0) → mm_wp (d + 4) sn kX11_cover 55 [some (.ref 82), some (.int (nI t)), some (.int (nI k)), some (.int (nI w)), some (.int (nI s)), some (.int (nI (smN Z s ((fndS X.1).2 k)))), some (.int (nI (s + 1))), none, none] [] m2 (qI P))) := by
              intro h1
              refine m_covers hX.1 hO hT (by omega) hk hC (by omega) ?_
              rw [hA]
              refine e_vz (fun e5 => same (fun hh => by rw [e5] at hh; cases hh.2)) (fun e5 => better h1 e5)
            refine v_X11_cover_74 ?_
            rw [e_vin (by omega) (by omega), e_cl (by omega), hO.2 k hk, e_add]
            refine ⟨by omega, e_vT (Int32.le_refl _) ?_⟩
            rcases hst with ⟨hb, hf, hs5⟩ | ⟨F, c, hF, hc, hb, hf, hs5⟩
            · exact e_vT hb (cvs (by rw [hs5]; show smN Z s _ < 2147483647; omega))
            · have n5 : ¬ b = -5 := by rw [hb, e_m5 (by omega)]; exact id
              refine e_vF n5 ?_
              have e1 : (f ≤ nI (smN Z s ((fndS X.1).2 k))) = (F ≤ smN Z s ((fndS X.1).2 k)) := by rw [hf]; exact e_le (by omega) (by omega)
              have e2 : st.1 = F := by rw [hs5]
              rw [e1]
              exact ⟨fun c2 => same (fun hh => by have := hh.1; omega), fun c2 => cvs (by omega)⟩
          · intro j _ hj ihj
            refine v_X11_cover_74 ?_
            have ej : smN Z s (j + 1) = smN Z s j + if s.testBit j = true then Z j else 0 := rfl
            have hl : (s >>> j) &&& 1 ≤ 1 := Nat.and_le_right
            have hzj : m1.1 173 j = nI (Z j) := by rw [hT.2 j hj, ← hZ]
            rw [e_vin (by omega) (by omega), e_cl (by omega), hO.2 k hk]
            refine ⟨by omega, e_vF (by rw [e_le (by omega) (by omega)]; omega) ?_⟩
            rw [e_shr (by omega) (by omega), e_and, e_eq (by omega) (by omega), e_bit, e_add, e_add, Nat.add_zero, e_vin (by omega) (by omega), e_cl (by omega), hzj, e_add]
            refine ⟨fun c => ?_, fun c => ⟨by omega, ?_⟩⟩
            · rw [ej, if_neg c] at ihj; exact ihj
            · rw [ej, if_pos (Classical.not_not.mp c)] at ihj; exact ihj
      · rw [if_pos hC] at h
        exact h
    · rw [if_pos e3] at h
      exact h m fz.refl hI
  · rw [if_pos e] at h
    exact h m fz.refl hI
