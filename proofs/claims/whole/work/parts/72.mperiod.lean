-- THE MODEL: timesOf, holds, wayOf
theorem it_add {T : Nat → Nat} {b p : Nat} : ∀ a, it T (a + b) p = it T a (it T b p)
  | 0 => by rw [Nat.zero_add]; rfl
  | a + 1 => by
    have e : a + 1 + b = (a + b) + 1 := by omega
    rw [e]
    show T (it T (a + b) p) = T (it T a (it T b p))
    rw [it_add a]
theorem it_inj {T : Nat → Nat} {n : Nat} (hT : okT n T) : ∀ (a : Nat) {p q : Nat}, p < n → q < n → it T a p = it T a q → p = q
  | 0, _, _, _, _, e => e
  | a + 1, p, q, hp, hq, e => it_inj hT a hp hq (hT.2 _ _ (it_lt hT.1 a hp) (it_lt hT.1 a hq) e)
theorem it_back {T : Nat → Nat} {n : Nat} (hT : okT n T) {p : Nat} (hp : p < n) : ∃ c, c < n ∧ it T (c + 1) p = p := by
  refine Classical.byContradiction fun hc => ?_
  have h := cN_map (σ := fun i => it T i p) (N := n) (P := fun _ => true) (n + 1) (fun _ => true) (fun x _ _ => ⟨it_lt hT.1 x hp, rfl⟩) (fun x y hx hy _ _ e => ?_)
  · rw [cN_all (fun _ _ => rfl), cN_all (fun _ _ => rfl)] at h
    omega
  · have e : it T x p = it T y p := e
    have g : ∀ a b, a < b → b < n + 1 → it T a p = it T b p → False := by
      intro a b hab hb e
      have e2 : b = a + (b - a) := by omega
      rw [e2, it_add] at e
      have := it_inj hT a hp (it_lt hT.1 _ hp) e
      exact hc ⟨b - a - 1, by omega, by
        have e3 : b - a - 1 + 1 = b - a := by omega
        rw [e3]; exact this.symm⟩
    rcases Nat.lt_trichotomy x y with h | h | h
    · exact absurd e (fun e => g x y h hy e)
    · exact h
    · exact absurd e.symm (fun e => g y x h hx e)
/-- how often till a point is where it was -/
def cyc (T : Nat → Nat) (p : Nat) : Nat := cN (fun j => alN (fun i => !(it T (i + 1) p == p)) (j + 1)) 8 + 1
theorem cyc_s {T : Nat → Nat} {n : Nat} (hn : n ≤ 8) (hT : okT n T) {p : Nat} (hp : p < n) : it T (cyc T p) p = p ∧ cyc T p ≤ 8 ∧ ∀ j, 0 < j → j < cyc T p → it T j p ≠ p := by
  obtain ⟨t, ⟨h1, h2⟩, h3⟩ := pk_least (fun c => c < n ∧ it T (c + 1) p = p) (it_back hT hp)
  have h4 : ∀ i, i < t → it T (i + 1) p ≠ p := fun i hi e => h3 i hi ⟨by omega, e⟩
  have e : cyc T p = t + 1 := by
    unfold cyc
    rw [cN_cut (t := t) (fun s hs => alN_t (fun i hi => by rw [beq_eq_false_iff_ne.mpr (h4 i (by omega))]; rfl)) (fun s hs _ => alN_f (s := t) (by rw [h2, beq_self_eq_true]; rfl) (by omega)) (by omega)]
  rw [e]
  refine ⟨h2, by omega, fun j j0 jt => ?_⟩
  have := h4 (j - 1) (by omega)
  have e3 : j - 1 + 1 = j := by omega
  rw [e3] at this
  exact this
theorem it_mul {T : Nat → Nat} {c p : Nat} (h : it T c p = p) : ∀ q, it T (c * q) p = p
  | 0 => rfl
  | q + 1 => by
    rw [Nat.mul_succ, it_add, h]
    exact it_mul h q
theorem cyc_dvd {T : Nat → Nat} {n : Nat} (hn : n ≤ 8) (hT : okT n T) {p t : Nat} (hp : p < n) : it T t p = p ↔ cyc T p ∣ t := by
  obtain ⟨h1, h2, h3⟩ := cyc_s hn hT hp
  have h0 : 0 < cyc T p := Nat.succ_pos _
  constructor
  · intro h
    have e : t = t % cyc T p + cyc T p * (t / cyc T p) := (Nat.mod_add_div t _).symm
    rw [e, it_add, it_mul h1] at h
    rcases Nat.eq_zero_or_pos (t % cyc T p) with g | g
    · exact Nat.dvd_of_mod_eq_zero g
    · exact absurd h (h3 _ g (Nat.mod_lt _ h0))
  · rintro ⟨q, rfl⟩
    exact it_mul h1 q
theorem cyc_it {T : Nat → Nat} {n : Nat} (hT : okT n T) {p : Nat} (hp : p < n) (i : Nat) : cyc T (it T i p) = cyc T p := by
  unfold cyc
  congr 1
  refine cN_ext (fun j _ => ?_)
  have e : ∀ m, alN (fun k => !(it T (k + 1) (it T i p) == it T i p)) m = alN (fun k => !(it T (k + 1) p == p)) m := by
    intro m
    induction m with
    | zero => rfl
    | succ m ih =>
      show (alN _ m && !(it T (m + 1) (it T i p) == it T i p)) = (alN _ m && !(it T (m + 1) p == p))
      rw [ih]
      congr 2
      rw [Bool.eq_iff_iff, beq_iff_eq, beq_iff_eq, ← it_add, Nat.add_comm, it_add]
      exact ⟨fun h => it_inj hT i (it_lt hT.1 _ hp) hp h, fun h => by rw [h]⟩
  exact e (j + 1)
theorem sumN_le {g h : Nat → Nat} : ∀ {n : Nat}, (∀ t, t < n → g t ≤ h t) → sumN g n ≤ sumN h n
  | 0, _ => Nat.le_refl _
  | n + 1, e => by
    have := sumN_le (fun t ht => e t (by omega) : ∀ t, t < n → g t ≤ h t)
    have := e n (by omega)
    show sumN g n + g n ≤ sumN h n + h n
    omega
def lcF (D : Nat → Bool) : Nat → Nat
  | 0 => 1
  | k + 1 => if D k = true then Nat.lcm (lcF D k) (k + 1) else lcF D k
theorem landau_m : alN (fun M => decide (8 < sumN (fun j => if M.testBit j = true then j + 1 else 0) 8) || decide (lcF (fun j => M.testBit j) 8 ≤ 15 ∧ 0 < lcF (fun j => M.testBit j) 8)) 256 = true := by decide +kernel
def msk (D : Nat → Bool) : Nat → Nat
  | 0 => 0
  | n + 1 => if D n = true then msk D n ||| 1 <<< n else msk D n
theorem msk_b {D : Nat → Bool} {j : Nat} : ∀ n, (msk D n).testBit j = (decide (j < n) && D j)
  | 0 => by
    show (0 : Nat).testBit j = _
    rw [Nat.zero_testBit, decide_eq_false (by omega)]
    rfl
  | n + 1 => by
    have ih := msk_b (D := D) (j := j) n
    show (if D n = true then msk D n ||| 1 <<< n else msk D n).testBit j = _
    by_cases e : j = n
    · subst e
      rw [decide_eq_true (show j < j + 1 by omega), Bool.true_and]
      cases e2 : D j with
      | true => rw [if_pos rfl, Nat.testBit_or, tb_shl, decide_eq_true rfl, Bool.or_true]
      | false => rw [if_neg (by decide), ih, e2, Bool.and_false]
    · have e3 : decide (j < n + 1) = decide (j < n) := decide_eq_decide.mpr (by omega)
      rw [e3]
      split
      · rw [Nat.testBit_or, tb_shl, decide_eq_false (fun h => e h.symm), Bool.or_false, ih]
      · exact ih
theorem msk_lt {D : Nat → Bool} : ∀ n, msk D n < 2 ^ n
  | 0 => by show 0 < 1; omega
  | n + 1 => by
    have ih := msk_lt (D := D) n
    have hp : 2 ^ n < 2 ^ (n + 1) := Nat.pow_lt_pow_right (by decide) (by omega)
    show (if D n = true then msk D n ||| 1 <<< n else msk D n) < 2 ^ (n + 1)
    split
    · exact Nat.or_lt_two_pow (by omega) (shl_lt (by omega))
    · omega
theorem lcF_ext {D E : Nat → Bool} : ∀ {n : Nat}, (∀ j, j < n → D j = E j) → lcF D n = lcF E n
  | 0, _ => rfl
  | n + 1, h => by
    unfold lcF
    rw [lcF_ext (fun j hj => h j (by omega)), h n (by omega)]
theorem landau {D : Nat → Bool} (h : sumN (fun j => if D j = true then j + 1 else 0) 8 ≤ 8) : lcF D 8 ≤ 15 ∧ 0 < lcF D 8 := by
  have g := alN_of landau_m (msk D 8) (msk_lt 8)
  have e : ∀ j, j < 8 → (msk D 8).testBit j = D j := fun j hj => by rw [msk_b, decide_eq_true hj, Bool.true_and]
  have e1 : sumN (fun j => if (msk D 8).testBit j = true then j + 1 else 0) 8 = sumN (fun j => if D j = true then j + 1 else 0) 8 := sumN_ext (fun j hj => by rw [e j hj])
  have e2 : lcF (fun j => (msk D 8).testBit j) 8 = lcF D 8 := lcF_ext e
  rw [e1, e2, decide_eq_false (by omega), Bool.false_or] at g
  exact of_decide_eq_true g
theorem lcF_dvd {D : Nat → Bool} {j : Nat} : ∀ {n : Nat}, j < n → D j = true → j + 1 ∣ lcF D n
  | n + 1, h, hd => by
    show _ ∣ if D n = true then Nat.lcm (lcF D n) (n + 1) else lcF D n
    by_cases e : j = n
    · subst e
      rw [if_pos hd]
      exact Nat.dvd_lcm_right _ _
    · have ih := lcF_dvd (show j < n by omega) hd
      split
      · exact Nat.dvd_trans ih (Nat.dvd_lcm_left _ _)
      · exact ih
/-- of all points together -/
def lcP (T : Nat → Nat) : Nat → Nat
  | 0 => 1
  | n + 1 => Nat.lcm (lcP T n) (cyc T n)
theorem lcP_dvd {T : Nat → Nat} {t : Nat} : ∀ {n : Nat}, lcP T n ∣ t ↔ ∀ q, q < n → cyc T q ∣ t
  | 0 => ⟨fun _ q hq => by omega, fun _ => Nat.one_dvd t⟩
  | n + 1 => by
    show Nat.lcm (lcP T n) (cyc T n) ∣ t ↔ _
    constructor
    · intro h q hq
      by_cases e : q = n
      · subst e; exact Nat.dvd_trans (Nat.dvd_lcm_right _ _) h
      · exact lcP_dvd.mp (Nat.dvd_trans (Nat.dvd_lcm_left _ _) h) q (by omega)
    · intro h
      exact Nat.lcm_dvd (lcP_dvd.mpr (fun q hq => h q (by omega))) (h n (by omega))
theorem lcP_15 {T : Nat → Nat} {n : Nat} (hn : n ≤ 8) (hT : okT n T) : lcP T n ≤ 15 ∧ 0 < lcP T n := by
  have hs : sumN (fun j => if decide (0 < cN (fun q => cyc T q == j + 1) n) = true then j + 1 else 0) 8 ≤ 8 := by
    have h1 := cN_sum (v := fun _ => true) (d := fun q => cyc T q - 1) (N := n) 8 (fun q hq _ => by have := (cyc_s hn hT hq).2.1; omega)
    rw [cN_all (fun _ _ => rfl)] at h1
    refine Nat.le_trans (sumN_le (h := fun t => cN (fun c => true && cyc T c - 1 == t) n) (fun j hj => ?_)) (by omega)
    have e : cN (fun c => true && cyc T c - 1 == j) n = cN (fun q => cyc T q == j + 1) n := cN_ext fun q _ => by
      have : 0 < cyc T q := Nat.succ_pos _
      rw [Bool.true_and, Bool.eq_iff_iff, beq_iff_eq, beq_iff_eq]
      omega
    rw [e]
    split
    · next h =>
      obtain ⟨q, hq, e2⟩ := cN_pos.mp (of_decide_eq_true h)
      have e2 := beq_iff_eq.mp e2
      obtain ⟨c1, c2, c3⟩ := cyc_s hn hT hq
      have := cN_map (σ := fun i => it T i q) (N := n) (P := fun _ => true) (j + 1) (fun r => cyc T r == j + 1) (fun x _ _ => ⟨it_lt hT.1 x hq, by rw [cyc_it hT hq, e2, beq_self_eq_true]⟩) (fun x y hx hy _ _ e3 => ?_)
      · rw [cN_all (fun _ _ => rfl)] at this
        exact this
      · have e3 : it T x q = it T y q := e3
        have g : ∀ a b, a < b → b < j + 1 → it T a q = it T b q → False := by
          intro a b hab hb e
          have e5 : b = a + (b - a) := by omega
          rw [e5, it_add] at e
          exact c3 (b - a) (by omega) (by omega) (it_inj hT a hq (it_lt hT.1 _ hq) e).symm
        rcases Nat.lt_trichotomy x y with h | h | h
        · exact absurd e3 (fun e => g x y h hy e)
        · exact h
        · exact absurd e3.symm (fun e => g y x h hx e)
    · exact Nat.zero_le _
  obtain ⟨l1, l2⟩ := landau hs
  have hd : lcP T n ∣ lcF (fun j => decide (0 < cN (fun q => cyc T q == j + 1) n)) 8 := lcP_dvd.mpr (fun q hq => by
    obtain ⟨_, c2, _⟩ := cyc_s hn hT hq
    have c0 : 0 < cyc T q := Nat.succ_pos _
    have := lcF_dvd (D := fun j => decide (0 < cN (fun q => cyc T q == j + 1) n)) (j := cyc T q - 1) (n := 8) (by omega) (decide_eq_true (cN_pos.mpr ⟨q, hq, by rw [beq_iff_eq]; omega⟩))
    have e : cyc T q - 1 + 1 = cyc T q := by omega
    rw [e] at this
    exact this)
  have := Nat.le_of_dvd l2 hd
  exact ⟨by omega, Nat.pos_of_dvd_of_pos hd l2⟩
theorem per_eq {T : Nat → Nat} {n : Nat} (hn : n ≤ 8) (hT : okT n T) (hf : ∀ p, n ≤ p → p < 8 → T p = p) : per T = lcP T n := by
  obtain ⟨h1, h2⟩ := lcP_15 hn hT
  have hfix : ∀ t p, n ≤ p → p < 8 → it T t p = p := by
    intro t p hp hp8
    induction t with
    | zero => rfl
    | succ t ih =>
      show T (it T t p) = p
      rw [ih, hf p hp hp8]
  have hdn : ∀ t, dn T t = true ↔ lcP T n ∣ t := by
    intro t
    rw [lcP_dvd]
    constructor
    · intro h q hq
      exact (cyc_dvd hn hT hq).mp (dn_of h q (by omega))
    · intro h
      refine dn_t (fun p hp => ?_)
      by_cases e : p < n
      · exact (cyc_dvd hn hT e).mpr (h p e)
      · exact hfix t p (by omega) hp
  have e : lcP T n - 1 + 1 = lcP T n := by omega
  rw [per_s (t := lcP T n - 1) (by omega) (fun j hj => ?_) (fun _ => ?_), e]
  · cases ed : dn T (j + 1) with
    | false => rfl
    | true =>
      have := Nat.le_of_dvd (by omega) ((hdn _).mp ed)
      omega
  · rw [e]
    exact (hdn _).mpr (Nat.dvd_refl _)
theorem lcm_m (a b : Nat) (ha : 0 < a) : a / Nat.gcd a b * b = Nat.lcm a b := by
  obtain ⟨c, hc⟩ := Nat.gcd_dvd_left a b
  have hg : 0 < Nat.gcd a b := Nat.gcd_pos_of_pos_left b ha
  unfold Nat.lcm
  generalize Nat.gcd a b = g at *
  subst hc
  rw [Nat.mul_div_cancel_left _ hg, Nat.mul_assoc, Nat.mul_div_cancel_left _ hg]
theorem lcP_840 {T : Nat → Nat} {n : Nat} (hn : n ≤ 8) (hT : okT n T) : ∀ k, k ≤ n → lcP T k ≤ 840 ∧ 0 < lcP T k := by
  have h8 : ∀ c, c < 9 → 0 < c → c ∣ 840 := by decide
  intro k hk
  have hd : lcP T k ∣ 840 := lcP_dvd.mpr (fun q hq => by
    obtain ⟨_, c2, _⟩ := cyc_s hn hT (show q < n by omega)
    exact h8 _ (by omega) (Nat.succ_pos _))
  exact ⟨Nat.le_of_dvd (by omega) hd, Nat.pos_of_dvd_of_pos hd (by omega)⟩
theorem m_timesOf {d sn w : Nat} {S : St} {m : mm_Mem} {P : Int32 → mm_Mem → Prop} (hM : rMs 83 86 S m) (hok : okS S) (hw : w < sW S) (h : P (nI (per (sT S w))) m) : mm_sp (d + 11) sn kX11_timesOf [.ref 82, .int (nI w)] m (qI P) := by
  have h4 := hok.2.1.1
  have h8 := hok.1.2
  have hT := okS_T hok w hw
  rw [per_eq h8 hT (hok.2.2.2.1 w hw).2.2.2.2] at h
  refine v_X11_timesOf ?_
  refine lp_up (W := fun p => mm_wp (d + 10) sn kX11_timesOf 4 [some (.ref 82), some (.int (nI w)), some (.int (nI (lcP (sT S w) p))), some (.int (nI p)), none, none] [] m (qI P)) (Nat.zero_le (sN S)) ?_ ?_
  · refine v_X11_timesOf_4 ?_
    rw [hM.1.1]
    exact e_vT (Int32.le_refl _) h
  · intro p _ hp ih
    obtain ⟨c1, c2, c3⟩ := cyc_s h8 hT hp
    have c0 : 0 < cyc (sT S w) p := Nat.succ_pos _
    obtain ⟨l1, l2⟩ := lcP_840 h8 hT p (by omega)
    refine v_X11_timesOf_4 ?_
    rw [hM.1.1]
    refine e_vF (by rw [e_le (by omega) (by omega)]; omega) (mm_sp.up (m_to (d := 0) hM h4 h8 hw hp ?_) (by omega))
    refine lp_up (W := fun j => mm_wp (d + 10) sn kX11_timesOf 25 [some (.ref 82), some (.int (nI w)), some (.int (nI (lcP (sT S w) p))), some (.int (nI p)), some (.int (nI j)), some (.int (nI (it (sT S w) j p)))] [] m (qI P)) (show 1 ≤ cyc (sT S w) p from c0) ?_ ?_
    · refine v_X11_timesOf_25 (e_vT (by rw [c1]) ?_)
      have hg : 0 < Nat.gcd (lcP (sT S w) p) (cyc (sT S w) p) := Nat.gcd_pos_of_pos_left _ l2
      have hg2 : Nat.gcd (lcP (sT S w) p) (cyc (sT S w) p) ≤ lcP (sT S w) p := Nat.gcd_le_left _ l2
      refine mm_sp.up (m_common (cyc (sT S w) p) (d := 0) (by omega) (by omega) ⟨by rw [e_eq0 (by omega)]; omega, ?_⟩) (by omega)
      rw [e_div (by omega) hg (by omega), e_mul, lcm_m _ _ l2, e_add]
      exact ih
    · intro j hj1 hj2 ihj
      have hlt := it_lt hT.1 j hp
      refine v_X11_timesOf_25 (e_vF (by rw [e_eq (by omega) (by omega)]; exact c3 j (by omega) hj2) (mm_sp.up (m_to (d := 0) hM h4 h8 hw hlt ?_) (by omega)))
      rw [e_add]
      exact ihj
theorem m_holds {d sn w : Nat} {S : St} {m : mm_Mem} {P : Int32 → mm_Mem → Prop} (hM : rMs 83 86 S m) (hok : okS S) (hw : w < sW S) (h : P (nI (kept (sB S) (sT S w)).toNat) m) : mm_sp (d + 3) sn kX11_holds [.ref 82, .int (nI w)] m (qI P) := by
  have h8 := hok.1.2
  have hp8 := p2_le h8
  have hp0 := Nat.two_pow_pos (sN S)
  have hB := hM.2.2.2.1
  refine v_X11_holds ?_
  refine lp_up (W := fun s => (∀ t, t < s → (!sB S t || sB S (mv (sT S w) t)) = true) → mm_wp (d + 2) sn kX11_holds 2 [some (.ref 82), some (.int (nI w)), some (.int (nI s))] [] m (qI P)) (Nat.zero_le (2 ^ sN S)) ?_ ?_ (fun t ht => by omega)
  · intro hn
    refine v_X11_holds_2 (m_whole hM.1.1 h8 (e_vT (by rw [e_lt (by omega) (by omega)]; omega) ?_))
    have e : kept (sB S) (sT S w) = true := alN_t (fun s hs => by
      by_cases c : s < 2 ^ sN S
      · exact hn s c
      · rw [(okB_hi hok.2.2.1).1 s (by omega) hs]; rfl)
    rw [e] at h
    exact h
  · intro s _ hs ih hn
    refine v_X11_holds_2 (m_whole hM.1.1 h8 (e_vF (by rw [e_lt (by omega) (by omega)]; omega) ?_))
    have nxt : (!sB S s || sB S (mv (sT S w) s)) = true → mm_wp (d + 2) sn kX11_holds 2 [some (.ref 82), some (.int (nI w)), some (.int (nI (s + 1)))] [] m (qI P) := fun e => ih (fun t ht => by
      by_cases e2 : t = s
      · subst e2; exact e
      · exact hn t (by omega))
    rw [e_vin (by omega) (by omega), e_cl (by omega), hB s (by omega), e_add]
    refine ⟨by omega, e_vz (fun e => nxt (by rw [e]; rfl)) (fun e => m_moved hM hok hw hs ?_)⟩
    have hm := (mv_ok h8 (okS_T hok w hw) hs).1
    rw [e_vin (by omega) (by omega), e_cl (by omega), hB _ (by omega)]
    refine ⟨by omega, e_vb (fun e2 => nxt (by rw [e2, Bool.or_true])) (fun e2 => ?_)⟩
    have ek : kept (sB S) (sT S w) = false := alN_f (p := fun s => !sB S s || sB S (mv (sT S w) s)) (s := s) (by rw [e, e2]; rfl) (by omega)
    rw [ek] at h
    exact h
theorem m_wayOf {d sn : Nat} {X : GS} {v w : Int32} {m : mm_Mem} {P : Int32 → mm_Mem → Prop} (hX : okX X) (hI : mI X m) (h : ∀ m', fz 82 211 m m' → mI X m' → P (A_wayOf X.1 v w) m') : mm_sp (d + 12) sn kX11_wayOf [.ref 82, .int v, .int w] m (qI P) := by
  refine v_X11_wayOf ?_
  have h4 := hX.1.2.1.1
  have h8 := hX.1.1.2
  have h := h m fz.refl hI
  unfold A_wayOf at h
  refine m_isWay hI.1.1.2.1 h4 (e_vz (fun e => ?_) (fun e => ?_))
  · rw [if_neg (nt e)] at h
    exact h
  · rw [if_pos e] at h
    obtain ⟨i, hi, rfl⟩ := iz_t (by omega) e
    rw [e_cl (by omega)] at h
    have e3l : lN 3 = (nI 3).toInt64 := by decide
    rw [e3l]
    refine s_in (n := 4) (by decide) (by omega) (e_vb (fun e2 => ?_) (fun e2 => ?_))
    · obtain ⟨x, hx, rfl⟩ := iz_t (by omega) e2
      obtain ⟨k1, k2, k3⟩ := hI.1.2.1 i hi
      have ez : (nI x = nI 0) = (x = 0) := e_eq (by omega) (by omega)
      have ez1 : (nI x = nI 1) = (x = 1) := e_eq (by omega) (by omega)
      have ez2 : (nI x = nI 2) = (x = 2) := e_eq (by omega) (by omega)
      have ez3 : (nI x = nI 3) = (x = 3) := e_eq (by omega) (by omega)
      have ez4 : (nI x = 0) = (nI x = nI 0) := by rw [nI_0]
      rw [ez4, e_add, e_add, e_vin (by omega) (by omega), e_vin (by omega) (by omega), e_cl (by omega), e_cl (by omega), k1, k2]
      refine ⟨fun c0 => ⟨fun c1 => ⟨fun c2 => ?_, fun c2 => ?_⟩, fun c1 => ⟨by omega, ?_⟩⟩, fun c0 => ⟨by omega, ?_⟩⟩
      · have c3 : nI x = nI 3 := by
          rw [ez] at c0
          rw [ez1] at c1
          rw [ez2] at c2
          rw [ez3]; omega
        rw [if_neg c0, if_neg c1, if_neg c2, if_pos c3] at h
        exact m_timesOf hI.1 hX.1 hi h
      · have c2 := Classical.not_not.mp c2
        rw [if_neg c0, if_neg c1, if_pos c2] at h
        refine mm_sp.up (m_holds (d := 0) hI.1 hX.1 hi (e_vz (fun e3 => ?_) (fun e3 => ?_))) (by omega)
        · rw [e3] at h; exact h
        · rw [e3] at h; exact h
      · rw [if_neg c0, if_pos (Classical.not_not.mp c1)] at h
        exact h
      · rw [if_pos (Classical.not_not.mp c0)] at h
        exact h
    · have n0 : ¬ w = nI 0 := fun e => by subst e; revert e2; decide
      have n1 : ¬ w = nI 1 := fun e => by subst e; revert e2; decide
      have n2 : ¬ w = nI 2 := fun e => by subst e; revert e2; decide
      have n3 : ¬ w = nI 3 := fun e => by subst e; revert e2; decide
      rw [if_neg n0, if_neg n1, if_neg n2, if_neg n3] at h
      exact h
