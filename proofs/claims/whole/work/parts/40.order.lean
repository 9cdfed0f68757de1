-- THE GROUP: its order by a table of slots
def folN (T : Nat → Nat) (c : Nat) : Nat → Nat
  | 0 => 0
  | p + 1 => folN T c p ||| T ((c >>> (3 * p)) &&& 7) <<< (3 * p)
def fol (T : Nat → Nat) (c : Nat) : Nat := folN T c 8
def idN : Nat → Nat
  | 0 => 0
  | p + 1 => idN p ||| p <<< (3 * p)
theorem and7 (x : Nat) : x &&& 7 < 8 := Nat.lt_of_le_of_lt Nat.and_le_right (by decide)
theorem folN_lt {T : Nat → Nat} {c : Nat} (hT : ∀ p, p < 8 → T p < 8) : ∀ n, folN T c n < 2 ^ (3 * n)
  | 0 => Nat.two_pow_pos _
  | n + 1 => by
    have ih := folN_lt (c := c) hT n
    have e : 3 * (n + 1) = 3 * n + 3 := by omega
    show folN T c n ||| T ((c >>> (3 * n)) &&& 7) <<< (3 * n) < 2 ^ (3 * (n + 1))
    rw [e]
    refine Nat.or_lt_two_pow (Nat.lt_of_lt_of_le ih (Nat.pow_le_pow_right (by decide) (by omega))) ?_
    have := hT _ (and7 (c >>> (3 * n)))
    rw [Nat.shiftLeft_eq, Nat.pow_add]
    have hp := Nat.two_pow_pos (3 * n)
    calc T ((c >>> (3 * n)) &&& 7) * 2 ^ (3 * n) < 8 * 2 ^ (3 * n) := Nat.mul_lt_mul_of_pos_right this hp
      _ = 2 ^ (3 * n) * 2 ^ 3 := by omega
theorem fol_lt {T : Nat → Nat} {c : Nat} (hT : ∀ p, p < 8 → T p < 8) : fol T c < 16777216 := folN_lt hT 8
theorem e_mul3 {p : Nat} : nI 3 * nI p = nI (3 * p) := e_mul
theorem s_stillness {d sn : Nat} {m : mm_Mem} {P : Int32 → mm_Mem → Prop} (h : P (nI (idN 8)) m) : mm_sp (d + 1) sn kX2_stillness [] m (qI P) := by
  refine v_X2_stillness ?_
  refine lp_up (W := fun p => mm_wp d sn kX2_stillness 4 [some (.int (nI (idN p))), some (.int (nI p))] [] m (qI P)) (Nat.zero_le 8) ?_ ?_
  · exact v_X2_stillness_4 (e_vT (by decide) h)
  · intro p _ hp ih
    refine v_X2_stillness_4 (e_vF (by rw [e_le (by omega) (by omega)]; omega) ?_)
    rw [e_mul3, e_shl (by omega), e_or, e_add]
    exact ih
theorem s_followedBy {d sn a kd fg c : Nat} {T : Nat → Nat} {m : mm_Mem} {P : Int32 → mm_Mem → Prop} (ha : shY a) (hT : rY a kd fg T m) (h8 : ∀ p, p < 8 → T p < 8) (hc : c < 16777216) (h : P (nI (fol T c)) m) : mm_sp (d + 2) sn kX2_followedBy [.int (nI c), .ref a] m (qI P) := by
  refine v_X2_followedBy ha ?_
  refine lp_up (W := fun p => mm_wp (d + 1) sn kX2_followedBy 4 [some (.int (nI c)), some (.ref a), some (.int (nI (folN T c p))), some (.int (nI p))] [] m (qI P)) (Nat.zero_le 8) ?_ ?_
  · exact v_X2_followedBy_4 ha (e_vT (by decide) h)
  · intro p _ hp ih
    refine v_X2_followedBy_4 ha (e_vF (by rw [e_le (by omega) (by omega)]; omega) ?_)
    rw [e_mul3, e_shr (by omega) (by omega), e_and]
    refine s_pointFor ha hT (and7 _) ?_
    rw [e_shl (by omega), e_or, e_add]
    exact ih
-- the pure search
abbrev GL : Type := (Nat → Nat) × Nat
def ein (st : GL) (c : Nat) : Bool := !alN (fun i => !(st.1 i == c)) st.2
theorem ein_t {st : GL} {c : Nat} (h : ein st c = true) : ∃ i, i < st.2 ∧ st.1 i = c := by
  apply Classical.byContradiction
  intro hn
  have : alN (fun i => !(st.1 i == c)) st.2 = true := alN_t (fun i hi => by
    have : st.1 i ≠ c := fun e => hn ⟨i, hi, e⟩
    rw [beq_eq_false_iff_ne.mpr this]; rfl)
  unfold ein at h
  rw [this] at h
  cases h
theorem ein_i {st : GL} {c i : Nat} (hi : i < st.2) (e : st.1 i = c) : ein st c = true := by
  unfold ein
  rw [alN_f (p := fun i => !(st.1 i == c)) (s := i) (by rw [e, beq_self_eq_true]; rfl) hi]
  rfl
def gen (st : GL) (c : Nat) : GL := if ein st c = true then st else if st.2 < 500 then (ud st.1 st.2 c, st.2 + 1) else st
def genW (Ts : Nat → Nat → Nat) (c : Nat) : Nat → GL → GL
  | 0, st => st
  | w + 1, st => gen (genW Ts c w st) (fol (Ts w) c)
def gbf (Ts : Nat → Nat → Nat) (w : Nat) : Nat → Nat → GL → GL
  | 0, _, st => st
  | f + 1, h, st => if h < st.2 then gbf Ts w f (h + 1) (genW Ts (st.1 h) w st) else st
def ordS (S : St) : Nat := (gbf (sT S) (sW S) 501 0 (fun _ => idN 8, 1)).2
def gOk (st : GL) : Prop := st.2 ≤ 500 ∧ ∀ i, i < st.2 → st.1 i < 16777216
theorem gen_ok {st : GL} {c : Nat} (hc : c < 16777216) (h : gOk st) : gOk (gen st c) := by
  unfold gen
  split
  · exact h
  · split
    · next h5 =>
      refine ⟨h5, fun i hi => ?_⟩
      have hi : i < st.2 + 1 := hi
      show ud st.1 st.2 c i < _
      by_cases e : i = st.2
      · subst e; rw [ud_s]; exact hc
      · rw [ud_n e]; exact h.2 i (by omega)
    · exact h
theorem gen_le {st : GL} {c : Nat} : st.2 ≤ (gen st c).2 := by
  unfold gen
  split
  · exact Nat.le_refl _
  · split
    · exact Nat.le_succ _
    · exact Nat.le_refl _
theorem gen_at {st : GL} {c i : Nat} (hi : i < st.2) : (gen st c).1 i = st.1 i := by
  unfold gen
  split
  · rfl
  · split
    · exact ud_n (by omega)
    · rfl
theorem genW_ok {Ts : Nat → Nat → Nat} {c : Nat} {st : GL} (h : gOk st) : ∀ (w : Nat), (∀ i, i < w → ∀ p, p < 8 → Ts i p < 8) → gOk (genW Ts c w st)
  | 0, _ => h
  | w + 1, hT => gen_ok (fol_lt (hT w (by omega))) (genW_ok h w (fun i hi => hT i (by omega)))
theorem genW_le {Ts : Nat → Nat → Nat} {c : Nat} {st : GL} : ∀ (w : Nat), st.2 ≤ (genW Ts c w st).2
  | 0 => Nat.le_refl _
  | w + 1 => Nat.le_trans (genW_le w) gen_le
theorem genW_at {Ts : Nat → Nat → Nat} {c i : Nat} {st : GL} (hi : i < st.2) : ∀ (w : Nat), (genW Ts c w st).1 i = st.1 i
  | 0 => rfl
  | w + 1 => by
    show (gen (genW Ts c w st) (fol (Ts w) c)).1 i = _
    rw [gen_at (Nat.lt_of_lt_of_le hi (genW_le w)), genW_at hi w]
-- the slots
def hsh (c : Nat) : Nat := (nI c * (-1640531535)).toBitVec.toNat / 2 ^ 22
theorem hsh_lt (c : Nat) : hsh c < 1024 := by
  unfold hsh
  have := (nI c * (-1640531535)).toBitVec.isLt
  omega
theorem e_hsh (c : Nat) : mm_ushr (nI c * (-1640531535)) (nI 22) = nI (hsh c) := by
  unfold mm_ushr
  apply Int32.toBitVec_inj.mp
  apply BitVec.eq_of_toNat_eq
  rw [pk_ushr _ (nI 22) 22 (by decide), nI_tn]
  show hsh c = hsh c % 4294967296
  have := hsh_lt c
  omega
def pos (c t : Nat) : Nat := (hsh c + t) % 1024
theorem pos_lt (c t : Nat) : pos c t < 1024 := Nat.mod_lt _ (by decide)
theorem pos_all (c s : Nat) (hs : s < 1024) : ∃ t, t < 1024 ∧ pos c t = s := by
  have := hsh_lt c
  unfold pos
  by_cases e : hsh c ≤ s
  · exact ⟨s - hsh c, by omega, by rw [Nat.mod_eq_of_lt (by omega)]; omega⟩
  · refine ⟨s + 1024 - hsh c, by omega, ?_⟩
    have e2 : hsh c + (s + 1024 - hsh c) = s + 1024 := by omega
    rw [e2, Nat.add_mod_right, Nat.mod_eq_of_lt hs]
def sl (st : GL) (r : Nat → Int32) : Prop := (∀ s, s < 1024 → r s = -1 ∨ ∃ i, i < st.2 ∧ r s = nI (st.1 i)) ∧ (∀ i, i < st.2 → ∃ t, t < 1024 ∧ r (pos (st.1 i) t) = nI (st.1 i) ∧ ∀ u, u < t → r (pos (st.1 i) u) ≠ -1) ∧ cN (fun s => !(r s == -1)) 1024 ≤ st.2
def rG (st : GL) (m : mm_Mem) : Prop := m.1 63 2 = nI st.2 ∧ (∀ i, i < st.2 → m.1 64 i = nI (st.1 i)) ∧ sl st (m.1 65)
theorem sl_add {st : GL} {r : Nat → Int32} {c t : Nat} (hk : gOk st) (hc : c < 16777216) (h : sl st r) (ht : t < 1024) (he : r (pos c t) = -1) (hb : ∀ u, u < t → r (pos c u) ≠ -1) : sl (ud st.1 st.2 c, st.2 + 1) (fun s => if s = pos c t then nI c else r s) := by
  obtain ⟨h1, h2, h3⟩ := h
  have ne : ∀ {i}, i < st.2 → nI (st.1 i) ≠ -1 := fun hi e => by
    have := hk.2 _ hi
    rw [e_m1 (by omega)] at e
    exact e
  have nc : nI c ≠ -1 := fun e => by
    rw [e_m1 (by omega)] at e
    exact e
  refine ⟨fun s hs => ?_, fun i hi => ?_, ?_⟩
  · by_cases e : s = pos c t
    · exact Or.inr ⟨st.2, Nat.lt_succ_self _, by show (if s = pos c t then nI c else r s) = nI (ud st.1 st.2 c st.2); rw [if_pos e, ud_s]⟩
    · rcases h1 s hs with g | ⟨i, hi, g⟩
      · exact Or.inl (by show (if s = pos c t then nI c else r s) = -1; rw [if_neg e, g])
      · exact Or.inr ⟨i, Nat.lt_succ_of_lt hi, by show (if s = pos c t then nI c else r s) = nI (ud st.1 st.2 c i); rw [if_neg e, ud_n (by omega), g]⟩
  · have hi : i < st.2 + 1 := hi
    by_cases e : i = st.2
    · subst e
      show ∃ t', t' < 1024 ∧ (if pos (ud st.1 st.2 c st.2) t' = pos c t then nI c else r (pos (ud st.1 st.2 c st.2) t')) = nI (ud st.1 st.2 c st.2) ∧ ∀ u, u < t' → (if pos (ud st.1 st.2 c st.2) u = pos c t then nI c else r (pos (ud st.1 st.2 c st.2) u)) ≠ -1
      rw [ud_s]
      refine ⟨t, ht, if_pos rfl, fun u hu => ?_⟩
      split
      · exact nc
      · exact hb u hu
    · obtain ⟨t', g1, g2, g3⟩ := h2 i (by omega)
      show ∃ t', t' < 1024 ∧ (if pos (ud st.1 st.2 c i) t' = pos c t then nI c else r (pos (ud st.1 st.2 c i) t')) = nI (ud st.1 st.2 c i) ∧ ∀ u, u < t' → (if pos (ud st.1 st.2 c i) u = pos c t then nI c else r (pos (ud st.1 st.2 c i) u)) ≠ -1
      rw [ud_n e]
      refine ⟨t', g1, ?_, fun u hu => ?_⟩
      · rw [if_neg (fun e2 => by rw [e2, he] at g2; exact ne (show i < st.2 by omega) g2.symm)]
        exact g2
      · split
        · exact nc
        · exact g3 u hu
  · have e1 : cN (fun s => !((if s = pos c t then nI c else r s) == -1)) 1024 = cN (up (fun s => !(r s == -1)) (pos c t) true) 1024 := cN_ext fun s _ => by
      by_cases e : s = pos c t
      · rw [if_pos e, e, up_s, beq_eq_false_iff_ne.mpr nc]; rfl
      · rw [if_neg e, up_n e]
    have e2 := cN_up (B := fun s => !(r s == -1)) (b := true) (pos_lt c t)
    have e3 : ((fun s => !(r s == -1)) (pos c t)).toNat = 0 := by
      show (!(r (pos c t) == -1)).toNat = 0
      rw [he]; rfl
    rw [e3] at e2
    have e4 : true.toNat = 1 := rfl
    show cN (fun s => !((if s = pos c t then nI c else r s) == -1)) 1024 ≤ st.2 + 1
    rw [e1]
    omega
theorem s_gappend {d sn c s : Nat} {st : GL} {m : mm_Mem} {P : mm_Mem → Prop} (hf : m.1 63 2 = nI st.2) (h5 : st.2 ≤ 500) (hs : s < 1024) (h : ∀ m', (st.2 < 500 → m' = (mm_u2 (mm_u2 (mm_u2 m.1 65 s (nI c)) 64 st.2 (nI c)) 63 2 (nI (st.2 + 1)), m.2)) → (st.2 = 500 → m' = m) → P m') : mm_sp (d + 1) sn kX2_append [.ref 63, .int (nI s), .int (nI c)] m (qV P) := by
  refine v_X2_append ?_
  rw [hf, e_le (by omega) (by omega)]
  refine ⟨fun c1 => h m (fun c2 => by omega) (fun _ => rfl), fun c1 => ?_⟩
  refine e_vT (by rw [e_0le (by omega)]; trivial) ?_
  refine e_vF (by rw [e_lt0 (by omega)]; exact id) ?_
  refine e_vT (by rw [e_lt (by omega) (by omega)]; exact hs) ?_
  rw [e_vin (by omega) (by omega), e_cl (by omega)]
  refine ⟨hs, fun m1 e1 => ?_⟩
  have e63 : m1.1 63 2 = nI st.2 := by
    subst e1
    show mm_u2 m.1 65 s (nI c) 63 2 = _
    rw [u2_rj (by omega)]; exact hf
  rw [e63, e_vin (by omega) (by omega), e_cl (by omega)]
  refine ⟨by omega, fun m2 e2 m3 e3 => h m3 (fun _ => ?_) (fun c2 => by omega)⟩
  have e632 : m2.1 63 2 = nI st.2 := by
    subst e2
    show mm_u2 m1.1 64 st.2 (nI c) 63 2 = _
    rw [u2_rj (by omega)]; exact e63
  rw [e632, e_add] at e3
  rw [e3, e2, e1]
theorem s_genter {d sn c : Nat} {st : GL} {m : mm_Mem} {P : mm_Mem → Prop} (hk : gOk st) (hc : c < 16777216) (hG : rG st m) (h : ∀ m', fz 63 65 m m' → rG (gen st c) m' → P m') : mm_sp (d + 2) sn kX2_enter [.ref 63, .int (nI c)] m (qV P) := by
  refine v_X2_enter ?_
  rw [e_hsh]
  obtain ⟨hf, hi, h1, h2, h3⟩ := hG
  have hhl := hsh_lt c
  have fin : ∀ t, t < 1024 → (∀ u, u < t → m.1 65 (pos c u) ≠ -1 ∧ m.1 65 (pos c u) ≠ nI c) → m.1 65 (pos c t) = -1 → mm_sp (d + 1) sn kX2_append [.ref 63, .int (nI (pos c t)), .int (nI c)] m (qV fun m1 => P m1) := by
    intro t ht hb he
    have hno : ¬ ein st c = true := by
      intro hin
      obtain ⟨i, hil, e⟩ := ein_t hin
      obtain ⟨t', g1, g2, g3⟩ := h2 i hil
      rw [e] at g2 g3
      rcases Nat.lt_trichotomy t' t with hx | hx | hx
      · exact (hb t' hx).2 g2
      · subst hx
        rw [he] at g2
        have := e_m1 (a := c) (by omega)
        exact (this.mp g2.symm).elim
      · exact g3 t hx he
    refine s_gappend hf hk.1 (pos_lt c t) ?_
    intro m' g1 g2
    by_cases h5 : st.2 < 500
    · have e := g1 h5
      have eg : gen st c = (ud st.1 st.2 c, st.2 + 1) := by unfold gen; rw [if_neg hno, if_pos h5]
      rw [eg] at h
      refine h m' ?_ ⟨?_, fun i hil => ?_, ?_⟩
      · subst e
        exact ((fz_u2 (by omega) (by omega)).trans (fz_u2 (m := (_, _)) (by omega) (by omega))).trans (fz_u2 (m := (_, _)) (by omega) (by omega))
      · subst e
        show mm_u2 (mm_u2 (mm_u2 m.1 65 (pos c t) (nI c)) 64 st.2 (nI c)) 63 2 (nI (st.2 + 1)) 63 2 = _
        rw [u2_s]
      · subst e
        have hil : i < st.2 + 1 := hil
        show mm_u2 (mm_u2 (mm_u2 m.1 65 (pos c t) (nI c)) 64 st.2 (nI c)) 63 2 (nI (st.2 + 1)) 64 i = nI (ud st.1 st.2 c i)
        rw [u2_rj (by omega)]
        by_cases e2 : i = st.2
        · subst e2; rw [u2_s, ud_s]
        · rw [u2_j e2, u2_rj (by omega), ud_n e2]
          exact hi i (by omega)
      · have er : m'.1 65 = fun s => if s = pos c t then nI c else m.1 65 s := by
          subst e
          show mm_u2 (mm_u2 (mm_u2 m.1 65 (pos c t) (nI c)) 64 st.2 (nI c)) 63 2 (nI (st.2 + 1)) 65 = _
          rw [u2_r (by omega), u2_r (by omega)]
          funext s
          by_cases e2 : s = pos c t
          · rw [if_pos e2, e2, u2_s]
          · rw [if_neg e2, u2_j e2]
        rw [er]
        exact sl_add hk hc ⟨h1, h2, h3⟩ ht he (fun u hu => (hb u hu).1)
    · have h50 := hk.1
      have e := g2 (by omega)
      subst e
      have eg : gen st c = st := by unfold gen; rw [if_neg hno, if_neg h5]
      rw [eg] at h
      exact h m' fz.refl ⟨hf, hi, h1, h2, h3⟩
  have hit : ∀ s, s < 1024 → m.1 65 s = nI c → P m := by
    intro s hs e
    rcases h1 s hs with g | ⟨i, hil, g⟩
    · rw [g] at e
      have := e_m1 (a := c) (by omega)
      exact (this.mp e.symm).elim
    · rw [g] at e
      have hci := hk.2 i hil
      have e := e_in (by omega) (by omega) e
      have eg : gen st c = st := by unfold gen; rw [if_pos (ein_i hil e)]
      rw [eg] at h
      exact h m fz.refl ⟨hf, hi, h1, h2, h3⟩
  have W := lp_up (W := fun t => (∀ u, u < t → m.1 65 (pos c u) ≠ -1 ∧ m.1 65 (pos c u) ≠ nI c) → ∀ s, (s = pos c t ∨ s = 1024 ∧ pos c t = 0) → mm_wp (d + 1) sn kX2_enter 10 [some (.ref 63), some (.int (nI c)), some (.int (nI s)), some (.int (nI t))] [] m (qV P)) (Nat.zero_le 1024) ?_ ?_
  · refine W (fun u hu => by omega) _ (Or.inl ?_)
    unfold pos
    rw [Nat.add_zero, Nat.mod_eq_of_lt hhl]
  · intro hb s _
    have : cN (fun s => !(m.1 65 s == -1)) 1024 = 1024 := cN_all (fun s hs => by
      obtain ⟨t, ht, e⟩ := pos_all c s hs
      have := (hb t ht).1
      rw [e] at this
      rw [beq_eq_false_iff_ne.mpr this]; rfl)
    have h50 := hk.1
    omega
  · intro t _ ht ih hb s hs
    have hp := pos_lt c t
    have next : ∀ s', s' = pos c t → m.1 65 (pos c t) ≠ nI c → m.1 65 (pos c t) ≠ -1 → mm_wp (d + 1) sn kX2_enter 10 [some (.ref 63), some (.int (nI c)), some (.int (nI (s' + 1))), some (.int (nI (t + 1)))] [] m (qV P) := by
      intro s' es' n1 n2
      refine ih (fun u hu => ?_) _ ?_
      · by_cases e : u = t
        · subst e; exact ⟨n2, n1⟩
        · exact hb u (by omega)
      · subst es'
        unfold pos
        by_cases e : (hsh c + t) % 1024 + 1 = 1024
        · exact Or.inr ⟨e, by omega⟩
        · exact Or.inl (by omega)
    refine v_X2_enter_10 (e_vF (by rw [e_le (by omega) (by omega)]; omega) (e_vF (by rw [e_lt0 (by omega)]; exact id) ?_))
    rw [e_lt (by omega) (by omega), e_vin (by omega) (by omega), e_cl (by omega), e_add, e_add, e_add]
    rcases hs with hs | ⟨hs, hz⟩
    · subst hs
      refine e_vT hp ⟨hp, fun n1 => ⟨hp, fun n2 => next _ rfl n1 n2, fun n2 => fin t ht hb (Classical.not_not.mp n2)⟩, fun n1 => hit _ hp (Classical.not_not.mp n1)⟩
    · subst hs
      have n0 : 0 = pos c t := hz.symm
      refine e_vF (by omega) ⟨fun n1 => ⟨fun n2 => ?_, fun n2 => ?_⟩, fun n1 => hit 0 (by omega) (Classical.not_not.mp n1)⟩
      · exact next 0 n0 (by rw [hz]; exact n1) (by rw [hz]; exact n2)
      · have := fin t ht hb (by rw [hz]; exact Classical.not_not.mp n2)
        rw [hz] at this
        exact this
theorem s_gbf {d sn w : Nat} {S : St} {P : Int32 → mm_Mem → Prop} {m0 : mm_Mem} (hS : rS 2 S m0) (h4 : sW S ≤ 4 ∧ sC S ≤ 4) (hw : w = sW S) (hT8 : ∀ i, i < w → ∀ p, p < 8 → sT S i p < 8) : ∀ (f h : Nat) (st : GL) (m : mm_Mem), h ≤ st.2 → 501 ≤ f + h → fz 63 65 m0 m → gOk st → rG st m → (∀ m', fz 63 65 m0 m' → P (nI (gbf (sT S) w f h st).2) m') → mm_wp (d + 3) sn kX2_orderOf 22 [some (.ref 63), some (.ref 2), some (.int (nI h)), none, none] [] m (qI P)
  | 0, h, st, m, h1, h2, _, hk, _, _ => by
    have := hk.1
    omega
  | f + 1, h, st, m, h1, h2, hz, hk, hG, hP => by
    have h5 := hk.1
    refine v_X2_orderOf_22 ?_
    rw [hG.1, e_le (by omega) (by omega), e_le (by omega) (by omega)]
    unfold gbf at hP
    refine ⟨fun c => ?_, fun c => ⟨fun c2 => by omega, fun _ => ?_⟩⟩
    · rw [if_neg (by omega)] at hP
      exact hP m hz
    · have hlt : h < st.2 := by omega
      rw [if_pos hlt] at hP
      refine lp_up (W := fun i => ∀ m1, fz 63 65 m0 m1 → rG (genW (sT S) (st.1 h) i st) m1 → mm_wp (d + 3) sn kX2_orderOf 41 [some (.ref 63), some (.ref 2), some (.int (nI h)), some (.int (nI i)), none] [] m1 (qI P)) (Nat.zero_le w) ?_ ?_ m hz hG
      · intro m1 hz1 hG1
        refine v_X2_orderOf_41 ?_
        have hS1 := fz_rS h4 hz1 (by omega) hS
        rw [hS1.2.1]
        refine e_vT (by rw [e_le (by omega) (by omega)]; omega) ?_
        rw [e_add]
        have := genW_le (Ts := sT S) (c := st.1 h) (st := st) w
        exact s_gbf hS h4 hw hT8 f (h + 1) _ m1 (by omega) (by omega) hz1 (genW_ok hk w hT8) hG1 hP
      · intro i _ hi ih m1 hz1 hG1
        refine v_X2_orderOf_41 ?_
        have hS1 := fz_rS h4 hz1 (by omega) hS
        rw [hS1.2.1]
        refine e_vF (by rw [e_le (by omega) (by omega)]; omega) ?_
        refine s_wayAt shS_2 hS1.2.1 h4.1 (fun j hj ej => ?_) (fun e => iz_f (show i < sW S by omega) (by omega) e)
        have ej := e_in (by omega) (by omega) ej
        subst ej
        have hle := genW_le (Ts := sT S) (c := st.1 h) (st := st) i
        refine v_so ⟨shS_y shS_2 (by omega), ?_⟩
        rw [e_vin (by omega) (by omega), e_cl (by omega)]
        refine ⟨by omega, ?_⟩
        have e6 : m1.1 64 h = nI (st.1 h) := by
          rw [hG1.2.1 h (by omega), genW_at hlt]
        rw [e6]
        refine s_followedBy (shS_y shS_2 (by omega)) (hS1.2.2.2.2.1 i (by omega)) (hT8 i hi) (hk.2 h hlt) ?_
        refine s_genter (genW_ok hk i (fun k hk => hT8 k (by omega))) (fol_lt (hT8 i hi)) hG1 ?_
        intro m2 hz2 hG2
        rw [e_add]
        exact ih m2 (hz1.trans hz2) hG2
theorem shI_65 : shI 1024 65 := ⟨by decide, fun _ => rfl⟩
def A_order (S : St) : Int32 := nI (ordS S)
theorem c_order {d sn : Nat} {X : GS} {m : mm_Mem} {P : Int32 → mm_Mem → Prop} (hX : okX X) (hI : cI X m) (h : ∀ m', fz 1 81 m m' → cI X m' → P (A_order X.1) m') : mm_sp (d + 5) sn kX10_order [.ref 1] m (qI P) := by
  refine v_X10_order ?_
  refine v_X2_orderOf ?_
  refine s_fillI shI_65 (by omega) ?_
  intro m1 hf1 h1 m2 e2
  refine s_stillness ?_
  have hid : idN 8 < 16777216 := by decide
  have hz2 : fz 63 65 m m2 := (hf1.z1 (by omega) (by omega)).trans (by subst e2; exact fz_u2 (by omega) (by omega))
  have hr : m2.1 65 = m1.1 65 := by
    subst e2
    show mm_u2 m1.1 63 2 (nI 0) 65 = _
    rw [u2_r (by omega)]
  have hG0 : rG (fun _ => 0, 0) m2 := by
    refine ⟨?_, fun i hi => absurd hi (Nat.not_lt_zero i), fun s hs => Or.inl (by rw [hr]; exact h1 s hs), fun i hi => absurd hi (Nat.not_lt_zero i), ?_⟩
    · subst e2
      show mm_u2 m1.1 63 2 (nI 0) 63 2 = _
      rw [u2_s]
    · rw [cN_none (fun s hs => by rw [hr, h1 s hs]; rfl)]
      exact Nat.le_refl 0
  refine s_genter (st := (fun _ => 0, 0)) ⟨Nat.zero_le _, fun i hi => absurd hi (Nat.not_lt_zero i)⟩ hid hG0 ?_
  intro m3 hz3 hG3
  have e3 : gen (fun _ => 0, 0) (idN 8) = (ud (fun _ => 0) 0 (idN 8), 1) := by
    unfold gen
    rw [if_neg (by decide), if_pos (by decide)]
  rw [e3] at hG3
  have hG4 : rG (fun _ => idN 8, 1) m3 := by
    obtain ⟨g1, g2, g3, g4, g5⟩ := hG3
    have ex : ∀ i, i < 1 → ud (fun _ => 0) 0 (idN 8) i = idN 8 := fun i hi => by
      have : i = 0 := by omega
      subst this; exact ud_s
    refine ⟨g1, fun i hi => (g2 i hi).trans (congrArg nI (ex i hi)), fun s hs => ?_, fun i hi => ?_, g5⟩
    · rcases g3 s hs with g | ⟨i, hi, g⟩
      · exact Or.inl g
      · exact Or.inr ⟨i, hi, g.trans (congrArg nI (ex i hi))⟩
    · have := g4 i hi
      rw [show (ud (fun _ => 0) 0 (idN 8), 1).1 i = idN 8 from ex i hi] at this
      exact this
  refine s_gbf hI.1 hX.1.2.1 rfl (okS_8 hX.1) 501 0 (fun _ => idN 8, 1) m3 (Nat.zero_le _) (by omega) (hz2.trans hz3) ⟨by decide, fun i hi => hid⟩ hG4 ?_
  intro m' hz
  exact h m' (hz.wide (by omega) (by omega)) (fz_cI hX hz (by omega) hI)
