-- BLOCKS: what the methods that look answer
def orN (B : Nat → Bool) : Nat → Nat
  | 0 => 0
  | n + 1 => if B n = true then orN B n ||| n else orN B n
theorem orN_lt {B : Nat → Bool} : ∀ {n : Nat}, n ≤ 256 → orN B n < 256
  | 0, _ => Nat.zero_lt_succ _
  | n + 1, h => by
    unfold orN
    have ih := orN_lt (B := B) (show n ≤ 256 by omega)
    split
    · exact Nat.or_lt_two_pow (n := 8) ih (by omega)
    · exact ih
noncomputable def nthV (p : Nat → Bool) (i : Nat) : Int32 := @dite _ (∃ s, s < 256 ∧ p s = true ∧ cN p s = i) (Classical.propDecidable _) (fun h => nI (Classical.choose h)) (fun _ => -5)
theorem cN_inj {p : Nat → Bool} {s t : Nat} (h1 : p s = true) (h2 : p t = true) (e : cN p s = cN p t) : s = t := by
  rcases Nat.lt_trichotomy s t with h | h | h
  · have := cN_mono (p := p) (show s + 1 ≤ t by omega)
    rw [cN_t h1] at this
    omega
  · exact h
  · have := cN_mono (p := p) (show t + 1 ≤ s by omega)
    rw [cN_t h2] at this
    omega
theorem nthV_s {p : Nat → Bool} {i s : Nat} (hs : s < 256) (h1 : p s = true) (h2 : cN p s = i) : nthV p i = nI s := by
  unfold nthV
  have hx : ∃ s, s < 256 ∧ p s = true ∧ cN p s = i := ⟨s, hs, h1, h2⟩
  rw [dif_pos hx]
  have hc := Classical.choose_spec hx
  rw [cN_inj hc.2.1 h1 (hc.2.2.trans h2.symm)]
theorem nthV_n {p : Nat → Bool} {i : Nat} (h : ∀ s, s < 256 → p s = true → cN p s ≠ i) : nthV p i = -5 := by
  unfold nthV
  rw [dif_neg]
  rintro ⟨s, h1, h2, h3⟩
  exact h s h1 h2 h3
theorem s_setAt {d sn a i : Nat} {m : mm_Mem} {P : Int32 → mm_Mem → Prop} {B : Nat → Bool} (ha : shB a) (hB : rZ (m.1 (a + 1)) B 256) (hi : i < 2147483648) (h : P (nthV B i) m) : mm_sp (d + 1) sn kX0_setAt [.ref a, .int (nI i)] m (qI P) := by
  refine v_X0_setAt ha ?_
  refine lp_up (W := fun s => (∀ t, t < s → B t = true → cN B t ≠ i) → mm_wp d sn kX0_setAt 4 [some (.ref a), some (.int (nI i)), some (.int (nI (cN B s))), some (.int (nI s))] [] m (qI P)) (Nat.zero_le 256) ?_ ?_ (fun t ht => by omega)
  · intro hn
    refine v_X0_setAt_4 ha ?_
    simp (disch := omega) only [e_le, e_lt, e_eq, e_lt0, e_0le, e_le0, e_0lt, e_eq0, e_m1, e_m5, e_m1l, e_m5l, e_m1e, e_add, e_dec, e_sub, e_mul, e_div, e_rem, e_and, e_or, e_shl, e_shr, e_vin, e_nar, e_nar0, e_nar1, e_cl, e_b0, e_b00, e_b1, e_bt, e_andn, e_xor, Bool.not_eq_false, Bool.not_eq_true, Classical.not_not, not_false_eq_true, not_true_eq_false, true_implies, false_implies, true_and, and_true]
    refine ⟨fun _ => ?_, fun c => by omega⟩
    rw [nthV_n hn] at h
    exact h
  · intro s _ hs ih hn
    refine v_X0_setAt_4 ha ?_
    have hb := hB s hs
    have hl := cN_le B s
    simp (disch := omega) only [e_le, e_lt, e_eq, e_lt0, e_0le, e_le0, e_0lt, e_eq0, e_m1, e_m5, e_m1l, e_m5l, e_m1e, e_add, e_dec, e_sub, e_mul, e_div, e_rem, e_and, e_or, e_shl, e_shr, e_vin, e_nar, e_nar0, e_nar1, e_cl, e_b0, e_b00, e_b1, e_bt, e_andn, e_xor, Bool.not_eq_false, Bool.not_eq_true, Classical.not_not, not_false_eq_true, not_true_eq_false, true_implies, false_implies, true_and, and_true, hb]
    refine ⟨fun c => by omega, fun _ => ⟨hs, fun hf => ?_, fun ht => ⟨fun hx => ?_, fun he => ?_⟩⟩⟩
    · rw [cN_f hf] at ih
      refine ih (fun t h1 h2 => ?_)
      by_cases e : t = s
      · subst e; rw [hf] at h2; cases h2
      · exact hn t (by omega) h2
    · rw [cN_t ht] at ih
      refine ih (fun t h1 h2 => ?_)
      by_cases e : t = s
      · subst e; exact hx
      · exact hn t (by omega) h2
    · rw [nthV_s hs ht he] at h
      exact h
theorem s_union {d sn a : Nat} {m : mm_Mem} {P : Int32 → mm_Mem → Prop} {B : Nat → Bool} (ha : shB a) (hB : rZ (m.1 (a + 1)) B 256) (h : P (nI (orN B 256)) m) : mm_sp (d + 1) sn kX0_union [.ref a] m (qI P) := by
  refine v_X0_union ha ?_
  refine lp_up (W := fun s => mm_wp d sn kX0_union 4 [some (.ref a), some (.int (nI (orN B s))), some (.int (nI s))] [] m (qI P)) (Nat.zero_le 256) ?_ ?_
  · refine v_X0_union_4 ha ?_
    simp (disch := omega) only [e_le, e_lt, e_eq, e_lt0, e_0le, e_le0, e_0lt, e_eq0, e_m1, e_m5, e_m1l, e_m5l, e_m1e, e_add, e_dec, e_sub, e_mul, e_div, e_rem, e_and, e_or, e_shl, e_shr, e_vin, e_nar, e_nar0, e_nar1, e_cl, e_b0, e_b00, e_b1, e_bt, e_andn, e_xor, Bool.not_eq_false, Bool.not_eq_true, Classical.not_not, not_false_eq_true, not_true_eq_false, true_implies, false_implies, true_and, and_true]
    exact ⟨fun _ => h, fun c => by omega⟩
  · intro s _ hs ih
    refine v_X0_union_4 ha ?_
    have hb := hB s hs
    simp (disch := omega) only [e_le, e_lt, e_eq, e_lt0, e_0le, e_le0, e_0lt, e_eq0, e_m1, e_m5, e_m1l, e_m5l, e_m1e, e_add, e_dec, e_sub, e_mul, e_div, e_rem, e_and, e_or, e_shl, e_shr, e_vin, e_nar, e_nar0, e_nar1, e_cl, e_b0, e_b00, e_b1, e_bt, e_andn, e_xor, Bool.not_eq_false, Bool.not_eq_true, Classical.not_not, not_false_eq_true, not_true_eq_false, true_implies, false_implies, true_and, and_true, hb]
    refine ⟨fun c => by omega, fun _ => ⟨hs, fun hf => ?_, fun ht => ?_⟩⟩
    · have e : orN B (s + 1) = orN B s := by unfold orN; rw [if_neg (by rw [hf]; decide)]; cases s <;> rfl
      rw [e] at ih; exact ih
    · have e : orN B (s + 1) = orN B s ||| s := by show (if B s = true then orN B s ||| s else orN B s) = _; rw [if_pos ht]
      rw [e] at ih; exact ih
theorem s_meeting {d sn a x j : Nat} {m : mm_Mem} {P : Int32 → mm_Mem → Prop} {B : Nat → Bool} (ha : shB a) (hB : rZ (m.1 (a + 1)) B 256) (hj : j < 2147483648) (h : P (nI (cN (fun s => B s && bc (s &&& x) == j) 256)) m) : mm_sp (d + 2) sn kX0_meeting [.ref a, .int (nI x), .int (nI j)] m (qI P) := by
  refine v_X0_meeting ha ?_
  refine lp_up (W := fun s => mm_wp (d + 1) sn kX0_meeting 5 [some (.ref a), some (.int (nI x)), some (.int (nI j)), some (.int (nI (cN (fun s => B s && bc (s &&& x) == j) s))), some (.int (nI s))] [] m (qI P)) (Nat.zero_le 256) ?_ ?_
  · refine v_X0_meeting_5 ha ?_
    simp (disch := omega) only [e_le, e_lt, e_eq, e_lt0, e_0le, e_le0, e_0lt, e_eq0, e_m1, e_m5, e_m1l, e_m5l, e_m1e, e_add, e_dec, e_sub, e_mul, e_div, e_rem, e_and, e_or, e_shl, e_shr, e_vin, e_nar, e_nar0, e_nar1, e_cl, e_b0, e_b00, e_b1, e_bt, e_andn, e_xor, Bool.not_eq_false, Bool.not_eq_true, Classical.not_not, not_false_eq_true, not_true_eq_false, true_implies, false_implies, true_and, and_true]
    exact ⟨fun _ => h, fun c => by omega⟩
  · intro s _ hs ih
    refine v_X0_meeting_5 ha ?_
    have hb := hB s hs
    have hl : s &&& x ≤ s := Nat.and_le_left
    simp (disch := omega) only [e_le, e_lt, e_eq, e_lt0, e_0le, e_le0, e_0lt, e_eq0, e_m1, e_m5, e_m1l, e_m5l, e_m1e, e_add, e_dec, e_sub, e_mul, e_div, e_rem, e_and, e_or, e_shl, e_shr, e_vin, e_nar, e_nar0, e_nar1, e_cl, e_b0, e_b00, e_b1, e_bt, e_andn, e_xor, Bool.not_eq_false, Bool.not_eq_true, Classical.not_not, not_false_eq_true, not_true_eq_false, true_implies, false_implies, true_and, and_true, hb]
    refine ⟨fun c => by omega, fun _ => ⟨hs, fun hf => ?_, fun ht => ?_⟩⟩
    · rw [cN_f (by simp only [hf, Bool.false_and])] at ih; exact ih
    · refine s_bitCount (by omega) ?_
      have hk := bc_le (s &&& x)
      simp (disch := omega) only [e_le, e_lt, e_eq, e_lt0, e_0le, e_le0, e_0lt, e_eq0, e_m1, e_m5, e_m1l, e_m5l, e_m1e, e_add, e_dec, e_sub, e_mul, e_div, e_rem, e_and, e_or, e_shl, e_shr, e_vin, e_nar, e_nar0, e_nar1, e_cl, e_b0, e_b00, e_b1, e_bt, e_andn, e_xor, Bool.not_eq_false, Bool.not_eq_true, Classical.not_not, not_false_eq_true, not_true_eq_false, true_implies, false_implies, true_and, and_true]
      refine ⟨fun e => ?_, fun e => ?_⟩
      · rw [cN_f (by simp [e])] at ih; exact ih
      · rw [cN_t (by simp [ht, e])] at ih; exact ih
def arN (B : Nat → Bool) (x : Nat) : Nat := cN (fun s => B s && (s &&& x == x)) 256
theorem s_around {d sn a x : Nat} {m : mm_Mem} {P : Int32 → mm_Mem → Prop} {B : Nat → Bool} (ha : shB a) (hB : rZ (m.1 (a + 1)) B 256) (hx : x < 256) (h : P (nI (arN B x)) m) : mm_sp (d + 1) sn kX0_around [.ref a, .int (nI x)] m (qI P) := by
  refine v_X0_around ha ?_
  have h0 : cN (fun s => B s && (s &&& x == x)) x = 0 := cN_none (fun s hs => by
    have hl : s &&& x ≤ s := Nat.and_le_left
    have : (s &&& x == x) = false := by
      rw [beq_eq_false_iff_ne]; omega
    simp only [this, Bool.and_false])
  have W := lp_up (W := fun s => mm_wp d sn kX0_around 4 [some (.ref a), some (.int (nI x)), some (.int (nI (cN (fun s => B s && (s &&& x == x)) s))), some (.int (nI s))] [] m (qI P)) (show x ≤ 256 by omega) ?_ ?_
  · rw [h0] at W; exact W
  · refine v_X0_around_4 ha ?_
    simp (disch := omega) only [e_le, e_lt, e_eq, e_lt0, e_0le, e_le0, e_0lt, e_eq0, e_m1, e_m5, e_m1l, e_m5l, e_m1e, e_add, e_dec, e_sub, e_mul, e_div, e_rem, e_and, e_or, e_shl, e_shr, e_vin, e_nar, e_nar0, e_nar1, e_cl, e_b0, e_b00, e_b1, e_bt, e_andn, e_xor, Bool.not_eq_false, Bool.not_eq_true, Classical.not_not, not_false_eq_true, not_true_eq_false, true_implies, false_implies, true_and, and_true]
    exact ⟨fun _ => h, fun c => by omega⟩
  · intro s _ hs ih
    refine v_X0_around_4 ha ?_
    have hb := hB s hs
    have hl : s &&& x ≤ s := Nat.and_le_left
    simp (disch := omega) only [e_le, e_lt, e_eq, e_lt0, e_0le, e_le0, e_0lt, e_eq0, e_m1, e_m5, e_m1l, e_m5l, e_m1e, e_add, e_dec, e_sub, e_mul, e_div, e_rem, e_and, e_or, e_shl, e_shr, e_vin, e_nar, e_nar0, e_nar1, e_cl, e_b0, e_b00, e_b1, e_bt, e_andn, e_xor, Bool.not_eq_false, Bool.not_eq_true, Classical.not_not, not_false_eq_true, not_true_eq_false, true_implies, false_implies, true_and, and_true, hb]
    refine ⟨fun c => by omega, fun _ => ⟨hs, fun hf => ?_, fun ht => ⟨fun e => ?_, fun e => ?_⟩⟩⟩
    · rw [cN_f (by simp only [hf, Bool.false_and])] at ih; exact ih
    · rw [cN_f (by simp [e])] at ih; exact ih
    · rw [cN_t (by simp [ht, e])] at ih; exact ih
def shm (g k x : Nat) : Bool := (x &&& g == x) && bc x == k
noncomputable def shV (B : Nat → Bool) (g k : Nat) : Int32 := @dite _ (∃ c, (∃ x, x < 256 ∧ shm g k x = true ∧ arN B x = c) ∧ ∀ x, x < 256 → shm g k x = true → arN B x = c) (Classical.propDecidable _) (fun h => nI (Classical.choose h)) (fun _ => -5)
theorem shV_s {B : Nat → Bool} {g k x c : Nat} (hx : x < 256) (h1 : shm g k x = true) (h : ∀ x, x < 256 → shm g k x = true → arN B x = c) : shV B g k = nI c := by
  unfold shV
  have hx : ∃ c, (∃ x, x < 256 ∧ shm g k x = true ∧ arN B x = c) ∧ ∀ x, x < 256 → shm g k x = true → arN B x = c := ⟨c, ⟨x, hx, h1, h x hx h1⟩, h⟩
  rw [dif_pos hx]
  obtain ⟨⟨y, g1, g2, g3⟩, _⟩ := Classical.choose_spec hx
  rw [← g3, h y g1 g2]
theorem shV_2 {B : Nat → Bool} {g k x y : Nat} (hx : x < 256) (h1 : shm g k x = true) (hy : y < 256) (h2 : shm g k y = true) (h : arN B x ≠ arN B y) : shV B g k = -5 := by
  unfold shV
  rw [dif_neg]
  rintro ⟨c, _, hc⟩
  exact h ((hc x hx h1).trans (hc y hy h2).symm)
theorem shV_0 {B : Nat → Bool} {g k : Nat} (h : ∀ x, x < 256 → shm g k x = false) : shV B g k = -5 := by
  unfold shV
  rw [dif_neg]
  rintro ⟨c, ⟨x, h1, h2, _⟩, _⟩
  rw [h x h1] at h2
  cases h2
theorem arN_le (B : Nat → Bool) (x : Nat) : arN B x ≤ 256 := cN_le _ _
theorem shV_or (B : Nat → Bool) (g k : Nat) : shV B g k = -5 ∨ ∃ c, c ≤ 256 ∧ shV B g k = nI c := by
  unfold shV
  by_cases h : ∃ c, (∃ x, x < 256 ∧ shm g k x = true ∧ arN B x = c) ∧ ∀ x, x < 256 → shm g k x = true → arN B x = c
  · right
    rw [dif_pos h]
    obtain ⟨⟨x, _, _, e⟩, _⟩ := Classical.choose_spec h
    exact ⟨_, by rw [← e]; exact arN_le B x, rfl⟩
  · left
    rw [dif_neg h]
theorem s_shareOn {d sn a g k : Nat} {m : mm_Mem} {P : Int32 → mm_Mem → Prop} {B : Nat → Bool} (ha : shB a) (hB : rZ (m.1 (a + 1)) B 256) (hk : k < 2147483648) (h : P (shV B g k) m) : mm_sp (d + 2) sn kX0_shareOn [.ref a, .int (nI g), .int (nI k)] m (qI P) := by
  refine v_X0_shareOn ha ?_
  have W := lp_up (W := fun s => ∀ v, ((v = (-5) ∧ ∀ x, x < s → shm g k x = false) ∨ (∃ c y, v = nI c ∧ y < s ∧ shm g k y = true ∧ ∀ x, x < s → shm g k x = true → arN B x = c)) → mm_wp (d + 1) sn kX0_shareOn 6 [some (.ref a), some (.int (nI g)), some (.int (nI k)), some (.int v), some (.int (nI s)), none] [] m (qI P)) (Nat.zero_le 256) ?_ ?_
  · exact W _ (Or.inl ⟨rfl, fun x hx => by omega⟩)
  · intro v hv
    refine v_X0_shareOn_6 ha ?_
    simp (disch := omega) only [e_le, e_lt, e_eq, e_lt0, e_0le, e_le0, e_0lt, e_eq0, e_m1, e_m5, e_m1l, e_m5l, e_m1e, e_add, e_dec, e_sub, e_mul, e_div, e_rem, e_and, e_or, e_shl, e_shr, e_vin, e_nar, e_nar0, e_nar1, e_cl, e_b0, e_b00, e_b1, e_bt, e_andn, e_xor, Bool.not_eq_false, Bool.not_eq_true, Classical.not_not, not_false_eq_true, not_true_eq_false, true_implies, false_implies, true_and, and_true]
    refine ⟨fun _ => ?_, fun c => by omega⟩
    rcases hv with ⟨e, hn⟩ | ⟨c, y, e, hy, h1, h2⟩
    · rw [shV_0 hn] at h; rw [e]; exact h
    · rw [shV_s hy h1 h2] at h; rw [e]; exact h
  · intro s _ hs ih v hv
    have skip : shm g k s = false → mm_wp (d + 1) sn kX0_shareOn 6 [some (.ref a), some (.int (nI g)), some (.int (nI k)), some (.int v), some (.int (nI (s + 1))), none] [] m (qI P) := by
      intro hf
      refine ih v ?_
      rcases hv with ⟨e, hn⟩ | ⟨c, y, e, hy, h1, h2⟩
      · refine Or.inl ⟨e, fun x hx => ?_⟩
        by_cases e2 : x = s
        · subst e2; exact hf
        · exact hn x (by omega)
      · refine Or.inr ⟨c, y, e, by omega, h1, fun x hx hm => ?_⟩
        by_cases e2 : x = s
        · subst e2; rw [hf] at hm; cases hm
        · exact h2 x (by omega) hm
    refine v_X0_shareOn_6 ha ?_
    have hl := sm_le s g
    simp (disch := omega) only [e_le, e_lt, e_eq, e_lt0, e_0le, e_le0, e_0lt, e_eq0, e_m1, e_m5, e_m1l, e_m5l, e_m1e, e_add, e_dec, e_sub, e_mul, e_div, e_rem, e_and, e_or, e_shl, e_shr, e_vin, e_nar, e_nar0, e_nar1, e_cl, e_b0, e_b00, e_b1, e_bt, e_andn, e_xor, Bool.not_eq_false, Bool.not_eq_true, Classical.not_not, not_false_eq_true, not_true_eq_false, true_implies, false_implies, true_and, and_true, sm_0]
    refine ⟨fun c => by omega, fun _ => ⟨fun e => ?_, fun e1 => ?_⟩⟩
    · exact skip (by unfold shm; simp [e])
    · refine s_bitCount (by omega) ?_
      have hk := bc_le s
      simp (disch := omega) only [e_le, e_lt, e_eq, e_lt0, e_0le, e_le0, e_0lt, e_eq0, e_m1, e_m5, e_m1l, e_m5l, e_m1e, e_add, e_dec, e_sub, e_mul, e_div, e_rem, e_and, e_or, e_shl, e_shr, e_vin, e_nar, e_nar0, e_nar1, e_cl, e_b0, e_b00, e_b1, e_bt, e_andn, e_xor, Bool.not_eq_false, Bool.not_eq_true, Classical.not_not, not_false_eq_true, not_true_eq_false, true_implies, false_implies, true_and, and_true]
      refine ⟨fun e => ?_, fun e2 => ?_⟩
      · exact skip (by unfold shm; simp [e])
      · have hm : shm g k s = true := by unfold shm; simp [e1, e2]
        refine s_around ha hB hs ?_
        refine ⟨fun e => ?_, fun e => ⟨fun e3 => ?_, fun e3 => ?_⟩⟩
        · refine ih _ (Or.inr ⟨_, s, rfl, by omega, hm, fun x hx hxm => ?_⟩)
          by_cases e2 : x = s
          · rw [e2]
          · rcases hv with ⟨_, hn⟩ | ⟨c, y, e4, hy, h1, h2⟩
            · rw [hn x (by omega)] at hxm; cases hxm
            · have hc : c ≤ 256 := by rw [← h2 y hy h1]; exact arN_le _ _
              rw [e4, e_m5 (by omega)] at e
              exact e.elim
        · refine ih _ (Or.inr ⟨_, s, rfl, by omega, hm, fun x hx hxm => ?_⟩)
          by_cases e2 : x = s
          · rw [e2]
          · rcases hv with ⟨e4, hn⟩ | ⟨c, y, e4, hy, h1, h2⟩
            · exact absurd e4 e
            · have hc : c ≤ 256 := by rw [← h2 y hy h1]; exact arN_le _ _
              have hc2 := arN_le B s
              rw [e4, e_eq (by omega) (by omega)] at e3
              rw [h2 x (by omega) hxm, e3]
        · rcases hv with ⟨e4, hn⟩ | ⟨c, y, e4, hy, h1, h2⟩
          · exact absurd e4 e
          · have hc : c ≤ 256 := by rw [← h2 y hy h1]; exact arN_le _ _
            have hc2 := arN_le B s
            rw [e4, e_eq (by omega) (by omega)] at e3
            rw [shV_2 (show y < 256 by omega) h1 hs hm (by rw [h2 y hy h1]; exact e3)] at h
            exact h
noncomputable def stV (B : Nat → Bool) (g K : Nat) : Nat := cN (fun s => @decide (∀ j, j ≤ s → shV B g (j + 1) ≠ -5) (Classical.propDecidable _)) K
theorem cN_all {p : Nat → Bool} : ∀ {n : Nat}, (∀ s, s < n → p s = true) → cN p n = n
  | 0, _ => rfl
  | n + 1, h => by rw [cN_t (h n (by omega)), cN_all (fun s hs => h s (by omega))]
theorem cN_cut {p : Nat → Bool} {t n : Nat} (h1 : ∀ s, s < t → p s = true) (h2 : ∀ s, t ≤ s → s < n → p s = false) (ht : t ≤ n) : cN p n = t := by
  induction n with
  | zero => have : t = 0 := by omega
            subst this; rfl
  | succ n ih =>
    by_cases e : t = n + 1
    · subst e; exact cN_all h1
    · rw [cN_f (h2 n (by omega) (by omega)), ih (fun s a b => h2 s a (by omega)) (by omega)]
theorem stV_s {B : Nat → Bool} {g K t : Nat} (ht : t ≤ K) (h1 : ∀ s, s < t → shV B g (s + 1) ≠ -5) (h2 : t < K → shV B g (t + 1) = -5) : stV B g K = t := by
  unfold stV
  refine cN_cut ?_ ?_ ht
  · intro s hs
    exact @decide_eq_true _ (Classical.propDecidable _) (fun j hj => h1 j (by omega))
  · intro s hs hk
    refine @decide_eq_false _ (Classical.propDecidable _) (fun h => ?_)
    exact h t hs (h2 (by omega))
theorem stV_le {B : Nat → Bool} {g K : Nat} : stV B g K ≤ K := cN_le _ _
theorem s_strengthOn {d sn a g K : Nat} {m : mm_Mem} {P : Int32 → mm_Mem → Prop} {B : Nat → Bool} (ha : shB a) (hB : rZ (m.1 (a + 1)) B 256) (hK : m.1 a 0 = nI K) (hk : K < 1000) (h : P (nI (stV B g K)) m) : mm_sp (d + 3) sn kX0_strengthOn [.ref a, .int (nI g)] m (qI P) := by
  refine v_X0_strengthOn ha ?_
  refine lp_up (W := fun s => (∀ j, j < s → shV B g (j + 1) ≠ -5) → mm_wp (d + 2) sn kX0_strengthOn 2 [some (.ref a), some (.int (nI g)), some (.int (nI (s + 1)))] [] m (qI P)) (Nat.zero_le K) ?_ ?_ (fun j hj => by omega)
  · intro hn
    refine v_X0_strengthOn_2 ha ?_
    rw [hK]
    simp (disch := omega) only [e_le, e_lt, e_eq, e_lt0, e_0le, e_le0, e_0lt, e_eq0, e_m1, e_m5, e_m1l, e_m5l, e_m1e, e_add, e_dec, e_sub, e_mul, e_div, e_rem, e_and, e_or, e_shl, e_shr, e_vin, e_nar, e_nar0, e_nar1, e_cl, e_b0, e_b00, e_b1, e_bt, e_andn, e_xor, Bool.not_eq_false, Bool.not_eq_true, Classical.not_not, not_false_eq_true, not_true_eq_false, true_implies, false_implies, true_and, and_true]
    refine ⟨fun _ => ?_, fun c => by omega⟩
    rw [stV_s (Nat.le_refl K) hn (fun c => by omega)] at h
    exact h
  · intro s _ hs ih hn
    refine v_X0_strengthOn_2 ha ?_
    rw [hK]
    simp (disch := omega) only [e_le, e_lt, e_eq, e_lt0, e_0le, e_le0, e_0lt, e_eq0, e_m1, e_m5, e_m1l, e_m5l, e_m1e, e_add, e_dec, e_sub, e_mul, e_div, e_rem, e_and, e_or, e_shl, e_shr, e_vin, e_nar, e_nar0, e_nar1, e_cl, e_b0, e_b00, e_b1, e_bt, e_andn, e_xor, Bool.not_eq_false, Bool.not_eq_true, Classical.not_not, not_false_eq_true, not_true_eq_false, true_implies, false_implies, true_and, and_true]
    refine ⟨fun c => by omega, fun _ => ?_⟩
    refine s_shareOn ha hB (by omega) ?_
    refine ⟨fun e => ih (fun j hj => ?_), fun e => ?_⟩
    · by_cases e2 : j = s
      · subst e2; exact e
      · exact hn j (by omega)
    · rw [stV_s (show s ≤ K by omega) hn (fun _ => e)] at h
      exact h
