-- THE MODEL: block, blocks, share, meets, turned, parted
theorem rMs_B {K : Nat} {B : Nat → Bool} {S : St} {m m' : mm_Mem} (hX : okS S) (hS : rMs 83 86 S m) (h83 : ∀ x, x ≠ 42 → m'.1 83 x = m.1 83 x) (h42 : m'.1 83 42 = nI K) (hB : rZ (m'.1 86) B 256) (hD : ∀ a, 87 ≤ a → a ≤ 90 → m'.1 a = m.1 a) : rMs 83 86 (stB K B S) m' := by
  obtain ⟨⟨a0, a1, a42, a43⟩, aW, aC, aB, aD⟩ := hS
  have h4 := hX.2.1
  have h8 := hX.1.2
  refine ⟨⟨?_, ?_, h42, ?_⟩, fun w hw => ⟨?_, ?_, fun p hp => ?_⟩, fun i hi => ?_, hB, fun i hi => ?_⟩
  · rw [h83 _ (by omega)]; exact a0
  · rw [h83 _ (by omega)]; exact a1
  · rw [h83 _ (by omega)]; exact a43
  · have hw : w < sW S := hw
    rw [h83 _ (by omega)]; exact (aW w hw).1
  · have hw : w < sW S := hw
    rw [h83 _ (by omega)]; exact (aW w hw).2.1
  · have hw : w < sW S := hw
    have hp : p < sN S := hp
    rw [h83 _ (by omega)]; exact (aW w hw).2.2 p hp
  · rw [h83 _ (by omega)]; exact aC i hi
  · have hi : i < sC S := hi
    rw [hD _ (by omega) (by omega)]; exact aD i hi
theorem rZ_up {r r' : Nat → Int32} {B : Nat → Bool} {s : Nat} {b : Bool} (hB : rZ r B 256) (h : ∀ x, r' x = if x = s then nI b.toNat else r x) : rZ r' (up B s b) 256 := by
  intro t ht
  rw [h]
  by_cases e : t = s
  · subst e; rw [if_pos rfl, up_s]
  · rw [if_neg e, up_n e]; exact hB t ht
theorem m_block {d sn : Nat} {X : GS} {v : Int32} {m : mm_Mem} {P : Int32 → mm_Mem → Prop} (hX : okX X) (hI : mI X m) (h : ∀ m', fz 83 211 m m' → mI (setS X (S_block X.1 v)) m' → P (A_block X.1 v) m') : mm_sp (d + 3) sn kX11_block [.ref 82, .int v] m (qI P) := by
  refine v_X11_block ?_
  have hN := hX.1.1
  have hp8 := p2_le hN.2
  have hK := hX.1.2.2.1.2.1
  unfold A_block at h
  have bad : bOk X.1 v = false → P (-1) m := by
    intro e
    have e2 : S_block X.1 v = X.1 := by unfold S_block; rw [if_neg (by rw [e]; decide)]
    rw [e2, if_neg (by rw [e]; decide)] at h
    exact h m fz.refl hI
  refine m_isSet hI.1.1.1 hN.2 (e_vz (fun e => bad (by unfold bOk; rw [e, Bool.false_and])) (fun e => ?_))
  obtain ⟨s, hs, rfl⟩ := iz_t (by omega) e
  have hbs := bc_le s
  refine m_size (by omega) ?_
  rw [hI.1.1.2.2.1, e_eq (by omega) (by omega)]
  refine ⟨fun c => ?_, fun c => bad (by unfold bOk; rw [e_cl (by omega), beq_eq_false_iff_ne.mpr c, Bool.and_false])⟩
  have eO : bOk X.1 (nI s) = true := by unfold bOk; rw [e_cl (by omega), e, beq_iff_eq.mpr c]; rfl
  have eS : S_block X.1 (nI s) = stB (sK X.1) (up (sB X.1) s (!sB X.1 s)) X.1 := by
    unfold S_block
    rw [if_pos eO, e_cl (by omega)]
  rw [if_pos eO, eS] at h
  rw [e_vin (by omega) (by omega), e_cl (by omega), hI.1.2.2.2.1 s (by omega), e_b0, e_nar0, e_nar1]
  have key : ∀ m3 : mm_Mem, m3 = (mm_u2 m.1 86 s (nI (!sB X.1 s).toNat), m.2) → mm_sp (d + 2) sn kX11_many [.ref 86] m3 (qI P) := by
    intro m3 q3
    have f3 : fr [86] m m3 := by subst q3; exact fr_u2 (by simp)
    have hB : rZ (m3.1 86) (up (sB X.1) s (!sB X.1 s)) 256 := by
      refine rZ_up hI.1.2.2.2.1 (fun x => ?_)
      subst q3
      simp only [e_u2, true_and]
    refine m_many shZ_86 hB ?_
    refine h m3 (fun a ha => f3 a (by simp; omega)) (mI_S2 hX (fun a b1 b2 b3 => f3 a (by simp; omega)) hI (rMs_B hX.1 hI.1 (fun x _ => by rw [f3.i (by simp)]) ?_ hB (fun a b1 b2 => f3.i (by simp; omega))))
    rw [f3.i (by simp)]
    exact hI.1.1.2.2.1
  refine ⟨by omega, fun c2 => ⟨by omega, fun m3 q3 => key m3 ?_⟩, fun c2 => ⟨by omega, fun m3 q3 => key m3 ?_⟩⟩
  · have c2 : sB X.1 s = true := by simpa using c2
    rw [c2]; exact q3
  · have c2 : sB X.1 s = false := by simpa using c2
    rw [c2]; exact q3
theorem shm_w : alN (fun n => alN (fun s => decide (n < s) || shm (2 ^ n - 1) s (2 ^ s - 1)) 9) 9 = true := by decide +kernel
theorem shm_wx {n s : Nat} (hn : n ≤ 8) (hs : s ≤ n) : ∃ x, x < 256 ∧ shm (2 ^ n - 1) s x = true := by
  have h := alN_of (alN_of shm_w n (by omega)) s (by omega)
  rw [decide_eq_false (by omega), Bool.false_or] at h
  have := p2_le (show s ≤ 8 by omega)
  exact ⟨2 ^ s - 1, by omega, h⟩
theorem shm_g : alN (fun n => alN (fun p => alN (fun s => decide (n ≤ s) || decide (n ≤ p) || shm (gnd n p) s (if s ≤ p then 2 ^ s - 1 else 2 ^ (s + 1) - 1 - 2 ^ p)) 8) 8) 9 = true := by decide +kernel
theorem shm_gx {n p s : Nat} (hn : n ≤ 8) (hp : p < n) (hs : s < n) : ∃ x, x < 256 ∧ shm (gnd n p) s x = true := by
  have h := alN_of (alN_of (alN_of shm_g n (by omega)) p (by omega)) s (by omega)
  rw [decide_eq_false (by omega), Bool.false_or, decide_eq_false (by omega), Bool.false_or] at h
  have h1 := p2_le (show s ≤ 8 by omega)
  have h2 := p2_le (show s + 1 ≤ 8 by omega)
  have h3 := Nat.two_pow_pos (s + 1)
  have h4 := Nat.two_pow_pos p
  refine ⟨_, ?_, h⟩
  split <;> omega
theorem m_shareOf {d sn a g k : Nat} {B : Nat → Bool} {m : mm_Mem} {P : Int32 → mm_Mem → Prop} (ha : shZ a) (hB : rZ (m.1 a) B 256) (hk : k < 1000) (hex : ∃ x, x < 256 ∧ shm g k x = true) (h : P (shV B g k) m) : mm_sp (d + 2) sn kX11_shareOf [.ref a, .int (nI g), .int (nI k)] m (qI P) := by
  refine v_X11_shareOf ha ?_
  refine lp_up (W := fun s => ∀ v, ((v = -1 ∧ ∀ x, x < s → shm g k x = false) ∨ ∃ c, c ≤ 256 ∧ v = nI c ∧ (∃ x, x < s ∧ shm g k x = true) ∧ ∀ x, x < s → shm g k x = true → arN B x = c) → mm_wp (d + 1) sn kX11_shareOf 5 [some (.ref a), some (.int (nI g)), some (.int (nI k)), some (.int v), some (.int (nI s)), none, none] [] m (qI P)) (Nat.zero_le 256) ?_ ?_ (-1) (Or.inl ⟨rfl, fun x hx => by omega⟩)
  · intro v hv
    refine v_X11_shareOf_5 ha (e_vT (by decide) ?_)
    rcases hv with ⟨_, h2⟩ | ⟨c, h1, h2, ⟨x, h3, h4⟩, h5⟩
    · obtain ⟨x, h3, h4⟩ := hex
      rw [h2 x h3] at h4; cases h4
    · subst h2
      rw [shV_s h3 h4 h5] at h
      exact h
  · intro s _ hs ih v hv
    refine v_X11_shareOf_5 ha (e_vF (by rw [e_le (by omega) (by omega)]; omega) ?_)
    have hsl := sm_le s g
    have hbs := bc_le s
    have skip : shm g k s = false → mm_wp (d + 1) sn kX11_shareOf 5 [some (.ref a), some (.int (nI g)), some (.int (nI k)), some (.int v), some (.int (nI (s + 1))), none, none] [] m (qI P) := by
      intro e
      refine ih v ?_
      rcases hv with ⟨h1, h2⟩ | ⟨c, h1, h2, ⟨x, h3, h4⟩, h5⟩
      · refine Or.inl ⟨h1, fun x hx => ?_⟩
        by_cases e2 : x = s
        · subst e2; exact e
        · exact h2 x (by omega)
      · refine Or.inr ⟨c, h1, h2, ⟨x, by omega, h4⟩, fun y hy h6 => ?_⟩
        by_cases e2 : y = s
        · subst e2; rw [e] at h6; cases h6
        · exact h5 y (by omega) h6
    rw [e_andn, e_eq0 (by omega), sm_0, e_add]
    refine ⟨fun c => skip (by unfold shm; rw [beq_eq_false_iff_ne.mpr c, Bool.false_and]), fun c => ?_⟩
    have c := Classical.not_not.mp c
    refine m_size hs ?_
    rw [e_eq (by omega) (by omega)]
    refine ⟨fun c2 => skip (by unfold shm; rw [beq_eq_false_iff_ne.mpr c2, Bool.and_false]), fun c2 => ?_⟩
    have c2 := Classical.not_not.mp c2
    have es : shm g k s = true := by unfold shm; rw [beq_iff_eq.mpr c, beq_iff_eq.mpr c2]; rfl
    have har := arN_le B s
    refine lp_up (W := fun b => mm_wp (d + 1) sn kX11_shareOf 37 [some (.ref a), some (.int (nI g)), some (.int (nI k)), some (.int v), some (.int (nI s)), some (.int (nI (cN (fun y => B y && (y &&& s == s)) b))), some (.int (nI b))] [] m (qI P)) (Nat.zero_le 256) ?_ ?_
    · refine v_X11_shareOf_37 ha (e_vT (by decide) ?_)
      have e9 : cN (fun y => B y && (y &&& s == s)) 256 = arN B s := rfl
      rw [e9, e_add]
      rcases hv with ⟨h1, h2⟩ | ⟨c3, h1, h2, ⟨x, h3, h4⟩, h5⟩
      · subst h1
        refine e_vT (by decide) (ih _ (Or.inr ⟨arN B s, har, rfl, ⟨s, by omega, es⟩, fun y hy h6 => ?_⟩))
        by_cases e2 : y = s
        · subst e2; rfl
        · rw [h2 y (by omega)] at h6; cases h6
      · subst h2
        refine e_vF (by rw [e_lt0 (by omega)]; exact id) ?_
        rw [e_eq (by omega) (by omega)]
        refine ⟨fun c4 => ih _ (Or.inr ⟨arN B s, har, rfl, ⟨s, by omega, es⟩, fun y hy h6 => ?_⟩), fun c4 => ?_⟩
        · by_cases e2 : y = s
          · subst e2; rfl
          · rw [h5 y (by omega) h6, c4]
        · rw [shV_2 hs es (show x < 256 by omega) h4 (by rw [h5 x h3 h4]; exact c4)] at h
          exact h
    · intro b _ hb ihb
      refine v_X11_shareOf_37 ha (e_vF (by rw [e_le (by omega) (by omega)]; omega) ?_)
      have hsb := sm_le s b
      rw [e_vin (by omega) (by omega), e_cl (by omega), hB b hb, e_andn, e_eq0 (a := s ^^^ (s &&& b)) (by omega), sm_0, e_add, e_add, e_add, Nat.add_zero]
      refine ⟨hb, e_vz (fun e => ?_) (fun e => ⟨fun e2 => ?_, fun e2 => ?_⟩)⟩
      · rw [cN_f (by rw [e, Bool.false_and])] at ihb; exact ihb
      · rw [cN_f (by rw [Nat.and_comm, beq_eq_false_iff_ne.mpr e2, Bool.and_false])] at ihb; exact ihb
      · rw [cN_t (by rw [e, Nat.and_comm, beq_iff_eq.mpr (Classical.not_not.mp e2)]; rfl)] at ihb; exact ihb
theorem shV_lt0 {B : Nat → Bool} {g k : Nat} : (shV B g k < 0) = (shV B g k = -5) := by
  rcases shV_or B g k with e | ⟨c, hc, e⟩
  · rw [e]; decide
  · rw [e, e_lt0 (by omega), e_m5 (by omega)]
theorem m_strengthOf {d sn a g K : Nat} {B : Nat → Bool} {m : mm_Mem} {P : Int32 → mm_Mem → Prop} (ha : shZ a) (hB : rZ (m.1 a) B 256) (hK : K < 1000) (hex : ∀ s, s ≤ K → ∃ x, x < 256 ∧ shm g s x = true) (h : P (nI (stV B g K)) m) : mm_sp (d + 3) sn kX11_strengthOf [.ref a, .int (nI g), .int (nI K)] m (qI P) := by
  refine v_X11_strengthOf ha ?_
  refine lp_up (W := fun t => (∀ s, s < t → shV B g (s + 1) ≠ -5) → mm_wp (d + 2) sn kX11_strengthOf 2 [some (.ref a), some (.int (nI g)), some (.int (nI K)), some (.int (nI t))] [] m (qI P)) (Nat.zero_le K) ?_ ?_ (fun s hs => by omega)
  · intro hn
    refine v_X11_strengthOf_2 ha (e_vT (Int32.le_refl _) ?_)
    rw [stV_s (Nat.le_refl _) hn (fun c => by omega)] at h
    exact h
  · intro t _ ht ih hn
    refine v_X11_strengthOf_2 ha (e_vF (by rw [e_le (by omega) (by omega)]; omega) ?_)
    rw [e_add]
    refine m_shareOf ha hB (by omega) (hex _ (by omega)) ?_
    rw [shV_lt0]
    refine ⟨fun c => ?_, fun c => ih (fun s hs => ?_)⟩
    · rw [stV_s (by omega) hn (fun _ => c)] at h
      exact h
    · by_cases e : s = t
      · subst e; exact c
      · exact hn s (by omega)
theorem m_share {d sn : Nat} {X : GS} {v : Int32} {m : mm_Mem} {P : Int32 → mm_Mem → Prop} (hX : okX X) (hI : mI X m) (h : ∀ m', fz 82 211 m m' → mI X m' → P (A_share X.1 v) m') : mm_sp (d + 3) sn kX11_share [.ref 82, .int v] m (qI P) := by
  refine v_X11_share ?_
  have hN := hX.1.1
  have hK := hX.1.2.2.1.2.1
  have h := h m fz.refl hI
  unfold A_share at h
  rw [hI.1.1.2.2.1]
  refine s_in (n := sK X.1 + 1) (by rw [nI_toInt (by omega)]; omega) (by omega) (e_vz (fun e => ?_) (fun e => ?_))
  · rw [if_neg (by rw [e]; decide)] at h
    exact h
  · rw [if_pos e] at h
    obtain ⟨j, hj, rfl⟩ := iz_t (by omega) e
    rw [e_cl (by omega)] at h
    exact m_whole hI.1.1.1 hN.2 (m_shareOf shZ_86 hI.1.2.2.2.1 (by omega) (shm_wx hN.2 (by omega)) h)
theorem m_blocks {d sn : Nat} {X : GS} {w : Int32} {m : mm_Mem} {P : Int32 → mm_Mem → Prop} (hX : okX X) (hI : mI X m) (h : ∀ m', fz 82 211 m m' → mI X m' → P (A_blocks X.1 w) m') : mm_sp (d + 4) sn kX11_blocks [.ref 82, .int w] m (qI P) := by
  refine v_X11_blocks ?_
  have hN := hX.1.1
  have hK := hX.1.2.2.1.2.1
  have h := h m fz.refl hI
  unfold A_blocks at h
  refine lp_up (W := fun s => mm_wp (d + 3) sn kX11_blocks 4 [some (.ref 82), some (.int w), some (.int (nI (orN (sB X.1) s))), some (.int (nI s))] [] m (qI P)) (Nat.zero_le 256) ?_ ?_
  · refine v_X11_blocks_4 (e_vT (by decide) ⟨fun e => ?_, fun e => ?_, fun e => ?_, fun e => ?_, fun e0 e1 e2 e3 => ?_⟩)
    · rw [if_pos e] at h
      rw [hI.1.1.2.2.1]; exact h
    · subst e
      rw [if_neg (by decide), if_pos rfl] at h
      exact m_many shZ_86 hI.1.2.2.2.1 h
    · subst e
      rw [if_neg (by decide), if_neg (by decide), if_pos rfl] at h
      refine m_whole hI.1.1.1 hN.2 ?_
      rw [hI.1.1.2.2.1]
      exact m_strengthOf shZ_86 hI.1.2.2.2.1 (by omega) (fun s hs => shm_wx hN.2 (by omega)) h
    · subst e
      rw [if_neg (by decide), if_neg (by decide), if_neg (by decide), if_pos rfl] at h
      exact m_size (orN_lt (Nat.le_refl 256)) h
    · rw [if_neg e0, if_neg e1, if_neg e2, if_neg e3] at h
      exact h
  · intro s _ hs ih
    refine v_X11_blocks_4 (e_vF (by rw [e_le (by omega) (by omega)]; omega) ?_)
    have eo : orN (sB X.1) (s + 1) = if sB X.1 s = true then orN (sB X.1) s ||| s else orN (sB X.1) s := rfl
    rw [e_vin (by omega) (by omega), e_cl (by omega), hI.1.2.2.2.1 s hs, e_or, e_or, e_add, Nat.or_zero]
    refine ⟨hs, e_vz (fun e => ?_) (fun e => ?_)⟩
    · rw [eo, if_neg (by rw [e]; decide)] at ih; exact ih
    · rw [eo, if_pos e] at ih; exact ih
theorem m_meets {d sn : Nat} {X : GS} {s j : Int32} {m : mm_Mem} {P : Int32 → mm_Mem → Prop} (hX : okX X) (hI : mI X m) (h : ∀ m', fz 82 211 m m' → mI X m' → P (A_meets X.1 s j) m') : mm_sp (d + 3) sn kX11_meets [.ref 82, .int s, .int j] m (qI P) := by
  refine v_X11_meets ?_
  have hN := hX.1.1
  have hp8 := p2_le hN.2
  have h := h m fz.refl hI
  unfold A_meets at h
  refine m_isSet hI.1.1.1 hN.2 (e_vb (fun e => ?_) (fun e => ?_))
  · rw [if_neg (by rw [e]; decide)] at h
    have e8 : lN 8 = (nI 8).toInt64 := by decide
    rw [e8]
    refine s_in (n := 9) (by decide) (by omega) (e_vb (fun e2 => ?_) (fun e2 => ?_))
    · rw [if_pos e2] at h
      obtain ⟨s, hs, rfl⟩ := iz_t (by omega) e
      obtain ⟨j, hj, rfl⟩ := iz_t (by omega) e2
      rw [e_cl (by omega), e_cl (by omega)] at h
      refine lp_up (W := fun b => mm_wp (d + 2) sn kX11_meets 30 [some (.ref 82), some (.int (nI s)), some (.int (nI j)), some (.int (nI (cN (fun x => sB X.1 x && bc (x &&& s) == j) b))), some (.int (nI b))] [] m (qI P)) (Nat.zero_le 256) ?_ ?_
      · exact v_X11_meets_30 (e_vT (by decide) h)
      · intro b _ hb ih
        refine v_X11_meets_30 (e_vF (by rw [e_le (by omega) (by omega)]; omega) ?_)
        have hl : b &&& s ≤ b := Nat.and_le_left
        have hbl := bc_le (b &&& s)
        rw [e_vin (by omega) (by omega), e_cl (by omega), hI.1.2.2.2.1 b hb, e_and, e_add, e_add, e_add, Nat.add_zero]
        refine ⟨hb, e_vz (fun e3 => ?_) (fun e3 => m_size (by omega) ?_)⟩
        · rw [cN_f (by rw [e3, Bool.false_and])] at ih; exact ih
        · rw [e_eq (by omega) (by omega)]
          refine ⟨fun c => ?_, fun c => ?_⟩
          · rw [cN_f (by rw [beq_eq_false_iff_ne.mpr c, Bool.and_false])] at ih; exact ih
          · rw [cN_t (by rw [e3, beq_iff_eq.mpr (Classical.not_not.mp c)]; rfl)] at ih; exact ih
    · rw [if_neg (by rw [e2]; decide)] at h
      exact h
  · rw [if_pos e] at h
    exact h
theorem wh_sub : alN (fun n => alN (fun s => decide (2 ^ n ≤ s) || ((2 ^ n - 1) ^^^ ((2 ^ n - 1) &&& s) == 2 ^ n - 1 - s)) 256) 9 = true := by decide +kernel
theorem wh_s {n s : Nat} (hn : n ≤ 8) (hs : s < 2 ^ n) : (2 ^ n - 1) ^^^ ((2 ^ n - 1) &&& s) = 2 ^ n - 1 - s := by
  have := p2_le hn
  have h := alN_of (alN_of wh_sub n (by omega)) s (by omega)
  rw [decide_eq_false (by omega), Bool.false_or, beq_iff_eq] at h
  exact h
theorem shZ_174 : shZ 174 := ⟨by decide, fun _ => rfl⟩
theorem m_turned {d sn : Nat} {X : GS} {m : mm_Mem} {P : Int32 → mm_Mem → Prop} (hX : okX X) (hI : mI X m) (h : ∀ m', fz 82 211 m m' → mI (setS X (S_turned X.1)) m' → P (A_turned X.1) m') : mm_sp (d + 3) sn kX11_turned [.ref 82] m (qI P) := by
  refine v_X11_turned ?_
  have hN := hX.1.1
  have hp8 := p2_le hN.2
  have hp0 := Nat.two_pow_pos (sN X.1)
  have hK := hX.1.2.2.1.2.1
  unfold A_turned at h
  rw [hI.1.1.2.2.1, hI.1.1.1, e_eq (by omega) (by omega)]
  refine ⟨fun c => ?_, fun c => ?_⟩
  · have eS : S_turned X.1 = stB (sN X.1 - sK X.1) (trn (2 ^ sN X.1 - 1) (sB X.1)) X.1 := if_neg c
    rw [if_neg c, eS] at h
    refine lp_up (W := fun s => ∀ m1, fr [174] m m1 → rZ (m1.1 174) (sB X.1) s → mm_wp (d + 2) sn kX11_turned 21 [some (.ref 82), some (.int (nI s))] [] m1 (qI P)) (Nat.zero_le 256) ?_ ?_ m fr.refl (fun s hs => by omega)
    · intro m1 f1 g1
      refine v_X11_turned_21 (e_vT (by decide) ?_)
      refine lp_up (W := fun s => ∀ m2, fr [86] m1 m2 → rZ (m2.1 86) (trn (2 ^ sN X.1 - 1) (sB X.1)) s → mm_wp (d + 2) sn kX11_turned 50 [some (.ref 82), some (.int (nI s))] [] m2 (qI P)) (Nat.zero_le 256) ?_ ?_ m1 fr.refl (fun s hs => by omega)
      · intro m2 f2 g2
        refine v_X11_turned_50 (e_vT (by decide) (fun m3 q3 => ?_))
        have f12 : fr [86, 174] m m2 := (f1.mono (by simp)).trans (f2.mono (by simp))
        have e83 : m2.1 83 = m.1 83 := f12.i (by simp)
        rw [e83, hI.1.1.1, hI.1.1.2.2.1, e_sub (by omega)] at q3
        have u : ∀ x, m3.1 83 x = if x = 42 then nI (sN X.1 - sK X.1) else m.1 83 x := by
          intro x
          subst q3
          simp only [e_u2, true_and, e83]
        have f3 : fr [83] m2 m3 := by subst q3; exact fr_u2 (by simp)
        have f13 : fr [83, 86, 174] m m3 := (f12.mono (by simp)).trans (f3.mono (by simp))
        have hB : rZ (m3.1 86) (trn (2 ^ sN X.1 - 1) (sB X.1)) 256 := by rw [f3.i (by simp)]; exact g2
        refine m_many shZ_86 hB ?_
        refine h m3 (fun a ha => f13 a (by simp; omega)) (mI_S2 hX (fun a b1 b2 b3 => f13 a (by simp; omega)) hI (rMs_B hX.1 hI.1 (fun x hx => by rw [u, if_neg hx]) ?_ hB (fun a b1 b2 => f13.i (by simp; omega))))
        rw [u, if_pos rfl]
      · intro s _ hs ih m2 f2 g2
        refine v_X11_turned_50 (e_vF (by rw [e_le (by omega) (by omega)]; omega) ?_)
        have f12 : fr [86, 174] m m2 := (f1.mono (by simp)).trans (f2.mono (by simp))
        have z0 : m2.1 83 0 = nI (sN X.1) := by rw [f12.i (by simp)]; exact hI.1.1.1
        refine m_whole z0 hN.2 ?_
        rw [e_lt (by omega) (by omega), e_vin (by omega) (by omega), e_cl (by omega), e_nar0, e_nar1, e_add]
        have nxt : ∀ b : Bool, trn (2 ^ sN X.1 - 1) (sB X.1) s = b → ∀ m4 : mm_Mem, m4 = (mm_u2 m2.1 86 s (nI b.toNat), m2.2) → mm_wp (d + 2) sn kX11_turned 50 [some (.ref 82), some (.int (nI (s + 1)))] [] m4 (qI P) := by
          intro b eb m4 q4
          refine ih m4 (f2.trans (by subst q4; exact fr_u2 (by simp))) (fun t ht => ?_)
          subst q4
          simp only [e_u2, true_and]
          by_cases e : t = s
          · subst e; rw [if_pos rfl, eb]
          · rw [if_neg e]; exact g2 t (by omega)
        refine ⟨fun c2 => ⟨hs, fun m4 q4 => nxt false ?_ m4 q4⟩, fun c2 => m_whole z0 hN.2 ?_⟩
        · unfold trn
          rw [decide_eq_false (by omega), Bool.false_and]
        · have ht : trn (2 ^ sN X.1 - 1) (sB X.1) s = sB X.1 (2 ^ sN X.1 - 1 - s) := by
            unfold trn
            rw [decide_eq_true (by omega), Bool.true_and]
          have e174 : m2.1 174 = m1.1 174 := f2.i (by simp)
          rw [e_andn, wh_s hN.2 (by omega), e_vin (by omega) (by omega), e_cl (by omega), e174, g1 _ (by omega)]
          refine ⟨by omega, e_vz (fun e => ⟨hs, fun m4 q4 => nxt false ?_ m4 q4⟩) (fun e => ⟨hs, fun m4 q4 => nxt true ?_ m4 q4⟩)⟩
          · rw [ht, e]
          · rw [ht, e]
    · intro s _ hs ih m1 f1 g1
      refine v_X11_turned_21 (e_vF (by rw [e_le (by omega) (by omega)]; omega) ?_)
      have e86 : m1.1 86 = m.1 86 := f1.i (by simp)
      rw [e_vin (by omega) (by omega), e_cl (by omega), e86, hI.1.2.2.2.1 s hs, e_nar, e_add]
      refine ⟨hs, hs, fun m2 q2 => ih m2 (f1.trans (by subst q2; exact fr_u2 (by simp))) (fun t ht => ?_)⟩
      subst q2
      simp only [e_u2, true_and]
      by_cases e : t = s
      · subst e; rw [if_pos rfl]
      · rw [if_neg e]; exact g1 t (by omega)
  · have c := Classical.not_not.mp c
    have eS : S_turned X.1 = X.1 := if_pos c
    rw [if_pos c, eS] at h
    exact h m fz.refl hI
theorem cN_lt {p : Nat → Bool} {t : Nat} (ht : p t = false) : ∀ {n : Nat}, t < n → cN p n < n
  | n + 1, h => by
    by_cases e : t = n
    · subst e
      rw [cN_f ht]
      have := cN_le p t
      omega
    · have := cN_lt ht (show t < n by omega)
      have e2 : cN p (n + 1) = cN p n + (p n).toNat := rfl
      have : (p n).toNat ≤ 1 := Bool.toNat_le _
      omega
theorem m_parted {d sn : Nat} {X : GS} {p w : Int32} {m : mm_Mem} {P : Int32 → mm_Mem → Prop} (hX : okX X) (hI : mI X m) (h : ∀ m', fz 82 211 m m' → mI X m' → P (A_parted X.1 p w) m') : mm_sp (d + 4) sn kX11_parted [.ref 82, .int p, .int w] m (qI P) := by
  refine v_X11_parted ?_
  have hN := hX.1.1
  have hp8 := p2_le hN.2
  have hK := hX.1.2.2.1
  have hK1 : 1 ≤ sK X.1 := hK.1
  have hK2 : sK X.1 ≤ sN X.1 := hK.2.1
  unfold A_parted at h
  refine m_isPoint hI.1.1.1 hN.2 (e_vz (fun e => ?_) (fun e => ?_))
  · rw [if_pos e] at h
    exact h m fz.refl hI
  · rw [if_neg (by rw [e]; decide)] at h
    have e2l : lN 2 = (nI 2).toInt64 := by decide
    rw [e2l]
    refine s_in (n := 3) (by decide) (by omega) (e_vb (fun ew => ?_) (fun ew => ?_))
    · rw [if_neg (by rw [ew]; decide)] at h
      obtain ⟨p, hp, rfl⟩ := iz_t (by omega) e
      obtain ⟨w, hw, rfl⟩ := iz_t (by omega) ew
      rw [e_cl (by omega)] at h
      have ed : decide (nI w < nI 2) = decide (w < 2) := decide_eq_decide.mpr (by rw [e_lt (by omega) (by omega)])
      rw [ed] at h
      have hs8 : (1 : Nat) <<< p < 2 ^ 8 := shl_lt (by omega)
      refine lp_up (W := fun s => ∀ m1, fr [174] m m1 → rZ (m1.1 174) (prt (sB X.1) p (decide (w < 2))) s → mm_wp (d + 3) sn kX11_parted 24 [some (.ref 82), some (.int (nI p)), some (.int (nI w)), some (.int (nI s)), none] [] m1 (qI P)) (Nat.zero_le 256) ?_ ?_ m fr.refl (fun s hs => by omega)
      · intro m1 f1 g1
        have hI1 : mI X m1 := mI_sc hX (fun a ha => f1 a (by simp; omega)) hI
        have h := h m1 (fun a ha => f1 a (by simp; omega)) hI1
        refine v_X11_parted_24 (e_vT (by decide) (m_many shZ_174 g1 ?_))
        have hl := cN_le (prt (sB X.1) p (decide (w < 2))) 256
        have ez : (nI w = 0) = (w = 0) := e_eq0 (by omega)
        have ez2 : (nI w = nI 0) = (w = 0) := e_eq (by omega) (by omega)
        have ez3 : (nI w = nI 1) = (w = 1) := e_eq (by omega) (by omega)
        have ez4 : (nI w = nI 2) = (w = 2) := e_eq (by omega) (by omega)
        rw [ez, ez3, ez4, e_eq0 (by omega), e_shl (by omega)]
        refine ⟨fun c => ?_, fun c => ?_⟩
        · rw [if_neg (show ¬ nI w = nI 0 by rw [ez2]; exact c)] at h
          refine ⟨fun c2 => ?_, fun c2 => ?_⟩
          · rw [if_pos c2] at h; exact h
          · rw [if_neg c2] at h
            refine ⟨fun c3 => m_whole hI1.1.1.1 hN.2 ?_, fun c3 => ?_⟩
            · have cw : w = 1 := by omega
              rw [e_andn, hI1.1.1.2.2.1, e_sub hK.1]
              refine e_vF (by omega) ?_
              rw [decide_eq_true (show w < 2 by omega), if_pos rfl] at h
              rw [decide_eq_true (show w < 2 by omega)] at g1
              exact m_strengthOf shZ_174 g1 (by omega) (fun s hs => shm_gx hN.2 hp (by omega)) h
            · have cw : w = 2 := by omega
              have hlt : sK X.1 < sN X.1 := by
                refine Classical.byContradiction fun hc => c2 (cN_none fun x hx => ?_)
                unfold prt
                rw [decide_eq_false (by omega), if_neg (by decide)]
                cases eb : sB X.1 x with
                | false => rw [Bool.and_false]
                | true =>
                  obtain ⟨b1, b2⟩ := hK.2.2 x hx eb
                  rw [bc_n (by omega) b1] at b2
                  cases et : x.testBit p with
                  | true => rfl
                  | false =>
                    have := cN_lt (p := fun q => x.testBit q) et hp
                    omega
              rw [hI1.1.1.2.2.1, hI1.1.1.1, e_eq (by omega) (by omega)]
              refine e_vT (by omega) (m_whole hI1.1.1.1 hN.2 ?_)
              rw [e_andn, hI1.1.1.2.2.1]
              refine e_vT (by omega) ?_
              rw [decide_eq_false (show ¬ w < 2 by omega), if_neg (by decide)] at h
              rw [decide_eq_false (show ¬ w < 2 by omega)] at g1
              exact m_strengthOf shZ_174 g1 (by omega) (fun s hs => shm_gx hN.2 hp (by omega)) h
        · rw [if_pos (show nI w = nI 0 by rw [ez2]; exact Classical.not_not.mp c)] at h
          exact h
      · intro s _ hs ih m1 f1 g1
        refine v_X11_parted_24 (e_vF (by rw [e_le (by omega) (by omega)]; omega) ?_)
        have hl : (s >>> p) &&& 1 ≤ 1 := Nat.and_le_right
        have e86 : m1.1 86 = m.1 86 := f1.i (by simp)
        have hor : s ||| 1 <<< p < 2 ^ 8 := Nat.or_lt_two_pow hs hs8
        have nxt : ∀ b : Bool, prt (sB X.1) p (decide (w < 2)) s = b → ∀ m4 : mm_Mem, m4 = (mm_u2 m1.1 174 s (nI b.toNat), m1.2) → mm_wp (d + 3) sn kX11_parted 24 [some (.ref 82), some (.int (nI p)), some (.int (nI w)), some (.int (nI (s + 1))), none] [] m4 (qI P) := by
          intro b eb m4 q4
          refine ih m4 (f1.trans (by subst q4; exact fr_u2 (by simp))) (fun t ht => ?_)
          subst q4
          simp only [e_u2, true_and]
          by_cases e : t = s
          · subst e; rw [if_pos rfl, eb]
          · rw [if_neg e]; exact g1 t (by omega)
        rw [e_shr (by omega) (by omega), e_and, e_eq (by omega) (by omega), e_bit, e_shl (by omega), e_or, e_le (by omega) (by omega), e_vin (by omega) (by omega), e_vin (by omega) (by omega), e_cl (by omega), e_cl (by omega), e86, hI.1.2.2.2.1 s hs, hI.1.2.2.2.1 _ hor, e_nar0, e_nar1, e_add]
        refine ⟨fun c => ⟨fun c2 => ⟨hs, e_vz (fun e3 => ⟨hs, fun m4 q4 => nxt false ?_ m4 q4⟩) (fun e3 => ⟨hs, fun m4 q4 => nxt true ?_ m4 q4⟩)⟩, fun c2 => ⟨by omega, e_vz (fun e3 => ⟨hs, fun m4 q4 => nxt false ?_ m4 q4⟩) (fun e3 => ⟨hs, fun m4 q4 => nxt true ?_ m4 q4⟩)⟩⟩, fun c => ⟨hs, fun m4 q4 => nxt false ?_ m4 q4⟩⟩
        · unfold prt
          rw [decide_eq_false (by omega), if_neg (by decide), e3, Bool.and_false]
        · unfold prt
          rw [decide_eq_false (by omega), if_neg (by decide), e3, Bool.not_eq_true _ |>.mp c]; rfl
        · unfold prt
          rw [decide_eq_true (by omega), if_pos rfl, e3, Bool.and_false]
        · unfold prt
          rw [decide_eq_true (by omega), if_pos rfl, e3, Bool.not_eq_true _ |>.mp c]; rfl
        · unfold prt
          rw [Classical.not_not.mp c]; rfl
    · rw [if_pos ew] at h
      exact h m fz.refl hI
