-- THE START: the two objects stand, and agree
theorem bg_L6 {la : mm_L} (h : isL6 la = true) : la = [some (.ref 0), some (.ref 1), none, none] := by
  unfold isL6 at h
  split at h
  · next a b =>
    rw [Bool.and_eq_true] at h
    rw [eq_of_beq h.1, eq_of_beq h.2]
  · cases h
theorem bg_S6 {st : List Value} (h : isS6 st = true) : st = [.ref 82, .ref 82] := by
  unfold isS6 at h
  split at h
  · next a b =>
    rw [Bool.and_eq_true] at h
    rw [eq_of_beq h.1, eq_of_beq h.2]
  · cases h
theorem bg_S115 {st : List Value} (h : isS115 st = true) : st = [.int (nI 5), .ref 82] := by
  unfold isS115 at h
  split at h
  · next a b =>
    rw [Bool.and_eq_true] at h
    rw [eq_of_beq h.1, eq_of_beq h.2]
    rfl
  · cases h
theorem bg_any {o : Option mm_S} {p : mm_S → Bool} (h : o.any p = true) : ∃ s, o = some s ∧ p s = true := by
  cases o with
  | none => cases h
  | some s => exact ⟨s, rfl, h⟩
theorem bg_1 : ∃ (h6 h9 : mm_H) (la : mm_L), mm_st 30 (mm_call 30 2000) 232 6 (0, [some (.ref 0), none, none, none], [], mm_hc0) = some (12, [some (.ref 0), some (.ref 1), none, none], [.ref 82, .ref 82], h6) ∧ mm_st 30 (mm_call 30 2000) 151 109 (0, mm_pad (mm_nL 151) (mm_ex [.ref 82]), [], h6) = some (207, la, [.int (nI 5), .ref 82], h9) ∧ h9.1 = (98, 0) :: mm_M1 ∧ isHR h9 = true ∧ isHI h9.2.2.1 h9.2.2.2 = true := by
  obtain ⟨⟨pc, la6, st6, h6⟩, e6, g6⟩ := bg_any ini6_ok
  obtain ⟨⟨pc9, la9, st9, h9⟩, e9, g9⟩ := bg_any ini115_ok
  unfold ini115 at e9
  rw [e6] at e9
  unfold ini6 at e6
  simp only [Bool.and_eq_true] at g6 g9
  obtain ⟨⟨a1, a2⟩, a3⟩ := g6
  obtain ⟨⟨⟨⟨b1, b2⟩, b3⟩, b4⟩, b5⟩ := g9
  have a1 := eq_of_beq a1
  have b1 := eq_of_beq b1
  have a2 := bg_L6 a2
  have a3 := bg_S6 a3
  have b2 := bg_S115 b2
  subst a1; subst a2; subst a3; subst b1; subst b2
  exact ⟨h6, h9, la9, e6, e9, eq_of_beq b3, b4, b5⟩
theorem bg_R : (mm_R1t.all fun e => match ((98, 0) :: mm_M1)[e.1]? with
  | some (c, q) => decide (e.2.length ≤ q ∧ ¬ (12 ≤ c ∧ c ≤ 102))
  | none => false) = true := by decide +kernel
theorem bg_R0 {a k : Nat} (h : ∀ c q : Nat, (((98, 0) :: mm_M1)[a]? : Option (Nat × Nat)) = some (c, q) → q ≤ k ∨ 12 ≤ c ∧ c ≤ 102) : mm_R0 a k = none := by
  unfold mm_R0
  split
  · next e he =>
    have h1 := List.all_eq_true.mp bg_R e (List.mem_of_find?_eq_some he)
    have h2 : (e.1 == a) = true := List.find?_some (p := fun e : Nat × List (Option Nat) => e.1 == a) he
    have h2 := eq_of_beq h2
    rw [h2] at h1
    split at h1
    · next c q e1 =>
      have h3 := of_decide_eq_true h1
      have h4 := h c q e1
      have h5 : e.2.length ≤ k := by omega
      simp [List.getD, h5]
    · cases h1
  · rfl
theorem bg_refs {h : mm_H} (hk : okH h) (h1 : h.1 = (98, 0) :: mm_M1) (h2 : isHR h = true) : h.2.1 = mm_R0 := by
  funext a k
  by_cases g : ∀ c q : Nat, h.1[a]? = some (c, q) → q ≤ k ∨ 12 ≤ c ∧ c ≤ 102
  · rw [hk.2.2 a k g, bg_R0 (by rw [← h1]; exact g)]
  · have g : ∃ c q : Nat, h.1[a]? = some (c, q) ∧ ¬ (q ≤ k ∨ 12 ≤ c ∧ c ≤ 102) := by
      refine Classical.byContradiction fun g2 => g fun c q e => Classical.byContradiction fun g3 => g2 ⟨c, q, e, g3⟩
    obtain ⟨c, q, e, g⟩ := g
    have hl : a < 212 := by
      have := (List.getElem?_eq_some_iff.mp e).1
      rw [h1] at this
      exact this
    unfold isHR at h2
    have h3 := List.all_eq_true.mp h2 a (List.mem_range.mpr hl)
    rw [← h1, e] at h3
    simp only [Bool.or_eq_true] at h3
    rcases h3 with h3 | h3
    · have := of_decide_eq_true h3
      omega
    · exact eq_of_beq (List.all_eq_true.mp h3 k (List.mem_range.mpr (by omega)))
def S00 : St := ((5, 0, 0, 2, fun _ => false), (fun _ => 0, fun _ => 0, fun _ _ => 0), (fun _ => 0, fun _ _ => false))
def X00 : GS := (S00, S00, false, (0, fun _ => 0), ((fun _ => -1), (fun _ => 0), fun _ _ => 0))
theorem okX_00 : okX X00 := by
  refine ⟨⟨⟨by decide, by decide⟩, ⟨by decide, by decide⟩, ⟨by decide, by decide, fun s _ h => by cases h⟩, fun i hi => absurd hi (Nat.not_lt_zero i), fun i hi => absurd hi (Nat.not_lt_zero i)⟩, fun e => (by cases e), ⟨Nat.zero_le _, fun j hj => absurd hj (Nat.not_lt_zero j)⟩, fun k _ => ⟨Or.inl ⟨rfl, rfl⟩, Nat.zero_le _⟩⟩
theorem bg_I {f : Nat → Nat → Int32} {g : Nat → Nat → Int64} (h : isHI f g = true) : (f 2 0 = 5 ∧ f 2 1 = 0 ∧ f 2 2 = 0 ∧ f 3 0 = 2 ∧ f 3 1 = 0 ∧ f 1 2 = 0 ∧ f 44 0 = 0 ∧ f 82 4 = 0 ∧ f 82 16 = 0) ∧ (∀ s, s < 256 → f 4 s = 0) ∧ ∀ k, k < 6 → f (47 + 2 * k) 0 = -1 ∧ f (47 + 2 * k) 1 = 0 ∧ f 202 k = -1 ∧ f 203 k = 0 ∧ ∀ i, i < 60 → g (48 + 2 * k) i = 0 ∧ g (205 + k) i = 0 := by
  unfold isHI at h
  simp only [Bool.and_eq_true, beq_iff_eq, List.all_eq_true, List.mem_range] at h
  obtain ⟨⟨⟨⟨⟨⟨⟨⟨⟨⟨h1, h2⟩, h3⟩, h4⟩, h5⟩, h6⟩, h7⟩, h8⟩, h9⟩, h10⟩, h11⟩ := h
  exact ⟨⟨h1, h2, h3, h4, h5, h6, h7, h8, h9⟩, h10, fun k hk => ⟨(h11 k hk).1.1.1.1, (h11 k hk).1.1.1.2, (h11 k hk).1.1.2, (h11 k hk).1.2, (h11 k hk).2⟩⟩
theorem bg_C {m : mm_Mem} {f : Nat → Nat → Int32} (hf : ∀ a, a ≠ 0 → m.1 a = f a) (h : isHI f m.2 = true) : cI X00 m := by
  obtain ⟨⟨h1, h2, h3, h4, h5, h6, h7, h8, h9⟩, h10, h11⟩ := bg_I h
  refine ⟨⟨?_, ?_, ?_, ⟨?_, ?_, fun s hs => ?_⟩, fun i hi => absurd hi (Nat.not_lt_zero i), fun i hi => absurd hi (Nat.not_lt_zero i)⟩, ?_, fun e => (by cases e), ⟨?_, fun j hj => absurd hj (Nat.not_lt_zero j)⟩, fun k hk => ⟨?_, ?_, fun i hi => ?_⟩⟩
  · rw [hf 2 (by decide)]; exact h1
  · rw [hf 2 (by decide)]; exact h2
  · rw [hf 2 (by decide)]; exact h3
  · rw [hf 3 (by decide)]; exact h4
  · show m.1 3 1 = nI (cN (fun _ => false) 256)
    rw [hf 3 (by decide), cN_none (fun _ _ => rfl)]; exact h5
  · show m.1 4 s = nI 0
    rw [hf 4 (by decide)]; exact h10 s hs
  · rw [hf 1 (by decide)]; exact h6
  · rw [hf 44 (by decide)]; exact h7
  · rw [hf _ (by omega)]; exact (h11 k hk).1
  · rw [hf _ (by omega)]; exact (h11 k hk).2.1
  · exact ((h11 k hk).2.2.2.2 i hi).1
theorem bg_M {m m' : mm_Mem} {f : Nat → Nat → Int32} (hf : ∀ a, a ≠ 0 → m.1 a = f a) (h : isHI f m.2 = true) (hr : fr [83, 86] m m') (hS : rMs 83 86 (stNew 5 S00) m') : mI X00 m' := by
  obtain ⟨⟨h1, h2, h3, h4, h5, h6, h7, h8, h9⟩, h10, h11⟩ := bg_I h
  have e : ∀ a, a ≠ 0 → a ≠ 83 → a ≠ 86 → m'.1 a = f a := fun a g1 g2 g3 => (hr a (by simp; omega)).1.trans (hf a g1)
  refine ⟨hS, ?_, fun e => (by cases e), ⟨?_, fun j hj => absurd hj (Nat.not_lt_zero j)⟩, fun k hk => ⟨?_, ?_, fun i hi => ?_⟩⟩
  · rw [e 82 (by decide) (by decide) (by decide)]; exact h8
  · rw [e 82 (by decide) (by decide) (by decide)]; exact h9
  · rw [e 202 (by decide) (by decide) (by decide)]; exact (h11 k hk).2.2.1
  · rw [e 203 (by decide) (by decide) (by decide)]; exact (h11 k hk).2.2.2.1
  · rw [(hr (205 + k) (by simp; omega)).2]; exact ((h11 k hk).2.2.2.2 i hi).2
def bgH (sn : Nat) (xs : Nat → Int32) : mm_H := ([(100, sn)], fun _ _ => none, fun a k => if a = 0 then xs k else 0, fun _ _ => 0)
theorem bg_x {d j n pc a : Nat} {C : mm_C} {la : mm_L} {r : List Value} {h : mm_H} (hlm : mm_lm 15 j = some (151, 2)) (hd : d ≠ 0) (hr : mm_cat r ≤ 8) : mm_x d C 232 (.invokespecial j) n pc la (.ref a :: r) h = mm_bk n pc la r (C 151 [.ref a] h) := by
  have hp : mm_pop (mm_np 151) (.ref a :: r) = some ([], .ref a :: r) := rfl
  have ho : mm_o 232 = 15 := rfl
  unfold mm_x mm_x1 mm_x2 mm_x3 mm_x4 mm_x5 mm_x6 mm_x7
  simp only [mm_or, ho, hlm]
  rw [if_pos hd, if_pos trivial, hp]
  simp only []
  rw [if_pos hr]
theorem bg_lm : mm_lm 15 12 = some (151, 2) := by decide +kernel
set_option maxRecDepth 100000 in
theorem bg_run (d sn : Nat) (xs : Nat → Int32) (hn : sn ≤ 3072) : ∃ f m9, mm_run (d + 41) (mm_call (d + 41) f) 232 f 0 [some (.ref 0), none, none, none] [] (bgH sn xs) = some (some (.int 1), mm_hp sn m9) := by
  obtain ⟨h6, h9, la9, e6, e9, g1, g2, g3⟩ := bg_1
  obtain ⟨k6, s6⟩ := op_st (N := sn) (xs := xs) (op_call 30) 6 _ _ _ _ _ _ _ _ okH0 e6
  obtain ⟨k9, s9⟩ := op_st (N := sn) (xs := xs) (op_call 30) 109 _ _ _ _ _ _ _ _ k6 e9
  have eh : opH sn xs h9 = mm_hp sn (fun a k => if a = 0 then xs k else h9.2.2.1 a k, h9.2.2.2) := by
    refine Prod.ext ?_ (Prod.ext (show h9.2.1 = mm_R0 from bg_refs (h := h9) k9 g1 g2) rfl)
    show (100, sn) :: h9.1.tail = mm_M0 sn
    rw [g1]
    rfl
  rw [eh] at s9
  generalize em : ((fun a k => if a = 0 then xs k else h9.2.2.1 a k, h9.2.2.2) : mm_Mem) = m0 at s9
  have hf : ∀ a, a ≠ 0 → m0.1 a = h9.2.2.1 a := fun a ha => by
    subst em
    funext k
    exact if_neg ha
  have hI : isHI h9.2.2.1 m0.2 = true := by
    subst em
    exact g3
  -- the model's first set-up
  have w1 : mm_wp (d + 40) sn 151 207 la9 [.int (nI 5), .ref 82] m0 (qV fun m => okX X00 ∧ cI X00 m ∧ mI X00 m) := by
    refine wp_callV mb_151 (k' := kX11_starts) (r := []) rfl lm_11_77 rfl m0_82 (by decide) (Nat.le_of_ble_eq_true rfl) dX11_init_207 (sp_cV (m_starts (d := d + 39) (S := S00) (fun m' hr hS => ?_)))
    exact wp_retV mb_151 rfl dX11_init_210 ⟨okX_00, cI_model okX_00 (fun a ha => hr a (by simp; omega)) (bg_C hf hI), bg_M hf hI hr hS⟩
  obtain ⟨f1, r1, m1, w2, er1, c1, c2, c3⟩ := w1
  subst er1
  -- the law's loop
  have w3 : mm_wp (d + 41) sn 232 15 [some (.ref 0), some (.ref 1), none, none] [.ref 82] m1 (qI fun x _ => x = 1) := by
    refine wp_astore_n mb_232 rfl dL_law_15 (wp_iconst mb_232 (x := nI 0) rfl dL_law_16 (wp_istore_n mb_232 rfl dL_law_17 ?_))
    exact lw_loop (d := d + 1) hn (fun _ => rfl) (sn + 1) 0 X00 m1 (by omega) (by omega) c1 c2 c3
  obtain ⟨f2, r2, m2, w4, x2, er2, ex2⟩ := w3
  subst er2; subst ex2
  -- together
  have t1 : mm_run (d + 40) (mm_call (d + 40) (f1 + f2 + 2109)) 151 (f1 + f2 + 2000 + 109) 0 (mm_pad (mm_nL 151) (mm_ex [.ref 82])) [] (opH sn xs h6) = some (none, mm_hp sn m1) :=
    st_run 109 _ _ _ _ _ _ _ _ (st_le (by omega) (mm_call_le 30 (d + 40) 2000 (f1 + f2 + 2109) (by omega) (by omega)) 109 _ _ s9) (mm_run_le (Nat.le_refl _) (mm_call_le _ _ f1 _ (Nat.le_refl _) (by omega)) f1 _ _ _ _ _ _ (by omega) w2)
  have hm := mm_run_mono _ _ _ _ _ _ _ t1
  have t2 : mm_call (d + 41) (f1 + f2 + 2109) 151 [.ref 82] (opH sn xs h6) = some (none, mm_hp sn m1) := by
    show (if (mm_ex [.ref 82]).length ≤ mm_nL 151 ∧ mm_kd 151 < 3 ∧ 151 < 232 then mm_run (d + 40) (mm_call (d + 40) (f1 + f2 + 2109)) 151 (f1 + f2 + 2109) 0 (mm_pad (mm_nL 151) (mm_ex [.ref 82])) [] (opH sn xs h6) else none) = _
    rw [if_pos ⟨by decide, by decide, by decide⟩]
    exact t1
  have t3 : mm_run (d + 41) (mm_call (d + 41) (f1 + f2 + 2109)) 232 (f1 + f2 + 2102 + 1) 12 [some (.ref 0), some (.ref 1), none, none] [.ref 82, .ref 82] (opH sn xs h6) = some (some (.int 1), mm_hp sn m2) := by
    have hd : decode (mm_b 232) 12 = .ok (.invokespecial 12, 3) := dL_law_12
    have hx : mm_x (d + 41) (mm_call (d + 41) (f1 + f2 + 2109)) 232 (.invokespecial 12) 3 12 [some (.ref 0), some (.ref 1), none, none] [.ref 82, .ref 82] (opH sn xs h6) = some (15, [some (.ref 0), some (.ref 1), none, none], [.ref 82], mm_hp sn m1) := by
      rw [bg_x (r := [.ref 82]) bg_lm (by omega) (by decide), t2]
      rfl
    have hr : mm_rt1 232 (.invokespecial 12) [.ref 82, .ref 82] = none := rfl
    unfold mm_run
    rw [hd]
    simp only []
    rw [if_pos (by rfl), hr, hx]
    simp only []
    rw [if_pos hm]
    exact mm_run_le (Nat.le_refl _) (mm_call_le _ _ f2 _ (Nat.le_refl _) (by omega)) f2 _ _ _ _ _ _ (by omega) w4
  refine ⟨f1 + f2 + 2109, m2, ?_⟩
  exact st_run (f := f1 + f2 + 2103) 6 _ _ _ _ _ _ _ _ (st_le (by omega) (mm_call_le 30 (d + 41) 2000 (f1 + f2 + 2109) (by omega) (by omega)) 6 _ _ s6) t3
