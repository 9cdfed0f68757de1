-- the class's calls about blocks
def stB (K : Nat) (B : Nat → Bool) (S : St) : St := ((sN S, sW S, sC S, K, B), S.2)
theorem rS_B {b K : Nat} {B : Nat → Bool} {S : St} {m m' : mm_Mem} (h4 : sW S ≤ 4 ∧ sC S ≤ 4) (hS : rS b S m) (hf : fr [b + 1, b + 1 + 1] m m') (hB : rB (b + 1) K B m') : rS b (stB K B S) m' ∧ fz b (b + 20) m m' := by
  obtain ⟨g0, g1, g2, gB, gY, gD⟩ := hS
  refine ⟨⟨?_, ?_, ?_, hB, fun i hi => ?_, fun i hi => ?_⟩, hf.z2 (by omega) (by omega)⟩
  · rw [hf.i (by simp; omega)]; exact g0
  · rw [hf.i (by simp; omega)]; exact g1
  · rw [hf.i (by simp; omega)]; exact g2
  · have hi : i < sW S := hi
    exact fr_rY hf (by simp; omega) (by simp; omega) (gY i hi)
  · have hi : i < sC S := hi
    exact fr_rB hf (by simp; omega) (by simp; omega) (gD i hi)
theorem okS_B {K : Nat} {B : Nat → Bool} {S : St} (h : okS S) (hB : okB (sN S) K B) : okS (stB K B S) := ⟨h.1, h.2.1, hB, h.2.2.2.1, h.2.2.2.2⟩
theorem c_setB {X : GS} {K : Nat} {B : Nat → Bool} {m m' : mm_Mem} {Q : Prop} (hX : okX X) (hI : cI X m) (hf : fr [3, 4] m m') (hB : rB 3 K B m') (h : fz 1 81 m m' → cI (setS X (stB K B X.1)) m' → Q) : Q := by
  obtain ⟨g1, g2⟩ := rS_B hX.1.2.1 hI.1 hf hB
  exact h (g2.wide (by omega) (by omega)) (cI_S hX g2 hI g1)
-- choose
def hb (c : Int32) (n : Nat) : Bool := decide (n < 31) && !(mm_shr c (nI n) == 0)
theorem s_hasBits {d sn n : Nat} {c : Int32} {m : mm_Mem} {P : Int32 → mm_Mem → Prop} (hn : n < 1000) (h : P (nI (hb c n).toNat) m) : mm_sp (d + 1) sn kX10_hasBitsFrom [.int c, .int (nI n)] m (qI P) := by
  refine v_X10_hasBitsFrom ?_
  unfold hb at h
  rw [e_le (by omega) (by omega)]
  refine ⟨fun c1 => ?_, fun c1 => ⟨fun c2 => ?_, fun c2 => ?_⟩⟩
  · rw [decide_eq_false (by omega)] at h; exact h
  · rw [decide_eq_true (by omega), c2] at h; exact h
  · rw [decide_eq_true (by omega), beq_eq_false_iff_ne.mpr c2] at h; exact h
def chk (S : St) (k c : Int32) : Bool := iz k (sN S + 1) && !(decide (k < nI 1))
def chc (S : St) (k c : Int32) : Bool := !decide (c < 0) && !hb c ((fndS S).2 k.toNatClampNeg)
def S_choose (S : St) (k c : Int32) : St := if chk S k c = true then (if chc S k c = true then stB k.toNatClampNeg (chs (fndS S).1 k.toNatClampNeg c.toNatClampNeg) S else S) else S
def A_choose (S : St) (k c : Int32) : Int32 := if chk S k c = true then (if chc S k c = true then nI (cN (sB (S_choose S k c)) 256) else -1) else -2
theorem chs_okB {S : St} (h : okS S) {k c : Nat} (hk : 1 ≤ k ∧ k ≤ sN S) : okB (sN S) k (chs (fndS S).1 k c) := by
  refine ⟨hk.1, hk.2, fun s hs e => ?_⟩
  unfold chs at e
  split at e
  · cases e
  · next i hi =>
    rw [Bool.and_eq_true, Bool.and_eq_true] at e
    exact ⟨((fnd_oF h).1 s i hi).1, beq_iff_eq.mp e.2⟩
theorem okS_choose {S : St} {k c : Int32} (h : okS S) : okS (S_choose S k c) := by
  unfold S_choose
  split
  · next h1 =>
    split
    · unfold chk at h1
      rw [Bool.and_eq_true] at h1
      have hN := h.1.2
      obtain ⟨k, hk, rfl⟩ := iz_t (by omega) h1.1
      have h2 : ¬ nI k < nI 1 := by simpa using h1.2
      rw [e_lt (by omega) (by omega)] at h2
      rw [e_cl (by omega)]
      exact okS_B h (chs_okB h ⟨by omega, by omega⟩)
    · exact h
  · exact h
theorem c_choose {d sn : Nat} {X : GS} {k c : Int32} {m : mm_Mem} {P : Int32 → mm_Mem → Prop} (hX : okX X) (hI : cI X m) (h : ∀ m', fz 1 81 m m' → cI (setS X (S_choose X.1 k c)) m' → P (A_choose X.1 k c) m') : mm_sp (d + 5) sn kX10_choose [.ref 1, .int k, .int c] m (qI P) := by
  refine v_X10_choose ?_
  have hN := hX.1.1.2
  unfold A_choose at h
  have bad : chk X.1 k c = false → P (-2) m := by
    intro e
    have e2 : S_choose X.1 k c = X.1 := by unfold S_choose; rw [if_neg (by rw [e]; decide)]
    rw [e2, if_neg (by rw [e]; decide)] at h
    exact h m fz.refl hI
  refine ⟨fun c1 => bad (by unfold chk; rw [decide_eq_true c1, Bool.not_true, Bool.and_false]), fun c1 => ?_⟩
  refine s_isSize shS_2 hI.1.1 hN (e_vb (fun e => ?_) (fun e => bad (by unfold chk; rw [e, Bool.false_and])))
  have eK : chk X.1 k c = true := by unfold chk; rw [e, decide_eq_false c1]; rfl
  obtain ⟨k, hk, rfl⟩ := iz_t (by omega) e
  have c1 : ¬ k < 1 := by rw [e_lt (by omega) (by omega)] at c1; exact c1
  refine s_find hI.1 hX.1 ?_
  intro m1 hz hO
  have hS := fnd_oS hX.1
  have hI1 := fz_cI hX hz (by omega) hI
  have hk2 := hS.2 k (by omega)
  rw [if_pos eK] at h
  have no : chc X.1 (nI k) c = false → P (-1) m1 := by
    intro e
    have e2 : S_choose X.1 (nI k) c = X.1 := by unfold S_choose; rw [if_pos eK, if_neg (by rw [e]; decide)]
    rw [e2, if_neg (by rw [e]; decide)] at h
    exact h m1 (hz.wide (by omega) (by omega)) hI1
  refine ⟨fun c2 => no (by unfold chc; rw [decide_eq_true c2]; rfl), fun c2 => ?_⟩
  refine s_amountOf hO (by omega) ?_
  refine s_hasBits (by omega) (e_vz (fun e3 => ?_) (fun e3 => no (by unfold chc; rw [e_cl (by omega), e3, Bool.not_true, Bool.and_false])))
  have eC : chc X.1 (nI k) c = true := by unfold chc; rw [e_cl (by omega), e3, decide_eq_false c2]; rfl
  obtain ⟨e4, e5⟩ := nn_of (Int32.not_lt.mp c2)
  have eS : S_choose X.1 (nI k) c = stB k (chs (fndS X.1).1 k c.toNatClampNeg) X.1 := by
    unfold S_choose
    rw [if_pos eK, if_pos eC, e_cl (by omega)]
  rw [if_pos eC, eS] at h
  rw [e4]
  refine s_becomeChoice (shS_b shS_2) (by omega) hO hS (by omega) e5 ?_
  intro m2 hf hB
  rw [hB.2.1]
  exact c_setB hX hI1 hf hB (fun g1 g2 => h m2 ((hz.wide (by omega) (by omega)).trans g1) g2)
-- block
def bOk (S : St) (s : Int32) : Bool := iz s (2 ^ sN S) && bc s.toNatClampNeg == sK S
def S_block (S : St) (s : Int32) : St := if bOk S s = true then stB (sK S) (up (sB S) s.toNatClampNeg (!sB S s.toNatClampNeg)) S else S
def A_block (S : St) (s : Int32) : Int32 := if bOk S s = true then nI (cN (sB (S_block S s)) 256) else -1
theorem okS_block {S : St} {s : Int32} (h : okS S) : okS (S_block S s) := by
  unfold S_block
  split
  · next h1 =>
    unfold bOk at h1
    rw [Bool.and_eq_true, beq_iff_eq] at h1
    have hp8 := p2_le h.1.2
    obtain ⟨s, hs, rfl⟩ := iz_t (by omega) h1.1
    have h2 := h1.2
    rw [e_cl (by omega)] at h2 ⊢
    refine okS_B h ⟨h.2.2.1.1, h.2.2.1.2.1, fun x hx e => ?_⟩
    by_cases e2 : x = s
    · subst e2; exact ⟨hs, h2⟩
    · rw [up_n e2] at e; exact h.2.2.1.2.2 x hx e
  · exact h
theorem c_block {d sn : Nat} {X : GS} {s : Int32} {m : mm_Mem} {P : Int32 → mm_Mem → Prop} (hX : okX X) (hI : cI X m) (h : ∀ m', fz 1 81 m m' → cI (setS X (S_block X.1 s)) m' → P (A_block X.1 s) m') : mm_sp (d + 5) sn kX10_block [.ref 1, .int s] m (qI P) := by
  refine v_X10_block ?_
  have hN := hX.1.1.2
  have hp8 := p2_le hN
  unfold A_block at h
  have bad : bOk X.1 s = false → P (-1) m := by
    intro e
    have e2 : S_block X.1 s = X.1 := by unfold S_block; rw [if_neg (by rw [e]; decide)]
    rw [e2, if_neg (by rw [e]; decide)] at h
    exact h m fz.refl hI
  refine s_isSet shS_2 hI.1.1 hN (e_vz (fun e => bad (by unfold bOk; rw [e, Bool.false_and])) (fun e => ?_))
  obtain ⟨s, hs, rfl⟩ := iz_t (by omega) e
  have hb := hI.1.2.2.2.1
  have hK := hX.1.2.2.1.2.1
  have hl := bc_le s
  refine s_bitCount (by omega) ?_
  rw [hb.1, e_eq (by omega) (by omega)]
  refine ⟨fun c => ?_, fun c => bad (by unfold bOk; rw [e_cl (by omega), beq_eq_false_iff_ne.mpr c, Bool.and_false])⟩
  have eO : bOk X.1 (nI s) = true := by unfold bOk; rw [e, e_cl (by omega), beq_iff_eq.mpr c]; rfl
  have eS : S_block X.1 (nI s) = stB (sK X.1) (up (sB X.1) s (!sB X.1 s)) X.1 := by
    unfold S_block
    rw [if_pos eO, e_cl (by omega)]
  rw [if_pos eO, eS] at h
  have fin : ∀ m1, fr [3, 4] m m1 → rB 3 (sK X.1) (up (sB X.1) s (!sB X.1 s)) m1 → P (m1.1 3 1) m1 := by
    intro m1 hf hB
    rw [hB.2.1]
    exact c_setB hX hI hf hB (fun g1 g2 => h m1 g1 g2)
  refine s_has (shS_b shS_2) hb.2.2 (by omega) (e_vb (fun e2 => ?_) (fun e2 => ?_))
  · refine s_put (b := false) (shS_b shS_2) hb (by omega) ?_
    intro m1 hf hB
    refine fin m1 hf ?_
    rw [e2]; exact hB
  · refine s_put (b := true) (shS_b shS_2) hb (by omega) ?_
    intro m1 hf hB
    refine fin m1 hf ?_
    rw [e2]; exact hB
noncomputable def A_blockOf (S : St) (i : Int32) : Int32 := if 0 ≤ i then nthV (sB S) i.toNatClampNeg else -1
theorem c_blockOf {d sn : Nat} {X : GS} {i : Int32} {m : mm_Mem} {P : Int32 → mm_Mem → Prop} (hI : cI X m) (h : ∀ m', fz 1 81 m m' → cI X m' → P (A_blockOf X.1 i) m') : mm_sp (d + 2) sn kX10_blockOf [.ref 1, .int i] m (qI P) := by
  refine v_X10_blockOf ?_
  have h := h m fz.refl hI
  unfold A_blockOf at h
  refine ⟨fun c => ?_, fun c => ?_⟩
  · rw [if_pos c] at h
    obtain ⟨e1, e2⟩ := nn_of c
    rw [e1]
    exact s_setAt (shS_b shS_2) hI.1.2.2.2.1.2.2 e2 h
  · rw [if_neg c] at h
    exact h
noncomputable def A_blocks (S : St) (w : Int32) : Int32 := if w = nI 0 then nI (sK S) else if w = nI 1 then nI (cN (sB S) 256) else if w = nI 2 then nI (stV (sB S) (2 ^ sN S - 1) (sK S)) else if w = nI 3 then nI (bc (orN (sB S) 256)) else -1
theorem c_blocks {d sn : Nat} {X : GS} {w : Int32} {m : mm_Mem} {P : Int32 → mm_Mem → Prop} (hX : okX X) (hI : cI X m) (h : ∀ m', fz 1 81 m m' → cI X m' → P (A_blocks X.1 w) m') : mm_sp (d + 4) sn kX10_blocks [.ref 1, .int w] m (qI P) := by
  refine v_X10_blocks ?_
  have hN := hX.1.1.2
  have h := h m fz.refl hI
  have hb := hI.1.2.2.2.1
  have hK := hX.1.2.2.1.2.1
  unfold A_blocks at h
  refine ⟨fun e => ?_, fun e => ?_, fun e => ?_, fun e => ?_, fun e0 e1 e2 e3 => ?_⟩
  · rw [if_pos e] at h
    rw [hb.1]; exact h
  · subst e
    rw [if_neg (by decide), if_pos rfl] at h
    rw [hb.2.1]; exact h
  · subst e
    rw [if_neg (by decide), if_neg (by decide), if_pos rfl] at h
    exact s_whole shS_2 hI.1.1 hN (s_strengthOn (shS_b shS_2) hb.2.2 hb.1 (by omega) h)
  · subst e
    rw [if_neg (by decide), if_neg (by decide), if_neg (by decide), if_pos rfl] at h
    have := orN_lt (B := sB X.1) (Nat.le_refl 256)
    exact s_union (shS_b shS_2) hb.2.2 (s_bitCount (by omega) h)
  · rw [if_neg e0, if_neg e1, if_neg e2, if_neg e3] at h
    exact h
noncomputable def A_share (S : St) (w : Int32) : Int32 := if iz w (sK S + 1) = true then shV (sB S) (2 ^ sN S - 1) w.toNatClampNeg else -2
theorem c_share {d sn : Nat} {X : GS} {w : Int32} {m : mm_Mem} {P : Int32 → mm_Mem → Prop} (hX : okX X) (hI : cI X m) (h : ∀ m', fz 1 81 m m' → cI X m' → P (A_share X.1 w) m') : mm_sp (d + 4) sn kX10_share [.ref 1, .int w] m (qI P) := by
  refine v_X10_share ?_
  have hN := hX.1.1.2
  have h := h m fz.refl hI
  have hb := hI.1.2.2.2.1
  have hK := hX.1.2.2.1.2.1
  unfold A_share at h
  rw [hb.1]
  refine ⟨fun c => ?_, fun c => ⟨fun c2 => ?_, fun c2 => ?_⟩⟩
  · rw [if_neg (by rw [iz_no1 c]; decide)] at h
    exact h
  · have e : iz w (sK X.1 + 1) = true := by
      rw [iz_1 (by omega)]
      exact decide_eq_true ⟨c, Int32.not_lt.mpr c2⟩
    rw [if_pos e] at h
    obtain ⟨j, hj, rfl⟩ := iz_t (by omega) e
    rw [e_cl (by omega)] at h
    exact s_whole shS_2 hI.1.1 hN (s_shareOn (shS_b shS_2) hb.2.2 (by omega) h)
  · have e : iz w (sK X.1 + 1) = false := by
      rw [iz_1 (by omega)]
      exact decide_eq_false (fun e => e.2 (Int32.not_le.mp c2))
    rw [if_neg (by rw [e]; decide)] at h
    exact h
def A_meets (S : St) (s j : Int32) : Int32 := if iz s (2 ^ sN S) = false then -1 else if iz j 9 = true then nI (cN (fun x => sB S x && bc (x &&& s.toNatClampNeg) == j.toNatClampNeg) 256) else -2
theorem c_meets {d sn : Nat} {X : GS} {s j : Int32} {m : mm_Mem} {P : Int32 → mm_Mem → Prop} (hX : okX X) (hI : cI X m) (h : ∀ m', fz 1 81 m m' → cI X m' → P (A_meets X.1 s j) m') : mm_sp (d + 4) sn kX10_meets [.ref 1, .int s, .int j] m (qI P) := by
  refine v_X10_meets ?_
  have hN := hX.1.1.2
  have hp8 := p2_le hN
  have h := h m fz.refl hI
  have hb := hI.1.2.2.2.1
  unfold A_meets at h
  refine s_isSet shS_2 hI.1.1 hN (e_vb (fun e => ?_) (fun e => ?_))
  · rw [if_neg (by rw [e]; decide)] at h
    obtain ⟨s, hs, rfl⟩ := iz_t (by omega) e
    rw [e_cl (by omega)] at h
    refine ⟨fun c => ?_, fun c => ⟨fun c2 => ?_, fun c2 => ?_⟩⟩
    · rw [if_neg (by rw [iz_no1 c]; decide)] at h
      exact h
    · have e : iz j 9 = true := by
        rw [iz_1 (n := 8) (by omega)]
        exact decide_eq_true ⟨c, Int32.not_lt.mpr c2⟩
      rw [if_pos e] at h
      obtain ⟨j, hj, rfl⟩ := iz_t (n := 9) (by omega) e
      rw [e_cl (by omega)] at h
      exact s_meeting (shS_b shS_2) hb.2.2 (by omega) h
    · have e : iz j 9 = false := by
        rw [iz_1 (n := 8) (by omega)]
        exact decide_eq_false (fun e => e.2 (Int32.not_le.mp c2))
      rw [if_neg (by rw [e]; decide)] at h
      exact h
  · rw [if_pos e] at h
    exact h
def S_turned (S : St) : St := if sK S = sN S then S else stB (sN S - sK S) (trn (2 ^ sN S - 1) (sB S)) S
def A_turned (S : St) : Int32 := if sK S = sN S then -3 else nI (cN (sB (S_turned S)) 256)
theorem turned_bits : alN (fun n => alN (fun x => (decide (2 ^ n ≤ x)) || bc (2 ^ n - 1 - x) == n - bc x) 256) 9 = true := by decide +kernel
theorem okS_turned {S : St} (h : okS S) : okS (S_turned S) := by
  unfold S_turned
  split
  · exact h
  · next hne =>
    have hK := h.2.2.1
    refine okS_B h ⟨by have := hK.2.1; omega, Nat.sub_le _ _, fun x hx e => ?_⟩
    have hp := Nat.two_pow_pos (sN S)
    have hp8 := p2_le h.1.2
    unfold trn at e
    rw [Bool.and_eq_true, decide_eq_true_iff] at e
    have h2 := (hK.2.2 _ (by omega) e.2).2
    have h3 := alN_of (alN_of turned_bits (sN S) (by have := h.1.2; omega)) (2 ^ sN S - 1 - x) (by omega)
    rw [decide_eq_false (by omega), Bool.false_or, beq_iff_eq, h2] at h3
    have e4 : 2 ^ sN S - 1 - (2 ^ sN S - 1 - x) = x := by omega
    rw [e4] at h3
    exact ⟨by omega, h3⟩
theorem c_turned {d sn : Nat} {X : GS} {m : mm_Mem} {P : Int32 → mm_Mem → Prop} (hX : okX X) (hI : cI X m) (h : ∀ m', fz 1 81 m m' → cI (setS X (S_turned X.1)) m' → P (A_turned X.1) m') : mm_sp (d + 4) sn kX10_turned [.ref 1] m (qI P) := by
  refine v_X10_turned ?_
  have hN := hX.1.1
  have hb := hI.1.2.2.2.1
  have hK := hX.1.2.2.1
  have hK2 := hK.2.1
  unfold A_turned S_turned at h
  rw [hb.1, hI.1.1, e_eq (by omega) (by omega)]
  refine ⟨fun c => ?_, fun c => ?_⟩
  · rw [if_neg c, if_neg c] at h
    refine s_turn (shS_b shS_2) hb hK.2.1 (by omega) (fun s h1 h2 => (hK.2.2 s h1 h2).1) ?_
    intro m1 hf hB
    rw [hB.2.1]
    exact c_setB hX hI hf hB (fun g1 g2 => h m1 g1 g2)
  · have c := Classical.not_not.mp c
    rw [if_pos c, if_pos c] at h
    exact h m fz.refl hI
