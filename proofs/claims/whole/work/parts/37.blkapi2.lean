-- parted, keep, design, image, undo, count
def gnd (n p : Nat) : Nat := (2 ^ n - 1) ^^^ ((2 ^ n - 1) &&& 1 <<< p)
noncomputable def A_parted (S : St) (p w : Int32) : Int32 := if iz p (sN S) = false then -1 else if iz w 3 = false then -1 else
  if w = nI 0 then nI (cN (prt (sB S) p.toNatClampNeg (decide (w < nI 2))) 256) else if cN (prt (sB S) p.toNatClampNeg (decide (w < nI 2))) 256 = 0 then -5 else nI (stV (prt (sB S) p.toNatClampNeg (decide (w < nI 2))) (gnd (sN S) p.toNatClampNeg) (if decide (w < nI 2) = true then sK S - 1 else sK S))
theorem c_parted {d sn : Nat} {X : GS} {p w : Int32} {m : mm_Mem} {P : Int32 → mm_Mem → Prop} (hX : okX X) (hI : cI X m) (h : ∀ m', fz 1 81 m m' → cI X m' → P (A_parted X.1 p w) m') : mm_sp (d + 5) sn kX10_parted [.ref 1, .int p, .int w] m (qI P) := by
  refine v_X10_parted ?_
  have hN := hX.1.1.2
  have hK1 := hX.1.2.2.1.1
  have hK2 := hX.1.2.2.1.2.1
  have hb := hI.1.2.2.2.1
  unfold A_parted at h
  refine s_isPoint shS_2 hI.1.1 (e_vz (fun e => ?_) (fun e => ?_))
  · rw [if_pos e] at h
    exact h m fz.refl hI
  · have n1 : ¬ iz p (sN X.1) = false := by rw [e]; decide
    rw [if_neg n1] at h
    obtain ⟨p, hp, rfl⟩ := iz_t (by omega) e
    rw [e_cl (by omega)] at h
    have sh : mm_shl (nI 1) (nI p) = nI (1 <<< p) := e_shl (by omega)
    rw [sh]
    have body : ∀ b : Bool, decide (w < nI 2) = b → iz w 3 = true → mm_sp (d + 4) sn kX0_becomePart [.ref 78, .ref 3, .int (nI (1 <<< p)), .int (nI b.toNat)] m (qV fun m2 => ((¬ w = 0) → (((¬ m2.1 78 1 = 0) → (mm_sp (d + 4) sn kX6_whole [.ref 2] m2 (qI fun x9 m3 => mm_sp (d + 4) sn kX0_strengthOn [.ref 78, .int (x9 &&& (nI (1 <<< p) ^^^ (-1)))] m3 (qI fun x10 m4 => P x10 m4)))) ∧ (¬ (¬ m2.1 78 1 = 0) → (P (-5) m2)))) ∧ (¬ (¬ w = 0) → (P (m2.1 78 1) m2))) := by
      intro b eb ew
      have n2 : ¬ iz w 3 = false := by rw [ew]; decide
      rw [if_neg n2, eb] at h
      refine s_becomePart shB_78 (shS_b shS_2) (by omega) hb hK1 (by omega) ?_
      intro m2 hf hB
      have hz : fz 78 79 m m2 := hf.z2 (by omega) (by omega)
      have h := h m2 (hz.wide (by omega) (by omega)) (fz_cI hX hz (by omega) hI)
      have hl := cN_le (prt (sB X.1) p b) 256
      rw [hB.2.1, e_eq0 (by omega)]
      have ew0 : (w = 0) = (w = nI 0) := by rw [nI_0]
      rw [ew0]
      refine ⟨fun c => ⟨fun c2 => ?_, fun c2 => ?_⟩, fun c => ?_⟩
      · rw [if_neg c, if_neg c2] at h
        refine s_whole shS_2 (fz_cI hX hz (by omega) hI).1.1 hN ?_
        rw [e_andn]
        exact s_strengthOn shB_78 hB.2.2 hB.1 (by split <;> omega) h
      · rw [if_neg c, if_pos (Classical.not_not.mp c2)] at h
        exact h
      · rw [if_pos (Classical.not_not.mp c)] at h
        exact h
    refine ⟨fun c => ?_, fun c => ⟨fun c2 => ?_, fun c2 => ?_⟩⟩
    · rw [if_pos (iz_no1 c)] at h
      exact h m fz.refl hI
    · have ew : iz w 3 = true := by
        rw [iz_1 (n := 2) (by omega)]
        exact decide_eq_true ⟨c, Int32.not_lt.mpr c2⟩
      refine ⟨fun c3 => body false (decide_eq_false (Int32.not_lt.mpr c3)) ew, fun c3 => body true (decide_eq_true (Int32.not_le.mp c3)) ew⟩
    · have ew : iz w 3 = false := by
        rw [iz_1 (n := 2) (by omega)]
        exact decide_eq_false (fun e => e.2 (Int32.not_le.mp c2))
      rw [if_pos ew] at h
      exact h m fz.refl hI
def stKeep (S : St) : St := ((sN S, sW S, sC S + 1, sK S, sB S), S.2.1, (ud (sDk S) (sC S) (sK S), ud (sD S) (sC S) (sB S)))
def S_keep (S : St) : St := if sC S = 4 then S else stKeep S
def A_keep (S : St) : Int32 := if sC S = 4 then -4 else nI (sC S)
theorem okS_keep {S : St} (h : okS S) : okS (S_keep S) := by
  unfold S_keep
  split
  · exact h
  · next hne =>
    refine ⟨h.1, ⟨h.2.1.1, ?_⟩, h.2.2.1, h.2.2.2.1, fun i hi => ?_⟩
    · show sC S + 1 ≤ 4
      have := h.2.1.2
      omega
    · have hi : i < sC S + 1 := hi
      show okB (sN S) (ud (sDk S) (sC S) (sK S) i) (ud (sD S) (sC S) (sB S) i)
      by_cases e : i = sC S
      · subst e
        rw [ud_s, ud_s]; exact h.2.2.1
      · rw [ud_n e, ud_n e]
        exact h.2.2.2.2 i (by omega)
theorem c_keep {d sn : Nat} {X : GS} {m : mm_Mem} {P : Int32 → mm_Mem → Prop} (hX : okX X) (hI : cI X m) (h : ∀ m', fz 1 81 m m' → cI (setS X (S_keep X.1)) m' → P (A_keep X.1) m') : mm_sp (d + 4) sn kX10_keep [.ref 1] m (qI P) := by
  refine v_X10_keep ?_
  have hC := hX.1.2.1.2
  have hW := hX.1.2.1.1
  unfold A_keep S_keep at h
  obtain ⟨g0, g1, g2, gB, gY, gD⟩ := hI.1
  refine s_spareDesign shS_2 g2 hC (fun hc => ?_) (fun hc => ?_)
  · rw [if_neg (by omega), if_neg (by omega)] at h
    refine v_so ⟨shS_d shS_2 hc, ?_⟩
    refine s_copyFrom (shS_d shS_2 hc) (shS_b shS_2) (by omega) gB ?_
    intro m1 hf hB m2 e2
    have h2 : m1.1 2 2 = nI (sC X.1) := by rw [hf.i (by simp; omega)]; exact g2
    have hf2 : fr [2] m1 m2 := by subst e2; exact fr_u2 (by simp)
    rw [h2]
    have hz : fz 2 22 m m2 := (hf.z2 (by omega) (by omega)).trans (hf2.z1 (by omega) (by omega))
    refine h m2 (hz.wide (by omega) (by omega)) (cI_S hX hz hI ⟨?_, ?_, ?_, ?_, fun i hi => ?_, fun i hi => ?_⟩)
    · subst e2
      show mm_u2 m1.1 2 2 (m1.1 2 2 + nI 1) 2 0 = nI (sN X.1)
      rw [u2_j (by omega), hf.i (by simp; omega)]; exact g0
    · subst e2
      show mm_u2 m1.1 2 2 (m1.1 2 2 + nI 1) 2 1 = nI (sW X.1)
      rw [u2_j (by omega), hf.i (by simp; omega)]; exact g1
    · subst e2
      show mm_u2 m1.1 2 2 (m1.1 2 2 + nI 1) 2 2 = nI (sC X.1 + 1)
      rw [u2_s, h2, e_add]
    · exact fr_rB hf2 (by simp) (by simp) (fr_rB hf (by simp; omega) (by simp; omega) gB)
    · have hi : i < sW X.1 := hi
      exact fr_rY hf2 (by simp; omega) (by simp; omega) (fr_rY hf (by simp; omega) (by simp; omega) (gY i hi))
    · have hi : i < sC X.1 + 1 := hi
      show rB (2 + 13 + 2 * i) (ud (sDk X.1) (sC X.1) (sK X.1) i) (ud (sD X.1) (sC X.1) (sB X.1) i) m2
      by_cases e : i = sC X.1
      · subst e
        rw [ud_s, ud_s]
        exact fr_rB hf2 (by simp; omega) (by simp; omega) hB
      · rw [ud_n e, ud_n e]
        exact fr_rB hf2 (by simp; omega) (by simp; omega) (fr_rB hf (by simp; omega) (by simp; omega) (gD i (by omega)))
  · rw [if_pos hc, if_pos hc] at h
    exact v_no (h m fz.refl hI)
def A_design (S : St) (v w : Int32) : Int32 := if iz v (sC S) = true then (if w = nI 0 then nI (sDk S v.toNatClampNeg) else if w = nI 1 then nI (cN (sD S v.toNatClampNeg) 256) else -1) else -1
theorem c_design {d sn : Nat} {X : GS} {v w : Int32} {m : mm_Mem} {P : Int32 → mm_Mem → Prop} (hX : okX X) (hI : cI X m) (h : ∀ m', fz 1 81 m m' → cI X m' → P (A_design X.1 v w) m') : mm_sp (d + 4) sn kX10_design [.ref 1, .int v, .int w] m (qI P) := by
  refine v_X10_design ?_
  have hC := hX.1.2.1.2
  have h := h m fz.refl hI
  unfold A_design at h
  refine s_designAt shS_2 hI.1.2.2.1 hC (fun j hj ej => ?_) (fun e => ?_)
  · subst ej
    have hD := hI.1.2.2.2.2.2 j hj
    refine v_so ⟨shS_d shS_2 (by omega), ?_⟩
    rw [if_pos (iz_j hj (by omega)), e_cl (by omega)] at h
    refine ⟨fun e => ?_, fun e => ?_, fun e0 e1 => ?_⟩
    · rw [if_pos e] at h
      rw [hD.1]; exact h
    · subst e
      rw [if_neg (by decide), if_pos rfl] at h
      rw [hD.2.1]; exact h
    · rw [if_neg e0, if_neg e1] at h
      exact h
  · rw [if_neg (fun c => by rw [c] at e; cases e)] at h
    exact v_no h
def X_image (X : GS) : GS := (X.1, X.1, true, X.2.2.2)
theorem c_image {d sn : Nat} {X : GS} {m : mm_Mem} {P : Int32 → mm_Mem → Prop} (hX : okX X) (hI : cI X m) (h : ∀ m', fz 1 81 m m' → cI (X_image X) m' → P (nI (cN (sB X.1) 256)) m') : mm_sp (d + 5) sn kX10_image [.ref 1] m (qI P) := by
  refine v_X10_image ?_
  obtain ⟨g1, g2, g3, g4, g5⟩ := hI
  have h4 := hX.1.2.1
  refine s_scopy shS_23 shS_2 (by omega) g1 h4 ?_
  intro m1 hz hS m2 e2
  have hz2 : fz 1 1 m1 m2 := by subst e2; exact fz_u2 (by omega) (by omega)
  have hS2 := fz_rS h4 hz2 (by omega) (fz_rS h4 hz (by omega) g1)
  rw [hS2.2.2.2.1.2.1]
  refine h m2 ((hz.wide (by omega) (by omega)).trans (hz2.wide (by omega) (by omega))) ⟨hS2, ?_, fun _ => fz_rS h4 hz2 (by omega) hS, ⟨?_, fun j hj => ?_⟩, fun k hk => ⟨?_, ?_, fun i hi => ?_⟩⟩
  · subst e2
    show mm_u2 m1.1 1 2 (nI 1) 1 2 = _
    rw [u2_s]; rfl
  · rw [hz2.i (by omega), hz.i (by omega)]; exact g4.1
  · rw [hz2.i (by omega), hz.i (by omega)]; exact g4.2 j hj
  · rw [hz2.i (by omega), hz.i (by omega)]; exact (g5 k hk).1
  · rw [hz2.i (by omega), hz.i (by omega)]; exact (g5 k hk).2.1
  · rw [hz2.l (by omega), hz.l (by omega)]; exact (g5 k hk).2.2 i hi
def S_undo (X : GS) : St := if X.2.2.1 = true then X.2.1 else X.1
def A_undo (X : GS) : Int32 := if X.2.2.1 = true then nI (cN (sB X.2.1) 256) else -3
theorem okS_undo {X : GS} (hX : okX X) : okS (S_undo X) := by
  unfold S_undo
  split
  · next e => exact hX.2.1 e
  · exact hX.1
theorem c_undo {d sn : Nat} {X : GS} {m : mm_Mem} {P : Int32 → mm_Mem → Prop} (hX : okX X) (hI : cI X m) (h : ∀ m', fz 1 81 m m' → cI (setS X (S_undo X)) m' → P (A_undo X) m') : mm_sp (d + 5) sn kX10_undo [.ref 1] m (qI P) := by
  refine v_X10_undo ?_
  unfold A_undo S_undo at h
  rw [hI.2.1]
  refine e_vb (fun e => ?_) (fun e => ?_)
  · rw [if_pos e, if_pos e] at h
    refine s_scopy shS_2 shS_23 (by omega) (hI.2.2.1 e) (hX.2.1 e).2.1 ?_
    intro m1 hz hS
    rw [hS.2.2.2.1.2.1]
    exact h m1 (hz.wide (by omega) (by omega)) (cI_S hX hz hI hS)
  · rw [if_neg (by rw [e]; decide), if_neg (by rw [e]; decide)] at h
    exact h m fz.refl hI
def A_count (X : GS) (w : Int32) : Int32 := if w = nI 0 then nI (sN X.1) else if w = nI 1 then nI (sW X.1) else if w = nI 2 then nI (cN (sB X.1) 256) else if w = nI 3 then nI (sC X.1) else if w = nI 4 then nI X.2.2.2.1.1 else -2
theorem c_count {d sn : Nat} {X : GS} {w : Int32} {m : mm_Mem} {P : Int32 → mm_Mem → Prop} (hI : cI X m) (h : ∀ m', fz 1 81 m m' → cI X m' → P (A_count X w) m') : mm_sp (d + 1) sn kX10_count [.ref 1, .int w] m (qI P) := by
  refine v_X10_count ?_
  have h := h m fz.refl hI
  unfold A_count at h
  refine ⟨fun e => ?_, fun e => ?_, fun e => ?_, fun e => ?_, fun e => ?_, fun e0 e1 e2 e3 e4 => ?_⟩
  · rw [if_pos e] at h
    rw [hI.1.1]; exact h
  · subst e
    rw [if_neg (by decide), if_pos rfl] at h
    rw [hI.1.2.1]; exact h
  · subst e
    rw [if_neg (by decide), if_neg (by decide), if_pos rfl] at h
    rw [hI.1.2.2.2.1.2.1]; exact h
  · subst e
    rw [if_neg (by decide), if_neg (by decide), if_neg (by decide), if_pos rfl] at h
    rw [hI.1.2.2.1]; exact h
  · subst e
    rw [if_neg (by decide), if_neg (by decide), if_neg (by decide), if_neg (by decide), if_pos rfl] at h
    rw [hI.2.2.2.1.1]; exact h
  · rw [if_neg e0, if_neg e1, if_neg e2, if_neg e3, if_neg e4] at h
    exact h
