-- THE MODEL: size, to, moved, takes, moves
theorem bc8 {s : Nat} (hs : s < 256) : bc s = cN (fun p => s.testBit p) 8 := bc_n (n := 8) (by omega) hs
theorem m_size {d sn s : Nat} {m : mm_Mem} {P : Int32 → mm_Mem → Prop} (hs : s < 256) (h : P (nI (bc s)) m) : mm_sp (d + 1) sn kX11_size [.int (nI s)] m (qI P) := by
  rw [bc8 hs] at h
  refine v_X11_size ?_
  refine lp_up (W := fun p => mm_wp d sn kX11_size 4 [some (.int (nI s)), some (.int (nI (cN (fun p => s.testBit p) p))), some (.int (nI p))] [] m (qI P)) (Nat.zero_le 8) ?_ ?_
  · exact v_X11_size_4 (e_vT (by decide) h)
  · intro p _ hp ih
    refine v_X11_size_4 (e_vF (by rw [e_le (by omega) (by omega)]; omega) ?_)
    rw [e_shr (by omega) (by omega), e_and, e_bit0, e_add, e_add]
    exact ih
theorem m_to {d sn w p : Nat} {S : St} {m : mm_Mem} {P : Int32 → mm_Mem → Prop} (hM : rMs 83 86 S m) (h4 : sW S ≤ 4) (h8 : sN S ≤ 8) (hw : w < sW S) (hp : p < sN S) (h : P (nI (sT S w p)) m) : mm_sp (d + 1) sn kX11_to [.ref 82, .int (nI w), .int (nI p)] m (qI P) := by
  refine v_X11_to ?_
  rw [e_mul, e_add, e_add, e_vin (by omega) (by omega), e_cl (by omega), (hM.2.1 w hw).2.2 p hp]
  exact ⟨by omega, h⟩
theorem m_moved {d sn w s : Nat} {S : St} {m : mm_Mem} {P : Int32 → mm_Mem → Prop} (hM : rMs 83 86 S m) (hS : okS S) (hw : w < sW S) (hs : s < 2 ^ sN S) (h : P (nI (mv (sT S w) s)) m) : mm_sp (d + 2) sn kX11_moved [.ref 82, .int (nI w), .int (nI s)] m (qI P) := by
  have h4 := hS.2.1.1
  have h8 := hS.1.2
  have hp8 := p2_le h8
  have hT := (hS.2.2.2.1 w hw).2.2.1
  rw [mv_n h8 hs] at h
  refine v_X11_moved ?_
  refine lp_up (W := fun p => mm_wp (d + 1) sn kX11_moved 5 [some (.ref 82), some (.int (nI w)), some (.int (nI s)), some (.int (nI (mvN (sT S w) s p))), some (.int (nI p))] [] m (qI P)) (Nat.zero_le (sN S)) ?_ ?_
  · refine v_X11_moved_5 ?_
    rw [hM.1.1]
    exact e_vT (by rw [e_le (by omega) (by omega)]; omega) h
  · intro p _ hp ih
    refine v_X11_moved_5 ?_
    rw [hM.1.1]
    refine e_vF (by rw [e_le (by omega) (by omega)]; omega) ?_
    have hl : (s >>> p) &&& 1 ≤ 1 := Nat.and_le_right
    have hTp := hT p hp
    rw [e_shr (by omega) (by omega), e_and, e_eq (by omega) (by omega), e_bit, e_or, Nat.or_zero, e_add]
    refine ⟨fun e => ?_, fun e => ?_⟩
    · have e2 : mvN (sT S w) s (p + 1) = mvN (sT S w) s p := if_neg e
      rw [e2] at ih; exact ih
    · refine m_to hM h4 h8 hw hp ?_
      have e2 : mvN (sT S w) s (p + 1) = mvN (sT S w) s p ||| 1 <<< sT S w p := if_pos (Classical.not_not.mp e)
      rw [e_shl (by omega), e_or]
      rw [e2] at ih; exact ih
theorem m_takes {d sn : Nat} {X : GS} {v w : Int32} {m : mm_Mem} {P : Int32 → mm_Mem → Prop} (hX : okX X) (hI : mI X m) (h : ∀ m', fz 82 211 m m' → mI X m' → P (A_takes X.1 v w) m') : mm_sp (d + 3) sn kX11_takes [.ref 82, .int v, .int w] m (qI P) := by
  have h4 := hX.1.2.1.1
  have h8 := hX.1.1.2
  have h := h m fz.refl hI
  unfold A_takes at h
  refine v_X11_takes ?_
  refine m_isWay hI.1.1.2.1 h4 (e_vz (fun e => ?_) (fun e => ?_))
  · rw [if_neg (fun c => by rw [c.1] at e; cases e)] at h
    exact h
  · refine m_isPoint hI.1.1.1 h8 (e_vz (fun e2 => ?_) (fun e2 => ?_))
    · rw [if_neg (fun c => by rw [c.2] at e2; cases e2)] at h
      exact h
    · rw [if_pos ⟨e, e2⟩] at h
      obtain ⟨j, hj, rfl⟩ := iz_t (by omega) e
      obtain ⟨p, hp, rfl⟩ := iz_t (by omega) e2
      rw [e_cl (by omega), e_cl (by omega)] at h
      exact m_to hI.1 h4 h8 hj hp h
theorem m_moves {d sn : Nat} {X : GS} {v w : Int32} {m : mm_Mem} {P : Int32 → mm_Mem → Prop} (hX : okX X) (hI : mI X m) (h : ∀ m', fz 82 211 m m' → mI X m' → P (A_moves X.1 v w) m') : mm_sp (d + 3) sn kX11_moves [.ref 82, .int v, .int w] m (qI P) := by
  have h4 := hX.1.2.1.1
  have h8 := hX.1.1.2
  have hp8 := p2_le h8
  have h := h m fz.refl hI
  unfold A_moves at h
  refine v_X11_moves ?_
  refine m_isWay hI.1.1.2.1 h4 (e_vz (fun e => ?_) (fun e => ?_))
  · rw [if_neg (fun c => by rw [c.1] at e; cases e)] at h
    exact h
  · refine m_isSet hI.1.1.1 h8 (e_vz (fun e2 => ?_) (fun e2 => ?_))
    · rw [if_neg (fun c => by rw [c.2] at e2; cases e2)] at h
      exact h
    · rw [if_pos ⟨e, e2⟩] at h
      obtain ⟨j, hj, rfl⟩ := iz_t (by omega) e
      obtain ⟨p, hp, rfl⟩ := iz_t (by omega) e2
      rw [e_cl (by omega), e_cl (by omega)] at h
      exact m_moved hI.1 hX.1 hj hp h
