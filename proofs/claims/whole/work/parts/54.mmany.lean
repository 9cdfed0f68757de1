-- THE MODEL: many, count
theorem m_many {d sn a : Nat} {B : Nat → Bool} {m : mm_Mem} {P : Int32 → mm_Mem → Prop} (ha : shZ a) (hB : rZ (m.1 a) B 256) (h : P (nI (cN B 256)) m) : mm_sp (d + 1) sn kX11_many [.ref a] m (qI P) := by
  refine v_X11_many ha ?_
  refine lp_up (W := fun s => mm_wp d sn kX11_many 4 [some (.ref a), some (.int (nI (cN B s))), some (.int (nI s))] [] m (qI P)) (Nat.zero_le 256) ?_ ?_
  · exact v_X11_many_4 ha (e_vT (by decide) h)
  · intro s _ hs ih
    refine v_X11_many_4 ha (e_vF (by rw [e_le (by omega) (by omega)]; omega) ?_)
    rw [e_vin (by omega) (by omega), e_cl (by omega), hB s hs, e_add, e_add, e_add]
    refine ⟨hs, e_vz (fun e => ?_) (fun e => ?_)⟩
    · rw [cN_f e] at ih; exact ih
    · rw [cN_t e] at ih; exact ih
theorem shZ_86 : shZ 86 := ⟨by decide, fun _ => rfl⟩
theorem m_count {d sn : Nat} {X : GS} {w : Int32} {m : mm_Mem} {P : Int32 → mm_Mem → Prop} (hI : mI X m) (h : ∀ m', fz 82 211 m m' → mI X m' → P (A_count X w) m') : mm_sp (d + 2) sn kX11_count [.ref 82, .int w] m (qI P) := by
  refine v_X11_count ?_
  have h := h m fz.refl hI
  unfold A_count at h
  refine ⟨fun e => ?_, fun e => ?_, fun e => ?_, fun e => ?_, fun e => ?_, fun e0 e1 e2 e3 e4 => ?_⟩
  · rw [if_pos e] at h
    rw [hI.1.1.1]; exact h
  · subst e
    rw [if_neg (by decide), if_pos rfl] at h
    rw [hI.1.1.2.1]; exact h
  · subst e
    rw [if_neg (by decide), if_neg (by decide), if_pos rfl] at h
    exact m_many shZ_86 hI.1.2.2.2.1 h
  · subst e
    rw [if_neg (by decide), if_neg (by decide), if_neg (by decide), if_pos rfl] at h
    rw [hI.1.1.2.2.2]; exact h
  · subst e
    rw [if_neg (by decide), if_neg (by decide), if_neg (by decide), if_neg (by decide), if_pos rfl] at h
    rw [hI.2.2.2.1.1]; exact h
  · rw [if_neg e0, if_neg e1, if_neg e2, if_neg e3, if_neg e4] at h
    exact h
