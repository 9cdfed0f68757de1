-- THE MODEL: isTape, peek
theorem m_isTape {d sn : Nat} {v : Int32} {m : mm_Mem} {P : Int32 → mm_Mem → Prop} (h : P (nI (iz v 6).toNat) m) : mm_sp (d + 2) sn kX11_isTape [.int v] m (qI P) := by
  refine v_X11_isTape ?_
  have e : lN 5 = (nI 5).toInt64 := by decide
  rw [e]
  exact s_in (n := 6) (by decide) (by omega) ⟨e_z01, h⟩
theorem m_peek {d sn : Nat} {X : GS} {t i : Int32} {m : mm_Mem} {P : Int64 → mm_Mem → Prop} (hX : okX X) (hI : mI X m) (h : ∀ m', fz 82 211 m m' → mI X m' → P (A_peek X t i) m') : mm_sp (d + 3) sn kX11_peek [.ref 82, .int t, .int i] m (qL P) := by
  have h := h m fz.refl hI
  unfold A_peek itV at h
  refine v_X11_peek ?_
  refine m_isTape (e_vz (fun e => ?_) (fun e => ?_))
  · rw [if_neg (by rw [e]; decide)] at h
    exact h
  · rw [if_pos e] at h
    obtain ⟨k, hk, rfl⟩ := iz_t (by omega) e
    obtain ⟨_, g1, g2⟩ := hI.2.2.2.2 k hk
    have hl : gLn X k ≤ 60 := (hX.2.2.2 k hk).2
    rw [e_cl (by omega)] at h ⊢
    rw [e_vin (by omega) (by omega), g1]
    refine ⟨hk, s_in (e_pred (by omega)) (by omega) (e_vz (fun e2 => ?_) (fun e2 => ?_))⟩
    · rw [if_neg (by rw [e2]; decide)] at h
      exact h
    · rw [if_pos e2] at h
      obtain ⟨j, hj, rfl⟩ := iz_t (by omega) e2
      rw [e_cl (by omega)] at h ⊢
      rw [e_vin (by omega) (by omega)]
      refine ⟨k, hk, rfl, by omega, ?_⟩
      rw [g2 j (by omega)]
      exact h
