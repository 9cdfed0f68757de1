-- THE MODEL: blockOf
theorem m_blockOf {d sn : Nat} {X : GS} {i : Int32} {m : mm_Mem} {P : Int32 → mm_Mem → Prop} (hI : mI X m) (h : ∀ m', fz 82 211 m m' → mI X m' → P (A_blockOf X.1 i) m') : mm_sp (d + 1) sn kX11_blockOf [.ref 82, .int i] m (qI P) := by
  have hq := h m fz.refl hI
  clear h
  unfold A_blockOf at hq
  refine v_X11_blockOf ⟨fun c => ?_, fun c => ?_⟩
  · rw [if_pos c] at hq
    obtain ⟨e1, e2⟩ := nn_of c
    generalize i.toNatClampNeg = j at hq e1 e2
    subst e1
    have W := lp_up (W := fun s => (∀ t, t < s → sB X.1 t = true → cN (sB X.1) t ≠ j) → cN (sB X.1) s ≤ j → mm_wp d sn kX11_blockOf 10 [some (.ref 82), none, some (.int (nI (j - cN (sB X.1) s))), some (.int (nI s))] [] m (qI P)) (Nat.zero_le 256) ?_ ?_
    · exact W (fun t ht => by omega) (Nat.zero_le j)
    · intro hn _
      refine v_X11_blockOf_10 (e_vT (by decide) ?_)
      rw [nthV_n hn] at hq
      exact hq
    · intro s _ hs ih hn hle
      refine v_X11_blockOf_10 (e_vF (by rw [e_le (by omega) (by omega)]; omega) ?_)
      have hb := hI.1.2.2.2.1 s hs
      rw [e_vin (by omega) (by omega), e_cl (by omega), hb, e_add]
      refine ⟨hs, e_vz (fun e => ?_) (fun e => ?_)⟩
      · rw [cN_f e] at ih
        refine ih (fun t h1 h2 => ?_) hle
        by_cases e3 : t = s
        · subst e3; rw [e] at h2; cases h2
        · exact hn t (by omega) h2
      · rw [e_eq0 (by omega)]
        refine ⟨fun c3 => ?_, fun c3 => ?_⟩
        · rw [cN_t e] at ih
          rw [e_dec (by omega)]
          have e9 : j - cN (sB X.1) s - 1 = j - (cN (sB X.1) s + 1) := by omega
          rw [e9]
          refine ih (fun t h1 h2 => ?_) (by omega)
          by_cases e3 : t = s
          · subst e3; omega
          · exact hn t (by omega) h2
        · rw [nthV_s hs e (by omega)] at hq
          exact hq
  · rw [if_neg c] at hq
    exact hq
