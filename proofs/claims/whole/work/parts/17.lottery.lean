set_option maxRecDepth 100000 in
theorem v_X3_play {d sn : Nat} {v2 : Int32} {v3 : Int32} {v4 : Int32} {v5 : Int32} {m : mm_Mem} {P : mm_Mem → Prop} 
    (hv : ∀ m1 : mm_Mem, m1 = (mm_u2 m.1 75 2 v5, m.2) → (∀ m2 : mm_Mem, m2 = (mm_u2 m1.1 75 3 (nI 0), m1.2) → (∀ m3 : mm_Mem, m3 = (mm_u2 m2.1 75 4 (nI 0), m2.2) → (mm_wp d sn kX3_play 19 [some (.ref 75), some (.ref 59), some (.int v2), some (.int v3), some (.int v4), none, some (.int (nI 0))] [] m3 (qV P))))) :
    mm_sp (d + 1) sn kX3_play [.ref 75, .ref 59, .int v2, .int v3, .int v4, .int v5] m (qV P) := by
  have hb := mb_36
  refine wp_in (la := [some (.ref 75), some (.ref 59), some (.int v2), some (.int v3), some (.int v4), some (.int v5), none]) ⟨⟨Nat.le_of_ble_eq_true rfl, by decide, by decide⟩, rfl⟩ ?_
  refine wp_aload_n hb rfl dX3_play_0 ?_
  refine wp_iload hb rfl dX3_play_1 ?_
  refine wp_putI hb ko_36 lf_3_19 (by decide) m0_75 dX3_play_3 ?_
  have hv := hv _ rfl
  generalize (mm_u2 m.1 75 2 v5, m.2) = m1 at hv ⊢
  refine wp_aload_n hb rfl dX3_play_6 ?_
  refine wp_iconst hb (x := nI 0) rfl dX3_play_7 ?_
  refine wp_putI hb ko_36 lf_3_23 (by decide) m0_75 dX3_play_8 ?_
  have hv := hv _ rfl
  generalize (mm_u2 m1.1 75 3 (nI 0), m1.2) = m2 at hv ⊢
  refine wp_aload_n hb rfl dX3_play_11 ?_
  refine wp_iconst hb (x := nI 0) rfl dX3_play_12 ?_
  refine wp_putI hb ko_36 lf_3_26 (by decide) m0_75 dX3_play_13 ?_
  have hv := hv _ rfl
  generalize (mm_u2 m2.1 75 4 (nI 0), m2.2) = m3 at hv ⊢
  refine wp_iconst hb (x := nI 0) rfl dX3_play_16 ?_
  refine wp_istore hb rfl dX3_play_17 ?_
  exact wp_for (mm_ls_k (mm_ls_k (mm_ls_k (mm_ls_k (mm_ls_k (mm_ls_f (mm_ls_k mm_ls_nil))))))) hv
set_option maxRecDepth 100000 in
theorem v_X3_play_19 {d sn : Nat} {v2 : Int32} {v3 : Int32} {v4 : Int32} {v6 : Int32} {m : mm_Mem} {P : mm_Mem → Prop} 
    (hv : ((v4 ≤ v6) → (P m)) ∧ (¬ (v4 ≤ v6) → (mm_sp d sn kX5_amountOf [.ref 59, .int v3] m (qI fun x2 m1 => mm_sp d sn kX3_drawOrbits [.ref 75, .int x2] m1 (qV fun m2 => mm_sp d sn kX3_countSets [.ref 75, .ref 59, .int v3] m2 (qV fun m3 => mm_sp d sn kX3_isEven [.ref 75, .int v2] m3 (qI fun x5 m4 => ((x5 = 0) → (mm_wp d sn kX3_play 19 [some (.ref 75), some (.ref 59), some (.int v2), some (.int v3), some (.int v4), none, some (.int (v6 + nI 1))] [] m4 (qV P))) ∧ (¬ (x5 = 0) → (∀ m5 : mm_Mem, m5 = (mm_u2 m4.1 75 3 ((m4.1 75 3) + (nI 1)), m4.2) → (mm_wp d sn kX3_play 19 [some (.ref 75), some (.ref 59), some (.int v2), some (.int v3), some (.int v4), none, some (.int (v6 + nI 1))] [] m5 (qV P))))))))))) :
    mm_wp d sn kX3_play 19 [some (.ref 75), some (.ref 59), some (.int v2), some (.int v3), some (.int v4), none, some (.int v6)] [] m (qV P) := by
  have hb := mb_36
  refine wp_iload hb rfl dX3_play_19 ?_
  refine wp_iload hb rfl dX3_play_21 ?_
  refine wp_icmp_ge hb (t := 65) ⟨rfl, rfl⟩ dX3_play_23 ⟨fun c1 => ?_, fun c1 => ?_⟩
  · have hv := hv.1 c1
    exact wp_retV hb rfl dX3_play_65 hv
  · have hv := hv.2 c1
    refine wp_aload_n hb rfl dX3_play_26 ?_
    refine wp_aload_n hb rfl dX3_play_27 ?_
    refine wp_iload_n hb rfl dX3_play_28 ?_
    refine wp_callV hb (k' := 51) ko_36 lm_3_29 rfl m0_59 (by decide) (Nat.le_of_ble_eq_true rfl) dX3_play_29 (sp_cI (hv.I (Nat.le_refl _) ?_))
    intro x2 m1 hv
    refine wp_callV hb (k' := 37) ko_36 lm_3_35 rfl m0_75 (by decide) (Nat.le_of_ble_eq_true rfl) dX3_play_32 (sp_cV (hv.V (Nat.le_refl _) ?_))
    intro m2 hv
    refine wp_aload_n hb rfl dX3_play_35 ?_
    refine wp_aload_n hb rfl dX3_play_36 ?_
    refine wp_iload_n hb rfl dX3_play_37 ?_
    refine wp_callV hb (k' := 39) ko_36 lm_3_39 rfl m0_75 (by decide) (Nat.le_of_ble_eq_true rfl) dX3_play_38 (sp_cV (hv.V (Nat.le_refl _) ?_))
    intro m3 hv
    refine wp_aload_n hb rfl dX3_play_41 ?_
    refine wp_iload_n hb rfl dX3_play_42 ?_
    refine wp_callV hb (k' := 41) ko_36 lm_3_43 rfl m0_75 (by decide) (Nat.le_of_ble_eq_true rfl) dX3_play_43 (sp_cI (hv.I (Nat.le_refl _) ?_))
    intro x5 m4 hv
    refine wp_if_eq hb (y := 0) (t := 59) ⟨rfl, rfl⟩ dX3_play_46 ⟨fun c6 => ?_, fun c6 => ?_⟩
    · have hv := hv.1 c6
      refine wp_iinc hb rfl (y := v6 + nI 1) rfl rfl dX3_play_59 ?_
      refine wp_goto hb (t := 19) ⟨rfl, rfl⟩ dX3_play_62 ?_
      exact wp_for (mm_ls_k (mm_ls_k (mm_ls_k (mm_ls_k (mm_ls_k (mm_ls_k (mm_ls_k mm_ls_nil))))))) hv
    · have hv := hv.2 c6
      refine wp_aload_n hb rfl dX3_play_49 ?_
      refine wp_dupR hb dX3_play_50 ?_
      refine wp_getI hb ko_36 lf_3_23 (by decide) m0_75 dX3_play_51 ?_
      refine wp_iconst hb (x := nI 1) rfl dX3_play_54 ?_
      refine wp_iadd hb dX3_play_55 ?_
      refine wp_putI hb ko_36 lf_3_23 (by decide) m0_75 dX3_play_56 ?_
      have hv := hv _ rfl
      generalize (mm_u2 m4.1 75 3 ((m4.1 75 3) + (nI 1)), m4.2) = m5 at hv ⊢
      refine wp_iinc hb rfl (y := v6 + nI 1) rfl rfl dX3_play_59 ?_
      refine wp_goto hb (t := 19) ⟨rfl, rfl⟩ dX3_play_62 ?_
      exact wp_for (mm_ls_k (mm_ls_k (mm_ls_k (mm_ls_k (mm_ls_k (mm_ls_k (mm_ls_k mm_ls_nil))))))) hv
set_option maxRecDepth 100000 in
theorem v_X3_drawOrbits {d sn : Nat} {v1 : Int32} {m : mm_Mem} {P : mm_Mem → Prop} 
    (hv : mm_wp d sn kX3_drawOrbits 2 [some (.ref 75), some (.int v1), some (.int (nI 0))] [] m (qV P)) :
    mm_sp (d + 1) sn kX3_drawOrbits [.ref 75, .int v1] m (qV P) := by
  have hb := mb_37
  refine wp_in (la := [some (.ref 75), some (.int v1), none]) ⟨⟨Nat.le_of_ble_eq_true rfl, by decide, by decide⟩, rfl⟩ ?_
  refine wp_iconst hb (x := nI 0) rfl dX3_drawOrbits_0 ?_
  refine wp_istore_n hb rfl dX3_drawOrbits_1 ?_
  exact wp_for (mm_ls_k (mm_ls_k (mm_ls_k mm_ls_nil))) hv
set_option maxRecDepth 100000 in
theorem v_X3_drawOrbits_2 {d sn : Nat} {v1 : Int32} {v2 : Int32} {m : mm_Mem} {P : mm_Mem → Prop} 
    (hv : ((v1 ≤ v2) → (P m)) ∧ (¬ (v1 ≤ v2) → (((nI 70 ≤ v2) → (P m)) ∧ (¬ (nI 70 ≤ v2) → (mm_sp d sn kX3_drawBelowTwo [.ref 75] m (qI fun x3 m1 => ((¬ x3 = nI 1) → (vp_in v2 70 ∧ (∀ m2 : mm_Mem, m2 = (mm_u2 m1.1 76 v2.toNatClampNeg (vp_nar .boolean (nI 0)), m1.2) → (mm_wp d sn kX3_drawOrbits 2 [some (.ref 75), some (.int v1), some (.int (v2 + nI 1))] [] m2 (qV P))))) ∧ (¬ (¬ x3 = nI 1) → (vp_in v2 70 ∧ (∀ m3 : mm_Mem, m3 = (mm_u2 m1.1 76 v2.toNatClampNeg (vp_nar .boolean (nI 1)), m1.2) → (mm_wp d sn kX3_drawOrbits 2 [some (.ref 75), some (.int v1), some (.int (v2 + nI 1))] [] m3 (qV P))))))))))) :
    mm_wp d sn kX3_drawOrbits 2 [some (.ref 75), some (.int v1), some (.int v2)] [] m (qV P) := by
  have hb := mb_37
  refine wp_iload_n hb rfl dX3_drawOrbits_2 ?_
  refine wp_iload_n hb rfl dX3_drawOrbits_3 ?_
  refine wp_icmp_ge hb (t := 41) ⟨rfl, rfl⟩ dX3_drawOrbits_4 ⟨fun c1 => ?_, fun c1 => ?_⟩
  · have hv := hv.1 c1
    exact wp_retV hb rfl dX3_drawOrbits_41 hv
  · have hv := hv.2 c1
    refine wp_iload_n hb rfl dX3_drawOrbits_7 ?_
    refine wp_aload_n hb rfl dX3_drawOrbits_8 ?_
    refine wp_getR hb ko_37 lf_3_9 (by decide) m0_75 r0_75_0 dX3_drawOrbits_9 ?_
    refine wp_alen hb (x := nI 70) m0_76 (by decide) rfl dX3_drawOrbits_12 ?_
    refine wp_icmp_ge hb (t := 41) ⟨rfl, rfl⟩ dX3_drawOrbits_13 ⟨fun c2 => ?_, fun c2 => ?_⟩
    · have hv := hv.1 c2
      exact wp_retV hb rfl dX3_drawOrbits_41 hv
    · have hv := hv.2 c2
      refine wp_aload_n hb rfl dX3_drawOrbits_16 ?_
      refine wp_getR hb ko_37 lf_3_9 (by decide) m0_75 r0_75_0 dX3_drawOrbits_17 ?_
      refine wp_iload_n hb rfl dX3_drawOrbits_20 ?_
      refine wp_aload_n hb rfl dX3_drawOrbits_21 ?_
      refine wp_callV hb (k' := 38) ko_37 lm_3_47 rfl m0_75 (by decide) (Nat.le_of_ble_eq_true rfl) dX3_drawOrbits_22 (sp_cI (hv.I (Nat.le_refl _) ?_))
      intro x3 m1 hv
      refine wp_iconst hb (x := nI 1) rfl dX3_drawOrbits_25 ?_
      refine wp_icmp_ne hb (t := 33) ⟨rfl, rfl⟩ dX3_drawOrbits_26 ⟨fun c4 => ?_, fun c4 => ?_⟩
      · have hv := hv.1 c4
        refine wp_iconst hb (x := nI 0) rfl dX3_drawOrbits_33 ?_
        obtain ⟨q5, hv⟩ := hv
        refine wp_bastore hb rfl m0_76 (by decide) q5 dX3_drawOrbits_34 ?_
        have hv := hv _ rfl
        generalize (mm_u2 m1.1 76 v2.toNatClampNeg (vp_nar .boolean (nI 0)), m1.2) = m2 at hv ⊢
        refine wp_iinc hb rfl (y := v2 + nI 1) rfl rfl dX3_drawOrbits_35 ?_
        refine wp_goto hb (t := 2) ⟨rfl, rfl⟩ dX3_drawOrbits_38 ?_
        exact wp_for (mm_ls_k (mm_ls_k (mm_ls_k mm_ls_nil))) hv
      · have hv := hv.2 c4
        refine wp_iconst hb (x := nI 1) rfl dX3_drawOrbits_29 ?_
        refine wp_goto hb (t := 34) ⟨rfl, rfl⟩ dX3_drawOrbits_30 ?_
        obtain ⟨q6, hv⟩ := hv
        refine wp_bastore hb rfl m0_76 (by decide) q6 dX3_drawOrbits_34 ?_
        have hv := hv _ rfl
        generalize (mm_u2 m1.1 76 v2.toNatClampNeg (vp_nar .boolean (nI 1)), m1.2) = m3 at hv ⊢
        refine wp_iinc hb rfl (y := v2 + nI 1) rfl rfl dX3_drawOrbits_35 ?_
        refine wp_goto hb (t := 2) ⟨rfl, rfl⟩ dX3_drawOrbits_38 ?_
        exact wp_for (mm_ls_k (mm_ls_k (mm_ls_k mm_ls_nil))) hv
set_option maxRecDepth 100000 in
theorem v_X3_drawBelowTwo {d sn : Nat} {m : mm_Mem} {P : Int32 → mm_Mem → Prop} 
    (hv : ∀ m1 : mm_Mem, m1 = (mm_u2 m.1 75 2 (((m.1 75 2) * (nI 1103515245)) + (nI 12345)), m.2) → (P (mm_rem (((m1.1 75 2) &&& (nI 2147483647)) / (nI 65536)) (nI 2)) m1)) :
    mm_sp (d + 1) sn kX3_drawBelowTwo [.ref 75] m (qI P) := by
  have hb := mb_38
  refine wp_in (la := [some (.ref 75)]) ⟨⟨Nat.le_of_ble_eq_true rfl, by decide, by decide⟩, rfl⟩ ?_
  refine wp_aload_n hb rfl dX3_drawBelowTwo_0 ?_
  refine wp_aload_n hb rfl dX3_drawBelowTwo_1 ?_
  refine wp_getI hb ko_38 lf_3_19 (by decide) m0_75 dX3_drawBelowTwo_2 ?_
  refine wp_ldc hb (ko_38) (ki_3_51) dX3_drawBelowTwo_5 ?_
  refine wp_imul hb dX3_drawBelowTwo_7 ?_
  refine wp_sipush hb (x := nI 12345) rfl dX3_drawBelowTwo_8 ?_
  refine wp_iadd hb dX3_drawBelowTwo_11 ?_
  refine wp_putI hb ko_38 lf_3_19 (by decide) m0_75 dX3_drawBelowTwo_12 ?_
  have hv := hv _ rfl
  generalize (mm_u2 m.1 75 2 (((m.1 75 2) * (nI 1103515245)) + (nI 12345)), m.2) = m1 at hv ⊢
  refine wp_aload_n hb rfl dX3_drawBelowTwo_15 ?_
  refine wp_getI hb ko_38 lf_3_19 (by decide) m0_75 dX3_drawBelowTwo_16 ?_
  refine wp_ldc hb (ko_38) (ki_3_54) dX3_drawBelowTwo_19 ?_
  refine wp_iand hb dX3_drawBelowTwo_21 ?_
  refine wp_ldc hb (ko_38) (ki_3_55) dX3_drawBelowTwo_22 ?_
  refine wp_idiv hb (by decide) dX3_drawBelowTwo_24 ?_
  refine wp_iconst hb (x := nI 2) rfl dX3_drawBelowTwo_25 ?_
  refine wp_irem hb (by decide) dX3_drawBelowTwo_26 ?_
  exact wp_retI hb rfl dX3_drawBelowTwo_27 hv
set_option maxRecDepth 100000 in
theorem v_X3_countSets {d sn : Nat} {v2 : Int32} {m : mm_Mem} {P : mm_Mem → Prop} 
    (hv : mm_sp d sn kJ7_fill_53178 [.ref 77, .int (nI 0)] m (qV fun m1 => mm_wp d sn kX3_countSets 10 [some (.ref 75), some (.ref 59), some (.int v2), some (.int (nI 0)), none] [] m1 (qV P))) :
    mm_sp (d + 1) sn kX3_countSets [.ref 75, .ref 59, .int v2] m (qV P) := by
  have hb := mb_39
  refine wp_in (la := [some (.ref 75), some (.ref 59), some (.int v2), none, none]) ⟨⟨Nat.le_of_ble_eq_true rfl, by decide, by decide⟩, rfl⟩ ?_
  refine wp_aload_n hb rfl dX3_countSets_0 ?_
  refine wp_getR hb ko_39 lf_3_15 (by decide) m0_75 r0_75_1 dX3_countSets_1 ?_
  refine wp_iconst hb (x := nI 0) rfl dX3_countSets_4 ?_
  refine wp_callS hb (k' := 231) ko_39 lm_3_56 (by decide) rfl (Nat.le_of_ble_eq_true rfl) dX3_countSets_5 (sp_cV (hv.V (Nat.le_refl _) ?_))
  intro m1 hv
  refine wp_iconst hb (x := nI 0) rfl dX3_countSets_8 ?_
  refine wp_istore_n hb rfl dX3_countSets_9 ?_
  exact wp_for (mm_ls_k (mm_ls_k (mm_ls_k (mm_ls_k (mm_ls_k mm_ls_nil))))) hv
set_option maxRecDepth 100000 in
theorem v_X3_countSets_10 {d sn : Nat} {v2 : Int32} {v3 : Int32} {m : mm_Mem} {P : mm_Mem → Prop} 
    (hv : ((nI 256 ≤ v3) → (P m)) ∧ (¬ (nI 256 ≤ v3) → (mm_sp d sn kX5_numberOf [.ref 59, .int v3] m (qI fun x2 m1 => ((x2 < 0) → (mm_wp d sn kX3_countSets 10 [some (.ref 75), some (.ref 59), some (.int v2), some (.int (v3 + nI 1)), none] [] m1 (qV P))) ∧ (¬ (x2 < 0) → (((nI 70 ≤ x2) → (mm_wp d sn kX3_countSets 10 [some (.ref 75), some (.ref 59), some (.int v2), some (.int (v3 + nI 1)), none] [] m1 (qV P))) ∧ (¬ (nI 70 ≤ x2) → (vp_in x2 70 ∧ (((m1.1 76 x2.toNatClampNeg = 0) → (mm_wp d sn kX3_countSets 10 [some (.ref 75), some (.ref 59), some (.int v2), some (.int (v3 + nI 1)), none] [] m1 (qV P))) ∧ (¬ (m1.1 76 x2.toNatClampNeg = 0) → (mm_sp d sn kJ6_bitCount_0f7a4 [.int v3] m1 (qI fun x7 m2 => ((¬ x7 = v2) → (mm_wp d sn kX3_countSets 10 [some (.ref 75), some (.ref 59), some (.int v2), some (.int (v3 + nI 1)), none] [] m2 (qV P))) ∧ (¬ (¬ x7 = v2) → (mm_sp d sn kX3_countSet [.ref 75, .int v3] m2 (qV fun m3 => mm_wp d sn kX3_countSets 10 [some (.ref 75), some (.ref 59), some (.int v2), some (.int (v3 + nI 1)), none] [] m3 (qV P)))))))))))))))) :
    mm_wp d sn kX3_countSets 10 [some (.ref 75), some (.ref 59), some (.int v2), some (.int v3), none] [] m (qV P) := by
  have hb := mb_39
  refine wp_iload_n hb rfl dX3_countSets_10 ?_
  refine wp_sipush hb (x := nI 256) rfl dX3_countSets_11 ?_
  refine wp_icmp_ge hb (t := 68) ⟨rfl, rfl⟩ dX3_countSets_14 ⟨fun c1 => ?_, fun c1 => ?_⟩
  · have hv := hv.1 c1
    exact wp_retV hb rfl dX3_countSets_68 hv
  · have hv := hv.2 c1
    refine wp_aload_n hb rfl dX3_countSets_17 ?_
    refine wp_iload_n hb rfl dX3_countSets_18 ?_
    refine wp_callV hb (k' := 53) ko_39 lm_3_62 rfl m0_59 (by decide) (Nat.le_of_ble_eq_true rfl) dX3_countSets_19 (sp_cI (hv.I (Nat.le_refl _) ?_))
    intro x2 m1 hv
    refine wp_istore hb rfl dX3_countSets_22 ?_
    refine wp_iload hb rfl dX3_countSets_24 ?_
    refine wp_if_lt hb (y := 0) (t := 62) ⟨rfl, rfl⟩ dX3_countSets_26 ⟨fun c3 => ?_, fun c3 => ?_⟩
    · have hv := hv.1 c3
      refine wp_iinc hb rfl (y := v3 + nI 1) rfl rfl dX3_countSets_62 ?_
      refine wp_goto hb (t := 10) ⟨rfl, rfl⟩ dX3_countSets_65 ?_
      exact wp_for (mm_ls_k (mm_ls_k (mm_ls_k (mm_ls_k (mm_ls_f mm_ls_nil))))) hv
    · have hv := hv.2 c3
      refine wp_iload hb rfl dX3_countSets_29 ?_
      refine wp_aload_n hb rfl dX3_countSets_31 ?_
      refine wp_getR hb ko_39 lf_3_9 (by decide) m0_75 r0_75_0 dX3_countSets_32 ?_
      refine wp_alen hb (x := nI 70) m0_76 (by decide) rfl dX3_countSets_35 ?_
      refine wp_icmp_ge hb (t := 62) ⟨rfl, rfl⟩ dX3_countSets_36 ⟨fun c4 => ?_, fun c4 => ?_⟩
      · have hv := hv.1 c4
        refine wp_iinc hb rfl (y := v3 + nI 1) rfl rfl dX3_countSets_62 ?_
        refine wp_goto hb (t := 10) ⟨rfl, rfl⟩ dX3_countSets_65 ?_
        exact wp_for (mm_ls_k (mm_ls_k (mm_ls_k (mm_ls_k (mm_ls_f mm_ls_nil))))) hv
      · have hv := hv.2 c4
        refine wp_aload_n hb rfl dX3_countSets_39 ?_
        refine wp_getR hb ko_39 lf_3_9 (by decide) m0_75 r0_75_0 dX3_countSets_40 ?_
        refine wp_iload hb rfl dX3_countSets_43 ?_
        obtain ⟨q5, hv⟩ := hv
        refine wp_baload hb rfl m0_76 q5 dX3_countSets_45 ?_
        refine wp_if_eq hb (y := 0) (t := 62) ⟨rfl, rfl⟩ dX3_countSets_46 ⟨fun c6 => ?_, fun c6 => ?_⟩
        · have hv := hv.1 c6
          refine wp_iinc hb rfl (y := v3 + nI 1) rfl rfl dX3_countSets_62 ?_
          refine wp_goto hb (t := 10) ⟨rfl, rfl⟩ dX3_countSets_65 ?_
          exact wp_for (mm_ls_k (mm_ls_k (mm_ls_k (mm_ls_k (mm_ls_f mm_ls_nil))))) hv
        · have hv := hv.2 c6
          refine wp_iload_n hb rfl dX3_countSets_49 ?_
          refine wp_callS hb (k' := 227) ko_39 lm_3_65 (by decide) rfl (Nat.le_of_ble_eq_true rfl) dX3_countSets_50 (sp_cI (hv.I (Nat.le_refl _) ?_))
          intro x7 m2 hv
          refine wp_iload_n hb rfl dX3_countSets_53 ?_
          refine wp_icmp_ne hb (t := 62) ⟨rfl, rfl⟩ dX3_countSets_54 ⟨fun c8 => ?_, fun c8 => ?_⟩
          · have hv := hv.1 c8
            refine wp_iinc hb rfl (y := v3 + nI 1) rfl rfl dX3_countSets_62 ?_
            refine wp_goto hb (t := 10) ⟨rfl, rfl⟩ dX3_countSets_65 ?_
            exact wp_for (mm_ls_k (mm_ls_k (mm_ls_k (mm_ls_k (mm_ls_f mm_ls_nil))))) hv
          · have hv := hv.2 c8
            refine wp_aload_n hb rfl dX3_countSets_57 ?_
            refine wp_iload_n hb rfl dX3_countSets_58 ?_
            refine wp_callV hb (k' := 40) ko_39 lm_3_68 rfl m0_75 (by decide) (Nat.le_of_ble_eq_true rfl) dX3_countSets_59 (sp_cV (hv.V (Nat.le_refl _) ?_))
            intro m3 hv
            refine wp_iinc hb rfl (y := v3 + nI 1) rfl rfl dX3_countSets_62 ?_
            refine wp_goto hb (t := 10) ⟨rfl, rfl⟩ dX3_countSets_65 ?_
            exact wp_for (mm_ls_k (mm_ls_k (mm_ls_k (mm_ls_k (mm_ls_f mm_ls_nil))))) hv
set_option maxRecDepth 100000 in
theorem v_X3_countSet {d sn : Nat} {v1 : Int32} {m : mm_Mem} {P : mm_Mem → Prop} 
    (hv : ∀ m1 : mm_Mem, m1 = (mm_u2 m.1 75 4 ((m.1 75 4) + (nI 1)), m.2) → (mm_wp d sn kX3_countSet 12 [some (.ref 75), some (.int v1), some (.int (nI 0))] [] m1 (qV P))) :
    mm_sp (d + 1) sn kX3_countSet [.ref 75, .int v1] m (qV P) := by
  have hb := mb_40
  refine wp_in (la := [some (.ref 75), some (.int v1), none]) ⟨⟨Nat.le_of_ble_eq_true rfl, by decide, by decide⟩, rfl⟩ ?_
  refine wp_aload_n hb rfl dX3_countSet_0 ?_
  refine wp_dupR hb dX3_countSet_1 ?_
  refine wp_getI hb ko_40 lf_3_26 (by decide) m0_75 dX3_countSet_2 ?_
  refine wp_iconst hb (x := nI 1) rfl dX3_countSet_5 ?_
  refine wp_iadd hb dX3_countSet_6 ?_
  refine wp_putI hb ko_40 lf_3_26 (by decide) m0_75 dX3_countSet_7 ?_
  have hv := hv _ rfl
  generalize (mm_u2 m.1 75 4 ((m.1 75 4) + (nI 1)), m.2) = m1 at hv ⊢
  refine wp_iconst hb (x := nI 0) rfl dX3_countSet_10 ?_
  refine wp_istore_n hb rfl dX3_countSet_11 ?_
  exact wp_for (mm_ls_k (mm_ls_k (mm_ls_k mm_ls_nil))) hv
set_option maxRecDepth 100000 in
theorem v_X3_countSet_12 {d sn : Nat} {v1 : Int32} {v2 : Int32} {m : mm_Mem} {P : mm_Mem → Prop} 
    (hv : ((nI 8 ≤ v2) → (P m)) ∧ (¬ (nI 8 ≤ v2) → (vp_in v2 8 ∧ (vp_in v2 8 ∧ (∀ m1 : mm_Mem, m1 = (mm_u2 m.1 77 v2.toNatClampNeg ((m.1 77 v2.toNatClampNeg) + ((mm_shr v1 v2) &&& (nI 1))), m.2) → (mm_wp d sn kX3_countSet 12 [some (.ref 75), some (.int v1), some (.int (v2 + nI 1))] [] m1 (qV P))))))) :
    mm_wp d sn kX3_countSet 12 [some (.ref 75), some (.int v1), some (.int v2)] [] m (qV P) := by
  have hb := mb_40
  refine wp_iload_n hb rfl dX3_countSet_12 ?_
  refine wp_aload_n hb rfl dX3_countSet_13 ?_
  refine wp_getR hb ko_40 lf_3_15 (by decide) m0_75 r0_75_1 dX3_countSet_14 ?_
  refine wp_alen hb (x := nI 8) m0_77 (by decide) rfl dX3_countSet_17 ?_
  refine wp_icmp_ge hb (t := 41) ⟨rfl, rfl⟩ dX3_countSet_18 ⟨fun c1 => ?_, fun c1 => ?_⟩
  · have hv := hv.1 c1
    exact wp_retV hb rfl dX3_countSet_41 hv
  · have hv := hv.2 c1
    refine wp_aload_n hb rfl dX3_countSet_21 ?_
    refine wp_getR hb ko_40 lf_3_15 (by decide) m0_75 r0_75_1 dX3_countSet_22 ?_
    refine wp_iload_n hb rfl dX3_countSet_25 ?_
    refine wp_dup2 hb dX3_countSet_26 ?_
    obtain ⟨q2, hv⟩ := hv
    refine wp_iaload hb rfl m0_77 q2 dX3_countSet_27 ?_
    refine wp_iload_n hb rfl dX3_countSet_28 ?_
    refine wp_iload_n hb rfl dX3_countSet_29 ?_
    refine wp_ishr hb dX3_countSet_30 ?_
    refine wp_iconst hb (x := nI 1) rfl dX3_countSet_31 ?_
    refine wp_iand hb dX3_countSet_32 ?_
    refine wp_iadd hb dX3_countSet_33 ?_
    obtain ⟨q3, hv⟩ := hv
    refine wp_iastore hb rfl m0_77 (by decide) q3 dX3_countSet_34 ?_
    have hv := hv _ rfl
    generalize (mm_u2 m.1 77 v2.toNatClampNeg ((m.1 77 v2.toNatClampNeg) + ((mm_shr v1 v2) &&& (nI 1))), m.2) = m1 at hv ⊢
    refine wp_iinc hb rfl (y := v2 + nI 1) rfl rfl dX3_countSet_35 ?_
    refine wp_goto hb (t := 12) ⟨rfl, rfl⟩ dX3_countSet_38 ?_
    exact wp_for (mm_ls_k (mm_ls_k (mm_ls_k mm_ls_nil))) hv
set_option maxRecDepth 100000 in
theorem v_X3_isEven {d sn : Nat} {v1 : Int32} {m : mm_Mem} {P : Int32 → mm_Mem → Prop} 
    (hv : mm_wp d sn kX3_isEven 2 [some (.ref 75), some (.int v1), some (.int (nI 1))] [] m (qI P)) :
    mm_sp (d + 1) sn kX3_isEven [.ref 75, .int v1] m (qI P) := by
  have hb := mb_41
  refine wp_in (la := [some (.ref 75), some (.int v1), none]) ⟨⟨Nat.le_of_ble_eq_true rfl, by decide, by decide⟩, rfl⟩ ?_
  refine wp_iconst hb (x := nI 1) rfl dX3_isEven_0 ?_
  refine wp_istore_n hb rfl dX3_isEven_1 ?_
  exact wp_for (mm_ls_k (mm_ls_k (mm_ls_k mm_ls_nil))) hv
set_option maxRecDepth 100000 in
theorem v_X3_isEven_2 {d sn : Nat} {v1 : Int32} {v2 : Int32} {m : mm_Mem} {P : Int32 → mm_Mem → Prop} 
    (hv : ((v1 ≤ v2) → (P (nI 1) m)) ∧ (¬ (v1 ≤ v2) → (((nI 8 ≤ v2) → (P (nI 1) m)) ∧ (¬ (nI 8 ≤ v2) → (vp_in v2 8 ∧ (vp_in (v2 - (nI 1)) 8 ∧ (((m.1 77 v2.toNatClampNeg = m.1 77 (v2 - (nI 1)).toNatClampNeg) → (mm_wp d sn kX3_isEven 2 [some (.ref 75), some (.int v1), some (.int (v2 + nI 1))] [] m (qI P))) ∧ (¬ (m.1 77 v2.toNatClampNeg = m.1 77 (v2 - (nI 1)).toNatClampNeg) → (P (nI 0) m))))))))) :
    mm_wp d sn kX3_isEven 2 [some (.ref 75), some (.int v1), some (.int v2)] [] m (qI P) := by
  have hb := mb_41
  refine wp_iload_n hb rfl dX3_isEven_2 ?_
  refine wp_iload_n hb rfl dX3_isEven_3 ?_
  refine wp_icmp_ge hb (t := 41) ⟨rfl, rfl⟩ dX3_isEven_4 ⟨fun c1 => ?_, fun c1 => ?_⟩
  · have hv := hv.1 c1
    refine wp_iconst hb (x := nI 1) rfl dX3_isEven_41 ?_
    exact wp_retZ hb rfl (by decide) dX3_isEven_42 hv
  · have hv := hv.2 c1
    refine wp_iload_n hb rfl dX3_isEven_7 ?_
    refine wp_aload_n hb rfl dX3_isEven_8 ?_
    refine wp_getR hb ko_41 lf_3_15 (by decide) m0_75 r0_75_1 dX3_isEven_9 ?_
    refine wp_alen hb (x := nI 8) m0_77 (by decide) rfl dX3_isEven_12 ?_
    refine wp_icmp_ge hb (t := 41) ⟨rfl, rfl⟩ dX3_isEven_13 ⟨fun c2 => ?_, fun c2 => ?_⟩
    · have hv := hv.1 c2
      refine wp_iconst hb (x := nI 1) rfl dX3_isEven_41 ?_
      exact wp_retZ hb rfl (by decide) dX3_isEven_42 hv
    · have hv := hv.2 c2
      refine wp_aload_n hb rfl dX3_isEven_16 ?_
      refine wp_getR hb ko_41 lf_3_15 (by decide) m0_75 r0_75_1 dX3_isEven_17 ?_
      refine wp_iload_n hb rfl dX3_isEven_20 ?_
      obtain ⟨q3, hv⟩ := hv
      refine wp_iaload hb rfl m0_77 q3 dX3_isEven_21 ?_
      refine wp_aload_n hb rfl dX3_isEven_22 ?_
      refine wp_getR hb ko_41 lf_3_15 (by decide) m0_75 r0_75_1 dX3_isEven_23 ?_
      refine wp_iload_n hb rfl dX3_isEven_26 ?_
      refine wp_iconst hb (x := nI 1) rfl dX3_isEven_27 ?_
      refine wp_isub hb dX3_isEven_28 ?_
      obtain ⟨q4, hv⟩ := hv
      refine wp_iaload hb rfl m0_77 q4 dX3_isEven_29 ?_
      refine wp_icmp_eq hb (t := 35) ⟨rfl, rfl⟩ dX3_isEven_30 ⟨fun c5 => ?_, fun c5 => ?_⟩
      · have hv := hv.1 c5
        refine wp_iinc hb rfl (y := v2 + nI 1) rfl rfl dX3_isEven_35 ?_
        refine wp_goto hb (t := 2) ⟨rfl, rfl⟩ dX3_isEven_38 ?_
        exact wp_for (mm_ls_k (mm_ls_k (mm_ls_k mm_ls_nil))) hv
      · have hv := hv.2 c5
        refine wp_iconst hb (x := nI 0) rfl dX3_isEven_33 ?_
        exact wp_retZ hb rfl (by decide) dX3_isEven_34 hv
