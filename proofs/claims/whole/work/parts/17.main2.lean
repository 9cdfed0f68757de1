set_option maxRecDepth 100000 in
theorem v_X10_selves {d sn : Nat} {v1 : Int32} {m : mm_Mem} {P : Int32 → mm_Mem → Prop} 
    (hv : mm_sp d sn kX6_designAt [.ref 2, .int v1] m (qR fun x1 m1 => (x1 = none → (P (-1) m1)) ∧ (∀ a2, x1 = some a2 → shB a2 ∧ (((m1.1 2 0 ≤ nI 7) → (mm_sp d sn kX4_selvesOf [.ref 73, .ref a2, .int (m1.1 2 0)] m1 (qI fun x4 m2 => P x4 m2))) ∧ (¬ (m1.1 2 0 ≤ nI 7) → (P (-3) m1)))))) :
    mm_sp (d + 1) sn kX10_selves [.ref 1, .int v1] m (qI P) := by
  have hb := mb_126
  refine wp_in (la := [some (.ref 1), some (.int v1), none]) ⟨⟨Nat.le_of_ble_eq_true rfl, by decide, by decide⟩, rfl⟩ ?_
  refine wp_aload_n hb rfl dX10_selves_0 ?_
  refine wp_getR hb ko_126 lf_10_12 (by decide) m0_1 r0_1_0 dX10_selves_1 ?_
  refine wp_iload_n hb rfl dX10_selves_4 ?_
  refine wp_callV hb (k' := 69) ko_126 lm_10_272 rfl m0_2 (by decide) (Nat.le_of_ble_eq_true rfl) dX10_selves_5 (sp_cR (hv.R (Nat.le_refl _) ?_))
  intro x1 m1 hv
  refine ⟨fun e9 => ?_, fun a9 e9 => ?_⟩
  · have hv := hv.1 e9
    refine wp_astore_nN hb rfl dX10_selves_8 ?_
    refine wp_aload_nN hb rfl dX10_selves_9 ?_
    refine wp_ifnonnullN hb dX10_selves_10 ?_
    refine wp_iconst hb (x := (-1)) rfl dX10_selves_13 ?_
    exact wp_retI hb rfl dX10_selves_14 hv
  · obtain ⟨ha2, hv⟩ := hv.2 a9 e9
    revert hv ha2
    generalize a9 = a2
    intro ha2 hv
    refine wp_astore_n hb rfl dX10_selves_8 ?_
    refine wp_aload_n hb rfl dX10_selves_9 ?_
    refine wp_ifnonnull hb (t := 15) ⟨rfl, rfl⟩ dX10_selves_10 ?_
    refine wp_aload_n hb rfl dX10_selves_15 ?_
    refine wp_getR hb ko_126 lf_10_12 (by decide) m0_1 r0_1_0 dX10_selves_16 ?_
    refine wp_getI hb ko_126 lf_10_84 (by decide) m0_2 dX10_selves_19 ?_
    refine wp_bipush hb (x := nI 7) rfl dX10_selves_22 ?_
    refine wp_icmp_le hb (t := 30) ⟨rfl, rfl⟩ dX10_selves_24 ⟨fun c3 => ?_, fun c3 => ?_⟩
    · have hv := hv.1 c3
      refine wp_aload_n hb rfl dX10_selves_30 ?_
      refine wp_getR hb ko_126 lf_10_63 (by decide) m0_1 r0_1_8 dX10_selves_31 ?_
      refine wp_aload_n hb rfl dX10_selves_34 ?_
      refine wp_aload_n hb rfl dX10_selves_35 ?_
      refine wp_getR hb ko_126 lf_10_12 (by decide) m0_1 r0_1_0 dX10_selves_36 ?_
      refine wp_getI hb ko_126 lf_10_84 (by decide) m0_2 dX10_selves_39 ?_
      refine wp_callV hb (k' := 44) ko_126 lm_10_280 rfl m0_73 (by decide) (Nat.le_of_ble_eq_true rfl) dX10_selves_42 (sp_cI (hv.I (Nat.le_refl _) ?_))
      intro x4 m2 hv
      exact wp_retI hb rfl dX10_selves_45 hv
    · have hv := hv.2 c3
      refine wp_bipush hb (x := (-3)) rfl dX10_selves_27 ?_
      exact wp_retI hb rfl dX10_selves_29 hv
set_option maxRecDepth 100000 in
theorem v_X10_unlike {d sn : Nat} {v1 : Int32} {v2 : Int32} {v3 : Int32} {m : mm_Mem} {P : Int32 → mm_Mem → Prop} 
    (hv : mm_sp d sn kX10_areSizes [.ref 1, .int v1, .int v2] m (qI fun x1 m1 => ((x1 = 0) → (P (-2) m1)) ∧ (¬ (x1 = 0) → (mm_sp d sn kX10_isAim [.int v3] m1 (qI fun x3 m2 => ((¬ x3 = 0) → (((nI 6 < m2.1 2 0) → (P (-3) m2)) ∧ (¬ (nI 6 < m2.1 2 0) → (mm_sp d sn kX10_loadChoices [.ref 1, .int v1, .int v2] m2 (qI fun x6 m3 => ((¬ x6 = 0) → (mm_sp d sn kX1_solve [.ref 66, .int v3, .int (nI 0)] m3 (qV fun m4 => ((m4.1 66 9 ≤ nI 24) → (mm_wp d sn kX10_unlike 73 [some (.ref 1), none, some (.int v2), none, some (.int (nI 0)), some (.int (nI 0))] [] m4 (qI P))) ∧ (¬ (m4.1 66 9 ≤ nI 24) → (P (-3) m4))))) ∧ (¬ (¬ x6 = 0) → (P (-3) m3))))))) ∧ (¬ (¬ x3 = 0) → (P (-2) m2))))))) :
    mm_sp (d + 1) sn kX10_unlike [.ref 1, .int v1, .int v2, .int v3] m (qI P) := by
  have hb := mb_127
  refine wp_in (la := [some (.ref 1), some (.int v1), some (.int v2), some (.int v3), none, none]) ⟨⟨Nat.le_of_ble_eq_true rfl, by decide, by decide⟩, rfl⟩ ?_
  refine wp_aload_n hb rfl dX10_unlike_0 ?_
  refine wp_iload_n hb rfl dX10_unlike_1 ?_
  refine wp_iload_n hb rfl dX10_unlike_2 ?_
  refine wp_callV hb (k' := 139) ko_127 lm_10_185 rfl m0_1 (by decide) (Nat.le_of_ble_eq_true rfl) dX10_unlike_3 (sp_cI (hv.I (Nat.le_refl _) ?_))
  intro x1 m1 hv
  refine wp_if_eq hb (y := 0) (t := 16) ⟨rfl, rfl⟩ dX10_unlike_6 ⟨fun c2 => ?_, fun c2 => ?_⟩
  · have hv := hv.1 c2
    refine wp_bipush hb (x := (-2)) rfl dX10_unlike_16 ?_
    exact wp_retI hb rfl dX10_unlike_18 hv
  · have hv := hv.2 c2
    refine wp_iload_n hb rfl dX10_unlike_9 ?_
    refine wp_callS hb (k' := 140) ko_127 lm_10_191 (by decide) rfl (Nat.le_of_ble_eq_true rfl) dX10_unlike_10 (sp_cI (hv.I (Nat.le_refl _) ?_))
    intro x3 m2 hv
    refine wp_if_ne hb (y := 0) (t := 19) ⟨rfl, rfl⟩ dX10_unlike_13 ⟨fun c4 => ?_, fun c4 => ?_⟩
    · have hv := hv.1 c4
      refine wp_aload_n hb rfl dX10_unlike_19 ?_
      refine wp_getR hb ko_127 lf_10_12 (by decide) m0_1 r0_1_0 dX10_unlike_20 ?_
      refine wp_getI hb ko_127 lf_10_84 (by decide) m0_2 dX10_unlike_23 ?_
      refine wp_bipush hb (x := nI 6) rfl dX10_unlike_26 ?_
      refine wp_icmp_gt hb (t := 40) ⟨rfl, rfl⟩ dX10_unlike_28 ⟨fun c5 => ?_, fun c5 => ?_⟩
      · have hv := hv.1 c5
        refine wp_bipush hb (x := (-3)) rfl dX10_unlike_40 ?_
        exact wp_retI hb rfl dX10_unlike_42 hv
      · have hv := hv.2 c5
        refine wp_aload_n hb rfl dX10_unlike_31 ?_
        refine wp_iload_n hb rfl dX10_unlike_32 ?_
        refine wp_iload_n hb rfl dX10_unlike_33 ?_
        refine wp_callV hb (k' := 144) ko_127 lm_10_194 rfl m0_1 (by decide) (Nat.le_of_ble_eq_true rfl) dX10_unlike_34 (sp_cI (hv.I (Nat.le_refl _) ?_))
        intro x6 m3 hv
        refine wp_if_ne hb (y := 0) (t := 43) ⟨rfl, rfl⟩ dX10_unlike_37 ⟨fun c7 => ?_, fun c7 => ?_⟩
        · have hv := hv.1 c7
          refine wp_aload_n hb rfl dX10_unlike_43 ?_
          refine wp_getR hb ko_127 lf_10_56 (by decide) m0_1 r0_1_7 dX10_unlike_44 ?_
          refine wp_iload_n hb rfl dX10_unlike_47 ?_
          refine wp_iconst hb (x := nI 0) rfl dX10_unlike_48 ?_
          refine wp_callV hb (k' := 20) ko_127 lm_10_197 rfl m0_66 (by decide) (Nat.le_of_ble_eq_true rfl) dX10_unlike_49 (sp_cV (hv.V (Nat.le_refl _) ?_))
          intro m4 hv
          refine wp_aload_n hb rfl dX10_unlike_52 ?_
          refine wp_getR hb ko_127 lf_10_56 (by decide) m0_1 r0_1_7 dX10_unlike_53 ?_
          refine wp_getI hb ko_127 lf_10_200 (by decide) m0_66 dX10_unlike_56 ?_
          refine wp_bipush hb (x := nI 24) rfl dX10_unlike_59 ?_
          refine wp_icmp_le hb (t := 67) ⟨rfl, rfl⟩ dX10_unlike_61 ⟨fun c9 => ?_, fun c9 => ?_⟩
          · have hv := hv.1 c9
            refine wp_iconst hb (x := nI 0) rfl dX10_unlike_67 ?_
            refine wp_istore hb rfl dX10_unlike_68 ?_
            refine wp_iconst hb (x := nI 0) rfl dX10_unlike_70 ?_
            refine wp_istore hb rfl dX10_unlike_71 ?_
            exact wp_for (mm_ls_k (mm_ls_f (mm_ls_k (mm_ls_f (mm_ls_k (mm_ls_k mm_ls_nil)))))) hv
          · have hv := hv.2 c9
            refine wp_bipush hb (x := (-3)) rfl dX10_unlike_64 ?_
            exact wp_retI hb rfl dX10_unlike_66 hv
        · have hv := hv.2 c7
          refine wp_bipush hb (x := (-3)) rfl dX10_unlike_40 ?_
          exact wp_retI hb rfl dX10_unlike_42 hv
    · have hv := hv.2 c4
      refine wp_bipush hb (x := (-2)) rfl dX10_unlike_16 ?_
      exact wp_retI hb rfl dX10_unlike_18 hv
set_option maxRecDepth 100000 in
theorem v_X10_unlike_73 {d sn : Nat} {v2 : Int32} {v4 : Int32} {v5 : Int32} {m : mm_Mem} {P : Int32 → mm_Mem → Prop} 
    (hv : ((m.1 66 9 ≤ v5) → (P v4 m)) ∧ (¬ (m.1 66 9 ≤ v5) → (mm_sp d sn kX10_isLikeAnEarlierSolution [.ref 1, .int v2, .int v5] m (qI fun x2 m1 => ((¬ x2 = 0) → (mm_wp d sn kX10_unlike 73 [some (.ref 1), none, some (.int v2), none, some (.int v4), some (.int (v5 + nI 1))] [] m1 (qI P))) ∧ (¬ (¬ x2 = 0) → (mm_wp d sn kX10_unlike 73 [some (.ref 1), none, some (.int v2), none, some (.int (v4 + nI 1)), some (.int (v5 + nI 1))] [] m1 (qI P))))))) :
    mm_wp d sn kX10_unlike 73 [some (.ref 1), none, some (.int v2), none, some (.int v4), some (.int v5)] [] m (qI P) := by
  have hb := mb_127
  refine wp_iload hb rfl dX10_unlike_73 ?_
  refine wp_aload_n hb rfl dX10_unlike_75 ?_
  refine wp_getR hb ko_127 lf_10_56 (by decide) m0_1 r0_1_7 dX10_unlike_76 ?_
  refine wp_getI hb ko_127 lf_10_200 (by decide) m0_66 dX10_unlike_79 ?_
  refine wp_icmp_ge hb (t := 104) ⟨rfl, rfl⟩ dX10_unlike_82 ⟨fun c1 => ?_, fun c1 => ?_⟩
  · have hv := hv.1 c1
    refine wp_iload hb rfl dX10_unlike_104 ?_
    exact wp_retI hb rfl dX10_unlike_106 hv
  · have hv := hv.2 c1
    refine wp_aload_n hb rfl dX10_unlike_85 ?_
    refine wp_iload_n hb rfl dX10_unlike_86 ?_
    refine wp_iload hb rfl dX10_unlike_87 ?_
    refine wp_callV hb (k' := 145) ko_127 lm_10_284 rfl m0_1 (by decide) (Nat.le_of_ble_eq_true rfl) dX10_unlike_89 (sp_cI (hv.I (Nat.le_refl _) ?_))
    intro x2 m1 hv
    refine wp_if_ne hb (y := 0) (t := 98) ⟨rfl, rfl⟩ dX10_unlike_92 ⟨fun c3 => ?_, fun c3 => ?_⟩
    · have hv := hv.1 c3
      refine wp_iinc hb rfl (y := v5 + nI 1) rfl rfl dX10_unlike_98 ?_
      refine wp_goto hb (t := 73) ⟨rfl, rfl⟩ dX10_unlike_101 ?_
      exact wp_for (mm_ls_k (mm_ls_k (mm_ls_k (mm_ls_k (mm_ls_k (mm_ls_k mm_ls_nil)))))) hv
    · have hv := hv.2 c3
      refine wp_iinc hb rfl (y := v4 + nI 1) rfl rfl dX10_unlike_95 ?_
      refine wp_iinc hb rfl (y := v5 + nI 1) rfl rfl dX10_unlike_98 ?_
      refine wp_goto hb (t := 73) ⟨rfl, rfl⟩ dX10_unlike_101 ?_
      exact wp_for (mm_ls_k (mm_ls_k (mm_ls_k (mm_ls_k (mm_ls_k (mm_ls_k mm_ls_nil)))))) hv
set_option maxRecDepth 100000 in
theorem v_X10_lots {d sn : Nat} {v1 : Int32} {v2 : Int32} {v3 : Int32} {v4 : Int32} {m : mm_Mem} {P : Int32 → mm_Mem → Prop} 
    (hv : mm_sp d sn kX6_isSize [.ref 2, .int v1] m (qI fun x1 m1 => ((x1 = 0) → (P (-2) m1)) ∧ (¬ (x1 = 0) → (((v2 < nI 1) → (P (-2) m1)) ∧ (¬ (v2 < nI 1) → (((v2 ≤ nI 20) → (((v4 < 0) → (P (-1) m1)) ∧ (¬ (v4 < 0) → (((v4 ≤ nI 1) → (mm_sp d sn kX5_find [.ref 59, .ref 2] m1 (qV fun m2 => mm_sp d sn kX3_play [.ref 75, .ref 59, .int (m2.1 2 0), .int v1, .int v2, .int v3] m2 (qV fun m3 => ((¬ v4 = 0) → (P (m3.1 75 4) m3)) ∧ (¬ (¬ v4 = 0) → (P (m3.1 75 3) m3)))))) ∧ (¬ (v4 ≤ nI 1) → (P (-1) m1)))))) ∧ (¬ (v2 ≤ nI 20) → (P (-2) m1)))))))) :
    mm_sp (d + 1) sn kX10_lots [.ref 1, .int v1, .int v2, .int v3, .int v4] m (qI P) := by
  have hb := mb_128
  refine wp_in (la := [some (.ref 1), some (.int v1), some (.int v2), some (.int v3), some (.int v4)]) ⟨⟨Nat.le_of_ble_eq_true rfl, by decide, by decide⟩, rfl⟩ ?_
  refine wp_aload_n hb rfl dX10_lots_0 ?_
  refine wp_getR hb ko_128 lf_10_12 (by decide) m0_1 r0_1_0 dX10_lots_1 ?_
  refine wp_iload_n hb rfl dX10_lots_4 ?_
  refine wp_callV hb (k' := 63) ko_128 lm_10_158 rfl m0_2 (by decide) (Nat.le_of_ble_eq_true rfl) dX10_lots_5 (sp_cI (hv.I (Nat.le_refl _) ?_))
  intro x1 m1 hv
  refine wp_if_eq hb (y := 0) (t := 22) ⟨rfl, rfl⟩ dX10_lots_8 ⟨fun c2 => ?_, fun c2 => ?_⟩
  · have hv := hv.1 c2
    refine wp_bipush hb (x := (-2)) rfl dX10_lots_22 ?_
    exact wp_retI hb rfl dX10_lots_24 hv
  · have hv := hv.2 c2
    refine wp_iload_n hb rfl dX10_lots_11 ?_
    refine wp_iconst hb (x := nI 1) rfl dX10_lots_12 ?_
    refine wp_icmp_lt hb (t := 22) ⟨rfl, rfl⟩ dX10_lots_13 ⟨fun c3 => ?_, fun c3 => ?_⟩
    · have hv := hv.1 c3
      refine wp_bipush hb (x := (-2)) rfl dX10_lots_22 ?_
      exact wp_retI hb rfl dX10_lots_24 hv
    · have hv := hv.2 c3
      refine wp_iload_n hb rfl dX10_lots_16 ?_
      refine wp_bipush hb (x := nI 20) rfl dX10_lots_17 ?_
      refine wp_icmp_le hb (t := 25) ⟨rfl, rfl⟩ dX10_lots_19 ⟨fun c4 => ?_, fun c4 => ?_⟩
      · have hv := hv.1 c4
        refine wp_iload hb rfl dX10_lots_25 ?_
        refine wp_if_lt hb (y := 0) (t := 36) ⟨rfl, rfl⟩ dX10_lots_27 ⟨fun c5 => ?_, fun c5 => ?_⟩
        · have hv := hv.1 c5
          refine wp_iconst hb (x := (-1)) rfl dX10_lots_36 ?_
          exact wp_retI hb rfl dX10_lots_37 hv
        · have hv := hv.2 c5
          refine wp_iload hb rfl dX10_lots_30 ?_
          refine wp_iconst hb (x := nI 1) rfl dX10_lots_32 ?_
          refine wp_icmp_le hb (t := 38) ⟨rfl, rfl⟩ dX10_lots_33 ⟨fun c6 => ?_, fun c6 => ?_⟩
          · have hv := hv.1 c6
            refine wp_aload_n hb rfl dX10_lots_38 ?_
            refine wp_getR hb ko_128 lf_10_42 (by decide) m0_1 r0_1_5 dX10_lots_39 ?_
            refine wp_aload_n hb rfl dX10_lots_42 ?_
            refine wp_getR hb ko_128 lf_10_12 (by decide) m0_1 r0_1_0 dX10_lots_43 ?_
            refine wp_callV hb (k' := 48) ko_128 lm_10_161 rfl m0_59 (by decide) (Nat.le_of_ble_eq_true rfl) dX10_lots_46 (sp_cV (hv.V (Nat.le_refl _) ?_))
            intro m2 hv
            refine wp_aload_n hb rfl dX10_lots_49 ?_
            refine wp_getR hb ko_128 lf_10_70 (by decide) m0_1 r0_1_9 dX10_lots_50 ?_
            refine wp_aload_n hb rfl dX10_lots_53 ?_
            refine wp_getR hb ko_128 lf_10_42 (by decide) m0_1 r0_1_5 dX10_lots_54 ?_
            refine wp_aload_n hb rfl dX10_lots_57 ?_
            refine wp_getR hb ko_128 lf_10_12 (by decide) m0_1 r0_1_0 dX10_lots_58 ?_
            refine wp_getI hb ko_128 lf_10_84 (by decide) m0_2 dX10_lots_61 ?_
            refine wp_iload_n hb rfl dX10_lots_64 ?_
            refine wp_iload_n hb rfl dX10_lots_65 ?_
            refine wp_iload_n hb rfl dX10_lots_66 ?_
            refine wp_callV hb (k' := 36) ko_128 lm_10_287 rfl m0_75 (by decide) (Nat.le_of_ble_eq_true rfl) dX10_lots_67 (sp_cV (hv.V (Nat.le_refl _) ?_))
            intro m3 hv
            refine wp_iload hb rfl dX10_lots_70 ?_
            refine wp_if_ne hb (y := 0) (t := 85) ⟨rfl, rfl⟩ dX10_lots_72 ⟨fun c9 => ?_, fun c9 => ?_⟩
            · have hv := hv.1 c9
              refine wp_aload_n hb rfl dX10_lots_85 ?_
              refine wp_getR hb ko_128 lf_10_70 (by decide) m0_1 r0_1_9 dX10_lots_86 ?_
              refine wp_getI hb ko_128 lf_10_294 (by decide) m0_75 dX10_lots_89 ?_
              exact wp_retI hb rfl dX10_lots_92 hv
            · have hv := hv.2 c9
              refine wp_aload_n hb rfl dX10_lots_75 ?_
              refine wp_getR hb ko_128 lf_10_70 (by decide) m0_1 r0_1_9 dX10_lots_76 ?_
              refine wp_getI hb ko_128 lf_10_291 (by decide) m0_75 dX10_lots_79 ?_
              refine wp_goto hb (t := 92) ⟨rfl, rfl⟩ dX10_lots_82 ?_
              exact wp_retI hb rfl dX10_lots_92 hv
          · have hv := hv.2 c6
            refine wp_iconst hb (x := (-1)) rfl dX10_lots_36 ?_
            exact wp_retI hb rfl dX10_lots_37 hv
      · have hv := hv.2 c4
        refine wp_bipush hb (x := (-2)) rfl dX10_lots_22 ?_
        exact wp_retI hb rfl dX10_lots_24 hv
set_option maxRecDepth 100000 in
theorem v_X10_feed {d sn : Nat} {v1 : Int32} {m : mm_Mem} {P : Int32 → mm_Mem → Prop} 
    (hv : ((v1 < 0) → (P (-2) m)) ∧ (¬ (v1 < 0) → (((v1 ≤ nI 127) → (mm_sp d sn kX8_append [.ref 44, .int v1] m (qI fun x3 m1 => ((¬ x3 = 0) → (P (m1.1 44 0) m1)) ∧ (¬ (¬ x3 = 0) → (P (-4) m1))))) ∧ (¬ (v1 ≤ nI 127) → (P (-2) m))))) :
    mm_sp (d + 1) sn kX10_feed [.ref 1, .int v1] m (qI P) := by
  have hb := mb_129
  refine wp_in (la := [some (.ref 1), some (.int v1)]) ⟨⟨Nat.le_of_ble_eq_true rfl, by decide, by decide⟩, rfl⟩ ?_
  refine wp_iload_n hb rfl dX10_feed_0 ?_
  refine wp_if_lt hb (y := 0) (t := 10) ⟨rfl, rfl⟩ dX10_feed_1 ⟨fun c1 => ?_, fun c1 => ?_⟩
  · have hv := hv.1 c1
    refine wp_bipush hb (x := (-2)) rfl dX10_feed_10 ?_
    exact wp_retI hb rfl dX10_feed_12 hv
  · have hv := hv.2 c1
    refine wp_iload_n hb rfl dX10_feed_4 ?_
    refine wp_bipush hb (x := nI 127) rfl dX10_feed_5 ?_
    refine wp_icmp_le hb (t := 13) ⟨rfl, rfl⟩ dX10_feed_7 ⟨fun c2 => ?_, fun c2 => ?_⟩
    · have hv := hv.1 c2
      refine wp_aload_n hb rfl dX10_feed_13 ?_
      refine wp_getR hb ko_129 lf_10_28 (by decide) m0_1 r0_1_3 dX10_feed_14 ?_
      refine wp_iload_n hb rfl dX10_feed_17 ?_
      refine wp_callV hb (k' := 80) ko_129 lm_10_297 rfl m0_44 (by decide) (Nat.le_of_ble_eq_true rfl) dX10_feed_18 (sp_cI (hv.I (Nat.le_refl _) ?_))
      intro x3 m1 hv
      refine wp_if_ne hb (y := 0) (t := 27) ⟨rfl, rfl⟩ dX10_feed_21 ⟨fun c4 => ?_, fun c4 => ?_⟩
      · have hv := hv.1 c4
        refine wp_aload_n hb rfl dX10_feed_27 ?_
        refine wp_getR hb ko_129 lf_10_28 (by decide) m0_1 r0_1_3 dX10_feed_28 ?_
        refine wp_getI hb ko_129 lf_10_300 (by decide) m0_44 dX10_feed_31 ?_
        exact wp_retI hb rfl dX10_feed_34 hv
      · have hv := hv.2 c4
        refine wp_bipush hb (x := (-4)) rfl dX10_feed_24 ?_
        exact wp_retI hb rfl dX10_feed_26 hv
    · have hv := hv.2 c2
      refine wp_bipush hb (x := (-2)) rfl dX10_feed_10 ?_
      exact wp_retI hb rfl dX10_feed_12 hv
set_option maxRecDepth 100000 in
theorem v_X10_read {d sn : Nat} {m : mm_Mem} {P : Int32 → mm_Mem → Prop} 
    (hv : mm_sp d sn kX8_fault [.ref 44] m (qI fun x1 m1 => ((¬ x1 = (-1)) → (∀ m2 : mm_Mem, m2 = (mm_u2 m1.1 44 0 (nI 0), m1.2) → (P ((-10) - x1) m2))) ∧ (¬ (¬ x1 = (-1)) → (mm_sp d sn kX10_doClauses [.ref 1] m1 (qI fun x3 m3 => ∀ m4 : mm_Mem, m4 = (mm_u2 m3.1 44 0 (nI 0), m3.2) → (P x3 m4)))))) :
    mm_sp (d + 1) sn kX10_read [.ref 1] m (qI P) := by
  have hb := mb_130
  refine wp_in (la := [some (.ref 1), none, none]) ⟨⟨Nat.le_of_ble_eq_true rfl, by decide, by decide⟩, rfl⟩ ?_
  refine wp_aload_n hb rfl dX10_read_0 ?_
  refine wp_getR hb ko_130 lf_10_28 (by decide) m0_1 r0_1_3 dX10_read_1 ?_
  refine wp_callV hb (k' := 85) ko_130 lm_10_303 rfl m0_44 (by decide) (Nat.le_of_ble_eq_true rfl) dX10_read_4 (sp_cI (hv.I (Nat.le_refl _) ?_))
  intro x1 m1 hv
  refine wp_istore_n hb rfl dX10_read_7 ?_
  refine wp_iload_n hb rfl dX10_read_8 ?_
  refine wp_iconst hb (x := (-1)) rfl dX10_read_9 ?_
  refine wp_icmp_ne hb (t := 20) ⟨rfl, rfl⟩ dX10_read_10 ⟨fun c2 => ?_, fun c2 => ?_⟩
  · have hv := hv.1 c2
    refine wp_bipush hb (x := (-10)) rfl dX10_read_20 ?_
    refine wp_iload_n hb rfl dX10_read_22 ?_
    refine wp_isub hb dX10_read_23 ?_
    refine wp_istore_n hb rfl dX10_read_24 ?_
    refine wp_aload_n hb rfl dX10_read_25 ?_
    refine wp_getR hb ko_130 lf_10_28 (by decide) m0_1 r0_1_3 dX10_read_26 ?_
    refine wp_iconst hb (x := nI 0) rfl dX10_read_29 ?_
    refine wp_putI hb ko_130 lf_10_300 (by decide) m0_44 dX10_read_30 ?_
    have hv := hv _ rfl
    generalize (mm_u2 m1.1 44 0 (nI 0), m1.2) = m2 at hv ⊢
    refine wp_iload_n hb rfl dX10_read_33 ?_
    exact wp_retI hb rfl dX10_read_34 hv
  · have hv := hv.2 c2
    refine wp_aload_n hb rfl dX10_read_13 ?_
    refine wp_callV hb (k' := 146) ko_130 lm_10_306 rfl m0_1 (by decide) (Nat.le_of_ble_eq_true rfl) dX10_read_14 (sp_cI (hv.I (Nat.le_refl _) ?_))
    intro x3 m3 hv
    refine wp_goto hb (t := 24) ⟨rfl, rfl⟩ dX10_read_17 ?_
    refine wp_istore_n hb rfl dX10_read_24 ?_
    refine wp_aload_n hb rfl dX10_read_25 ?_
    refine wp_getR hb ko_130 lf_10_28 (by decide) m0_1 r0_1_3 dX10_read_26 ?_
    refine wp_iconst hb (x := nI 0) rfl dX10_read_29 ?_
    refine wp_putI hb ko_130 lf_10_300 (by decide) m0_44 dX10_read_30 ?_
    have hv := hv _ rfl
    generalize (mm_u2 m3.1 44 0 (nI 0), m3.2) = m4 at hv ⊢
    refine wp_iload_n hb rfl dX10_read_33 ?_
    exact wp_retI hb rfl dX10_read_34 hv
set_option maxRecDepth 100000 in
theorem v_X10_judge {d sn : Nat} {v1 : Int32} {v2 : Int32} {m : mm_Mem} {P : Int32 → mm_Mem → Prop} 
    (hv : mm_sp d sn kX10_tapeAt [.ref 1, .int v1] m (qR fun x1 m1 => (x1 = none → (P (-1) m1)) ∧ (∀ a2, x1 = some a2 → shT a2 ∧ (((m1.1 a2 0 = (-1)) → (mm_wp d sn kX10_judge 34 [some (.ref 1), none, some (.int v2), some (.ref a2), some (.int (nI 0))] [] m1 (qI P))) ∧ (¬ (m1.1 a2 0 = (-1)) → (((m1.1 a2 0 = nI 1) → (mm_wp d sn kX10_judge 34 [some (.ref 1), none, some (.int v2), some (.ref a2), some (.int (nI 0))] [] m1 (qI P))) ∧ (¬ (m1.1 a2 0 = nI 1) → (P (-12) m1)))))))) :
    mm_sp (d + 1) sn kX10_judge [.ref 1, .int v1, .int v2] m (qI P) := by
  have hb := mb_131
  refine wp_in (la := [some (.ref 1), some (.int v1), some (.int v2), none, none]) ⟨⟨Nat.le_of_ble_eq_true rfl, by decide, by decide⟩, rfl⟩ ?_
  refine wp_aload_n hb rfl dX10_judge_0 ?_
  refine wp_iload_n hb rfl dX10_judge_1 ?_
  refine wp_callV hb (k' := 149) ko_131 lm_10_309 rfl m0_1 (by decide) (Nat.le_of_ble_eq_true rfl) dX10_judge_2 (sp_cR (hv.R (Nat.le_refl _) ?_))
  intro x1 m1 hv
  refine ⟨fun e9 => ?_, fun a9 e9 => ?_⟩
  · have hv := hv.1 e9
    refine wp_astore_nN hb rfl dX10_judge_5 ?_
    refine wp_aload_nN hb rfl dX10_judge_6 ?_
    refine wp_ifnonnullN hb dX10_judge_7 ?_
    refine wp_iconst hb (x := (-1)) rfl dX10_judge_10 ?_
    exact wp_retI hb rfl dX10_judge_11 hv
  · obtain ⟨ha2, hv⟩ := hv.2 a9 e9
    revert hv ha2
    generalize a9 = a2
    intro ha2 hv
    refine wp_astore_n hb rfl dX10_judge_5 ?_
    refine wp_aload_n hb rfl dX10_judge_6 ?_
    refine wp_ifnonnull hb (t := 12) ⟨rfl, rfl⟩ dX10_judge_7 ?_
    refine wp_aload_n hb rfl dX10_judge_12 ?_
    refine wp_getI hb ko_131 lf_10_313 (by decide) (ha2.2.1 _) dX10_judge_13 ?_
    refine wp_iconst hb (x := (-1)) rfl dX10_judge_16 ?_
    refine wp_icmp_eq hb (t := 31) ⟨rfl, rfl⟩ dX10_judge_17 ⟨fun c3 => ?_, fun c3 => ?_⟩
    · have hv := hv.1 c3
      refine wp_iconst hb (x := nI 0) rfl dX10_judge_31 ?_
      refine wp_istore hb rfl dX10_judge_32 ?_
      exact wp_for (mm_ls_k (mm_ls_f (mm_ls_k (mm_ls_k (mm_ls_k mm_ls_nil))))) hv
    · have hv := hv.2 c3
      refine wp_aload_n hb rfl dX10_judge_20 ?_
      refine wp_getI hb ko_131 lf_10_313 (by decide) (ha2.2.1 _) dX10_judge_21 ?_
      refine wp_iconst hb (x := nI 1) rfl dX10_judge_24 ?_
      refine wp_icmp_eq hb (t := 31) ⟨rfl, rfl⟩ dX10_judge_25 ⟨fun c4 => ?_, fun c4 => ?_⟩
      · have hv := hv.1 c4
        refine wp_iconst hb (x := nI 0) rfl dX10_judge_31 ?_
        refine wp_istore hb rfl dX10_judge_32 ?_
        exact wp_for (mm_ls_k (mm_ls_f (mm_ls_k (mm_ls_k (mm_ls_k mm_ls_nil))))) hv
      · have hv := hv.2 c4
        refine wp_bipush hb (x := (-12)) rfl dX10_judge_28 ?_
        exact wp_retI hb rfl dX10_judge_30 hv
set_option maxRecDepth 100000 in
theorem v_X10_judge_34 {d sn : Nat} {v2 : Int32} {a3 : Nat} {v4 : Int32} {m : mm_Mem} {P : Int32 → mm_Mem → Prop} (ha3 : shT a3) 
    (hv : ((m.1 3 1 ≤ v4) → (P (-5) m)) ∧ (¬ (m.1 3 1 ≤ v4) → (((v2 < 0) → (P ((nI 100) + v4) m)) ∧ (¬ (v2 < 0) → (((v4 < (m.1 a3 1) - v2) → (mm_sp d sn kX7_itemAt [.ref a3, .int (v2 + v4)] m (qL fun x4 m1 => mm_sp d sn kX0_setAt [.ref 3, .int v4] m1 (qI fun x5 m2 => ((lg_cmp x4 x5.toInt64 = 0) → (mm_wp d sn kX10_judge 34 [some (.ref 1), none, some (.int v2), some (.ref a3), some (.int (v4 + nI 1))] [] m2 (qI P))) ∧ (¬ (lg_cmp x4 x5.toInt64 = 0) → (P v4 m2)))))) ∧ (¬ (v4 < (m.1 a3 1) - v2) → (P ((nI 100) + v4) m))))))) :
    mm_wp d sn kX10_judge 34 [some (.ref 1), none, some (.int v2), some (.ref a3), some (.int v4)] [] m (qI P) := by
  have hb := mb_131
  refine wp_iload hb rfl dX10_judge_34 ?_
  refine wp_aload_n hb rfl dX10_judge_36 ?_
  refine wp_getR hb ko_131 lf_10_12 (by decide) m0_1 r0_1_0 dX10_judge_37 ?_
  refine wp_getR hb ko_131 lf_10_129 (by decide) m0_2 r0_2_3 dX10_judge_40 ?_
  refine wp_getI hb ko_131 lf_10_219 (by decide) m0_3 dX10_judge_43 ?_
  refine wp_icmp_ge hb (t := 104) ⟨rfl, rfl⟩ dX10_judge_46 ⟨fun c1 => ?_, fun c1 => ?_⟩
  · have hv := hv.1 c1
    refine wp_bipush hb (x := (-5)) rfl dX10_judge_104 ?_
    exact wp_retI hb rfl dX10_judge_106 hv
  · have hv := hv.2 c1
    refine wp_iload_n hb rfl dX10_judge_49 ?_
    refine wp_if_lt hb (y := 0) (t := 64) ⟨rfl, rfl⟩ dX10_judge_50 ⟨fun c2 => ?_, fun c2 => ?_⟩
    · have hv := hv.1 c2
      refine wp_bipush hb (x := nI 100) rfl dX10_judge_64 ?_
      refine wp_iload hb rfl dX10_judge_66 ?_
      refine wp_iadd hb dX10_judge_68 ?_
      exact wp_retI hb rfl dX10_judge_69 hv
    · have hv := hv.2 c2
      refine wp_iload hb rfl dX10_judge_53 ?_
      refine wp_aload_n hb rfl dX10_judge_55 ?_
      refine wp_getI hb ko_131 lf_10_316 (by decide) (ha3.2.1 _) dX10_judge_56 ?_
      refine wp_iload_n hb rfl dX10_judge_59 ?_
      refine wp_isub hb dX10_judge_60 ?_
      refine wp_icmp_lt hb (t := 70) ⟨rfl, rfl⟩ dX10_judge_61 ⟨fun c3 => ?_, fun c3 => ?_⟩
      · have hv := hv.1 c3
        refine wp_aload_n hb rfl dX10_judge_70 ?_
        refine wp_iload_n hb rfl dX10_judge_71 ?_
        refine wp_iload hb rfl dX10_judge_72 ?_
        refine wp_iadd hb dX10_judge_74 ?_
        refine wp_callV hb (k' := 74) ko_131 lm_10_317 rfl (ha3.2.1 _) (by decide) (Nat.le_of_ble_eq_true rfl) dX10_judge_75 (sp_cL (hv.L (Nat.le_refl _) ?_))
        intro x4 m1 hv
        refine wp_aload_n hb rfl dX10_judge_78 ?_
        refine wp_getR hb ko_131 lf_10_12 (by decide) m0_1 r0_1_0 dX10_judge_79 ?_
        refine wp_getR hb ko_131 lf_10_129 (by decide) m0_2 r0_2_3 dX10_judge_82 ?_
        refine wp_iload hb rfl dX10_judge_85 ?_
        refine wp_callV hb (k' := 7) ko_131 lm_10_237 rfl m0_3 (by decide) (Nat.le_of_ble_eq_true rfl) dX10_judge_87 (sp_cI (hv.I (Nat.le_refl _) ?_))
        intro x5 m2 hv
        refine wp_i2l hb dX10_judge_90 ?_
        refine wp_lcmp hb dX10_judge_91 ?_
        refine wp_if_eq hb (y := 0) (t := 98) ⟨rfl, rfl⟩ dX10_judge_92 ⟨fun c6 => ?_, fun c6 => ?_⟩
        · have hv := hv.1 c6
          refine wp_iinc hb rfl (y := v4 + nI 1) rfl rfl dX10_judge_98 ?_
          refine wp_goto hb (t := 34) ⟨rfl, rfl⟩ dX10_judge_101 ?_
          exact wp_for (mm_ls_k (mm_ls_k (mm_ls_k (mm_ls_k (mm_ls_k mm_ls_nil))))) hv
        · have hv := hv.2 c6
          refine wp_iload hb rfl dX10_judge_95 ?_
          exact wp_retI hb rfl dX10_judge_97 hv
      · have hv := hv.2 c3
        refine wp_bipush hb (x := nI 100) rfl dX10_judge_64 ?_
        refine wp_iload hb rfl dX10_judge_66 ?_
        refine wp_iadd hb dX10_judge_68 ?_
        exact wp_retI hb rfl dX10_judge_69 hv
set_option maxRecDepth 100000 in
theorem v_X10_image {d sn : Nat} {m : mm_Mem} {P : Int32 → mm_Mem → Prop} 
    (hv : mm_sp d sn kX6_copyFrom [.ref 23, .ref 2] m (qV fun m1 => ∀ m2 : mm_Mem, m2 = (mm_u2 m1.1 1 2 (nI 1), m1.2) → (P (m2.1 3 1) m2))) :
    mm_sp (d + 1) sn kX10_image [.ref 1] m (qI P) := by
  have hb := mb_132
  refine wp_in (la := [some (.ref 1)]) ⟨⟨Nat.le_of_ble_eq_true rfl, by decide, by decide⟩, rfl⟩ ?_
  refine wp_aload_n hb rfl dX10_image_0 ?_
  refine wp_getR hb ko_132 lf_10_18 (by decide) m0_1 r0_1_1 dX10_image_1 ?_
  refine wp_aload_n hb rfl dX10_image_4 ?_
  refine wp_getR hb ko_132 lf_10_12 (by decide) m0_1 r0_1_0 dX10_image_5 ?_
  refine wp_callV hb (k' := 61) ko_132 lm_10_321 rfl m0_23 (by decide) (Nat.le_of_ble_eq_true rfl) dX10_image_8 (sp_cV (hv.V (Nat.le_refl _) ?_))
  intro m1 hv
  refine wp_aload_n hb rfl dX10_image_11 ?_
  refine wp_iconst hb (x := nI 1) rfl dX10_image_12 ?_
  refine wp_putZ hb ko_132 lf_10_21 (by decide) (by decide) m0_1 dX10_image_13 ?_
  have hv := hv _ rfl
  generalize (mm_u2 m1.1 1 2 (nI 1), m1.2) = m2 at hv ⊢
  refine wp_aload_n hb rfl dX10_image_16 ?_
  refine wp_getR hb ko_132 lf_10_12 (by decide) m0_1 r0_1_0 dX10_image_17 ?_
  refine wp_getR hb ko_132 lf_10_129 (by decide) m0_2 r0_2_3 dX10_image_20 ?_
  refine wp_getI hb ko_132 lf_10_219 (by decide) m0_3 dX10_image_23 ?_
  exact wp_retI hb rfl dX10_image_26 hv
set_option maxRecDepth 100000 in
theorem v_X10_undo {d sn : Nat} {m : mm_Mem} {P : Int32 → mm_Mem → Prop} 
    (hv : ((¬ m.1 1 2 = 0) → (mm_sp d sn kX6_copyFrom [.ref 2, .ref 23] m (qV fun m1 => P (m1.1 3 1) m1))) ∧ (¬ (¬ m.1 1 2 = 0) → (P (-3) m))) :
    mm_sp (d + 1) sn kX10_undo [.ref 1] m (qI P) := by
  have hb := mb_133
  refine wp_in (la := [some (.ref 1)]) ⟨⟨Nat.le_of_ble_eq_true rfl, by decide, by decide⟩, rfl⟩ ?_
  refine wp_aload_n hb rfl dX10_undo_0 ?_
  refine wp_getI hb ko_133 lf_10_21 (by decide) m0_1 dX10_undo_1 ?_
  refine wp_if_ne hb (y := 0) (t := 10) ⟨rfl, rfl⟩ dX10_undo_4 ⟨fun c1 => ?_, fun c1 => ?_⟩
  · have hv := hv.1 c1
    refine wp_aload_n hb rfl dX10_undo_10 ?_
    refine wp_getR hb ko_133 lf_10_12 (by decide) m0_1 r0_1_0 dX10_undo_11 ?_
    refine wp_aload_n hb rfl dX10_undo_14 ?_
    refine wp_getR hb ko_133 lf_10_18 (by decide) m0_1 r0_1_1 dX10_undo_15 ?_
    refine wp_callV hb (k' := 61) ko_133 lm_10_321 rfl m0_2 (by decide) (Nat.le_of_ble_eq_true rfl) dX10_undo_18 (sp_cV (hv.V (Nat.le_refl _) ?_))
    intro m1 hv
    refine wp_aload_n hb rfl dX10_undo_21 ?_
    refine wp_getR hb ko_133 lf_10_12 (by decide) m0_1 r0_1_0 dX10_undo_22 ?_
    refine wp_getR hb ko_133 lf_10_129 (by decide) m0_2 r0_2_3 dX10_undo_25 ?_
    refine wp_getI hb ko_133 lf_10_219 (by decide) m0_3 dX10_undo_28 ?_
    exact wp_retI hb rfl dX10_undo_31 hv
  · have hv := hv.2 c1
    refine wp_bipush hb (x := (-3)) rfl dX10_undo_7 ?_
    exact wp_retI hb rfl dX10_undo_9 hv
set_option maxRecDepth 100000 in
theorem v_X10_count {d sn : Nat} {v1 : Int32} {m : mm_Mem} {P : Int32 → mm_Mem → Prop} 
    (hv : (v1 = nI 0 → (P (m.1 2 0) m)) ∧ (v1 = nI 1 → (P (m.1 2 1) m)) ∧ (v1 = nI 2 → (P (m.1 3 1) m)) ∧ (v1 = nI 3 → (P (m.1 2 2) m)) ∧ (v1 = nI 4 → (P (m.1 44 0) m)) ∧ (¬ v1 = nI 0 → ¬ v1 = nI 1 → ¬ v1 = nI 2 → ¬ v1 = nI 3 → ¬ v1 = nI 4 → (P (-2) m))) :
    mm_sp (d + 1) sn kX10_count [.ref 1, .int v1] m (qI P) := by
  have hb := mb_134
  refine wp_in (la := [some (.ref 1), some (.int v1)]) ⟨⟨Nat.le_of_ble_eq_true rfl, by decide, by decide⟩, rfl⟩ ?_
  refine wp_iload_n hb rfl dX10_count_0 ?_
  by_cases hc : v1.toInt < 0 ∨ 4 < v1.toInt
  · refine wp_tabO hb hc (t := 79) ⟨rfl, rfl⟩ dX10_count_1 ?_
    have hv := hv.2.2.2.2.2 (mm_out hc (by decide) (by decide)) (mm_out hc (by decide) (by decide)) (mm_out hc (by decide) (by decide)) (mm_out hc (by decide) (by decide)) (mm_out hc (by decide) (by decide))
    refine wp_bipush hb (x := (-2)) rfl dX10_count_79 ?_
    exact wp_retI hb rfl dX10_count_81 hv
  · have hx := mm_tabc (n := 5) (lo := 0) (by decide) hc (by decide)
    obtain ⟨j, hj, hx⟩ := hx
    by_cases g0 : j = 0
    · subst g0
      have hv := hv.1 hx
      have hc9 := hc
      rw [hx] at hc9 ⊢
      refine wp_tabI hb (off := 35) hc9 rfl (t := 36) ⟨rfl, rfl⟩ dX10_count_1 ?_
      refine wp_aload_n hb rfl dX10_count_36 ?_
      refine wp_getR hb ko_134 lf_10_12 (by decide) m0_1 r0_1_0 dX10_count_37 ?_
      refine wp_getI hb ko_134 lf_10_84 (by decide) m0_2 dX10_count_40 ?_
      exact wp_retI hb rfl dX10_count_43 hv
    by_cases g1 : j = 1
    · subst g1
      have hv := hv.2.1 hx
      have hc9 := hc
      rw [hx] at hc9 ⊢
      refine wp_tabI hb (off := 43) hc9 rfl (t := 44) ⟨rfl, rfl⟩ dX10_count_1 ?_
      refine wp_aload_n hb rfl dX10_count_44 ?_
      refine wp_getR hb ko_134 lf_10_12 (by decide) m0_1 r0_1_0 dX10_count_45 ?_
      refine wp_getI hb ko_134 lf_10_106 (by decide) m0_2 dX10_count_48 ?_
      exact wp_retI hb rfl dX10_count_51 hv
    by_cases g2 : j = 2
    · subst g2
      have hv := hv.2.2.1 hx
      have hc9 := hc
      rw [hx] at hc9 ⊢
      refine wp_tabI hb (off := 51) hc9 rfl (t := 52) ⟨rfl, rfl⟩ dX10_count_1 ?_
      refine wp_aload_n hb rfl dX10_count_52 ?_
      refine wp_getR hb ko_134 lf_10_12 (by decide) m0_1 r0_1_0 dX10_count_53 ?_
      refine wp_getR hb ko_134 lf_10_129 (by decide) m0_2 r0_2_3 dX10_count_56 ?_
      refine wp_getI hb ko_134 lf_10_219 (by decide) m0_3 dX10_count_59 ?_
      exact wp_retI hb rfl dX10_count_62 hv
    by_cases g3 : j = 3
    · subst g3
      have hv := hv.2.2.2.1 hx
      have hc9 := hc
      rw [hx] at hc9 ⊢
      refine wp_tabI hb (off := 62) hc9 rfl (t := 63) ⟨rfl, rfl⟩ dX10_count_1 ?_
      refine wp_aload_n hb rfl dX10_count_63 ?_
      refine wp_getR hb ko_134 lf_10_12 (by decide) m0_1 r0_1_0 dX10_count_64 ?_
      refine wp_getI hb ko_134 lf_10_269 (by decide) m0_2 dX10_count_67 ?_
      exact wp_retI hb rfl dX10_count_70 hv
    by_cases g4 : j = 4
    · subst g4
      have hv := hv.2.2.2.2.1 hx
      have hc9 := hc
      rw [hx] at hc9 ⊢
      refine wp_tabI hb (off := 70) hc9 rfl (t := 71) ⟨rfl, rfl⟩ dX10_count_1 ?_
      refine wp_aload_n hb rfl dX10_count_71 ?_
      refine wp_getR hb ko_134 lf_10_28 (by decide) m0_1 r0_1_3 dX10_count_72 ?_
      refine wp_getI hb ko_134 lf_10_300 (by decide) m0_44 dX10_count_75 ?_
      exact wp_retI hb rfl dX10_count_78 hv
    omega
set_option maxRecDepth 100000 in
theorem v_X10_tape {d sn : Nat} {v1 : Int32} {v2 : Int32} {v3 : Int32} {m : mm_Mem} {P : Int32 → mm_Mem → Prop} 
    (hv : mm_sp d sn kX10_tapeAt [.ref 1, .int v1] m (qR fun x1 m1 => (x1 = none → (P (-1) m1)) ∧ (∀ a2, x1 = some a2 → shT a2 ∧ (((v2 < (-1)) → (P (-2) m1)) ∧ (¬ (v2 < (-1)) → (((v2 < nI 5) → (((v2 = (-1)) → (((v2 = (-1)) → (((¬ v2 = (-1)) → (mm_sp d sn kX7_become [.ref a2, .int v2, .int v3] m1 (qV fun m2 => P (nI 1) m2))) ∧ (¬ (¬ v2 = (-1)) → (mm_sp d sn kX7_become [.ref a2, .int v2, .int (nI 0)] m1 (qV fun m3 => P (nI 1) m3))))) ∧ (¬ (v2 = (-1)) → (((0 ≤ v3) → (((¬ v2 = (-1)) → (mm_sp d sn kX7_become [.ref a2, .int v2, .int v3] m1 (qV fun m4 => P (nI 1) m4))) ∧ (¬ (¬ v2 = (-1)) → (mm_sp d sn kX7_become [.ref a2, .int v2, .int (nI 0)] m1 (qV fun m5 => P (nI 1) m5))))) ∧ (¬ (0 ≤ v3) → (P (-14) m1)))))) ∧ (¬ (v2 = (-1)) → (((v3 ≤ nI 60) → (((v2 = (-1)) → (((¬ v2 = (-1)) → (mm_sp d sn kX7_become [.ref a2, .int v2, .int v3] m1 (qV fun m6 => P (nI 1) m6))) ∧ (¬ (¬ v2 = (-1)) → (mm_sp d sn kX7_become [.ref a2, .int v2, .int (nI 0)] m1 (qV fun m7 => P (nI 1) m7))))) ∧ (¬ (v2 = (-1)) → (((0 ≤ v3) → (((¬ v2 = (-1)) → (mm_sp d sn kX7_become [.ref a2, .int v2, .int v3] m1 (qV fun m8 => P (nI 1) m8))) ∧ (¬ (¬ v2 = (-1)) → (mm_sp d sn kX7_become [.ref a2, .int v2, .int (nI 0)] m1 (qV fun m9 => P (nI 1) m9))))) ∧ (¬ (0 ≤ v3) → (P (-14) m1)))))) ∧ (¬ (v3 ≤ nI 60) → (P (-2) m1)))))) ∧ (¬ (v2 < nI 5) → (P (-2) m1)))))))) :
    mm_sp (d + 1) sn kX10_tape [.ref 1, .int v1, .int v2, .int v3] m (qI P) := by
  have hb := mb_135
  refine wp_in (la := [some (.ref 1), some (.int v1), some (.int v2), some (.int v3), none]) ⟨⟨Nat.le_of_ble_eq_true rfl, by decide, by decide⟩, rfl⟩ ?_
  refine wp_aload_n hb rfl dX10_tape_0 ?_
  refine wp_iload_n hb rfl dX10_tape_1 ?_
  refine wp_callV hb (k' := 149) ko_135 lm_10_309 rfl m0_1 (by decide) (Nat.le_of_ble_eq_true rfl) dX10_tape_2 (sp_cR (hv.R (Nat.le_refl _) ?_))
  intro x1 m1 hv
  refine ⟨fun e9 => ?_, fun a9 e9 => ?_⟩
  · have hv := hv.1 e9
    refine wp_astoreN hb rfl dX10_tape_5 ?_
    refine wp_aloadN hb rfl dX10_tape_7 ?_
    refine wp_ifnonnullN hb dX10_tape_9 ?_
    refine wp_iconst hb (x := (-1)) rfl dX10_tape_12 ?_
    exact wp_retI hb rfl dX10_tape_13 hv
  · obtain ⟨ha2, hv⟩ := hv.2 a9 e9
    revert hv ha2
    generalize a9 = a2
    intro ha2 hv
    refine wp_astore hb rfl dX10_tape_5 ?_
    refine wp_aload hb rfl dX10_tape_7 ?_
    refine wp_ifnonnull hb (t := 14) ⟨rfl, rfl⟩ dX10_tape_9 ?_
    refine wp_iload_n hb rfl dX10_tape_14 ?_
    refine wp_iconst hb (x := (-1)) rfl dX10_tape_15 ?_
    refine wp_icmp_lt hb (t := 24) ⟨rfl, rfl⟩ dX10_tape_16 ⟨fun c3 => ?_, fun c3 => ?_⟩
    · have hv := hv.1 c3
      refine wp_bipush hb (x := (-2)) rfl dX10_tape_24 ?_
      exact wp_retI hb rfl dX10_tape_26 hv
    · have hv := hv.2 c3
      refine wp_iload_n hb rfl dX10_tape_19 ?_
      refine wp_iconst hb (x := nI 5) rfl dX10_tape_20 ?_
      refine wp_icmp_lt hb (t := 27) ⟨rfl, rfl⟩ dX10_tape_21 ⟨fun c4 => ?_, fun c4 => ?_⟩
      · have hv := hv.1 c4
        refine wp_iload_n hb rfl dX10_tape_27 ?_
        refine wp_iconst hb (x := (-1)) rfl dX10_tape_28 ?_
        refine wp_icmp_eq hb (t := 41) ⟨rfl, rfl⟩ dX10_tape_29 ⟨fun c5 => ?_, fun c5 => ?_⟩
        · have hv := hv.1 c5
          refine wp_iload_n hb rfl dX10_tape_41 ?_
          refine wp_iconst hb (x := (-1)) rfl dX10_tape_42 ?_
          refine wp_icmp_eq hb (t := 53) ⟨rfl, rfl⟩ dX10_tape_43 ⟨fun c6 => ?_, fun c6 => ?_⟩
          · have hv := hv.1 c6
            refine wp_aload hb rfl dX10_tape_53 ?_
            refine wp_iload_n hb rfl dX10_tape_55 ?_
            refine wp_iload_n hb rfl dX10_tape_56 ?_
            refine wp_iconst hb (x := (-1)) rfl dX10_tape_57 ?_
            refine wp_icmp_ne hb (t := 65) ⟨rfl, rfl⟩ dX10_tape_58 ⟨fun c7 => ?_, fun c7 => ?_⟩
            · have hv := hv.1 c7
              refine wp_iload_n hb rfl dX10_tape_65 ?_
              refine wp_callV hb (k' := 72) ko_135 lm_10_323 rfl (ha2.2.1 _) (by decide) (Nat.le_of_ble_eq_true rfl) dX10_tape_66 (sp_cV (hv.V (Nat.le_refl _) ?_))
              intro m2 hv
              refine wp_iconst hb (x := nI 1) rfl dX10_tape_69 ?_
              exact wp_retI hb rfl dX10_tape_70 hv
            · have hv := hv.2 c7
              refine wp_iconst hb (x := nI 0) rfl dX10_tape_61 ?_
              refine wp_goto hb (t := 66) ⟨rfl, rfl⟩ dX10_tape_62 ?_
              refine wp_callV hb (k' := 72) ko_135 lm_10_323 rfl (ha2.2.1 _) (by decide) (Nat.le_of_ble_eq_true rfl) dX10_tape_66 (sp_cV (hv.V (Nat.le_refl _) ?_))
              intro m3 hv
              refine wp_iconst hb (x := nI 1) rfl dX10_tape_69 ?_
              exact wp_retI hb rfl dX10_tape_70 hv
          · have hv := hv.2 c6
            refine wp_iload_n hb rfl dX10_tape_46 ?_
            refine wp_if_ge hb (y := 0) (t := 53) ⟨rfl, rfl⟩ dX10_tape_47 ⟨fun c10 => ?_, fun c10 => ?_⟩
            · have hv := hv.1 c10
              refine wp_aload hb rfl dX10_tape_53 ?_
              refine wp_iload_n hb rfl dX10_tape_55 ?_
              refine wp_iload_n hb rfl dX10_tape_56 ?_
              refine wp_iconst hb (x := (-1)) rfl dX10_tape_57 ?_
              refine wp_icmp_ne hb (t := 65) ⟨rfl, rfl⟩ dX10_tape_58 ⟨fun c11 => ?_, fun c11 => ?_⟩
              · have hv := hv.1 c11
                refine wp_iload_n hb rfl dX10_tape_65 ?_
                refine wp_callV hb (k' := 72) ko_135 lm_10_323 rfl (ha2.2.1 _) (by decide) (Nat.le_of_ble_eq_true rfl) dX10_tape_66 (sp_cV (hv.V (Nat.le_refl _) ?_))
                intro m4 hv
                refine wp_iconst hb (x := nI 1) rfl dX10_tape_69 ?_
                exact wp_retI hb rfl dX10_tape_70 hv
              · have hv := hv.2 c11
                refine wp_iconst hb (x := nI 0) rfl dX10_tape_61 ?_
                refine wp_goto hb (t := 66) ⟨rfl, rfl⟩ dX10_tape_62 ?_
                refine wp_callV hb (k' := 72) ko_135 lm_10_323 rfl (ha2.2.1 _) (by decide) (Nat.le_of_ble_eq_true rfl) dX10_tape_66 (sp_cV (hv.V (Nat.le_refl _) ?_))
                intro m5 hv
                refine wp_iconst hb (x := nI 1) rfl dX10_tape_69 ?_
                exact wp_retI hb rfl dX10_tape_70 hv
            · have hv := hv.2 c10
              refine wp_bipush hb (x := (-14)) rfl dX10_tape_50 ?_
              exact wp_retI hb rfl dX10_tape_52 hv
        · have hv := hv.2 c5
          refine wp_iload_n hb rfl dX10_tape_32 ?_
          refine wp_bipush hb (x := nI 60) rfl dX10_tape_33 ?_
          refine wp_icmp_le hb (t := 41) ⟨rfl, rfl⟩ dX10_tape_35 ⟨fun c14 => ?_, fun c14 => ?_⟩
          · have hv := hv.1 c14
            refine wp_iload_n hb rfl dX10_tape_41 ?_
            refine wp_iconst hb (x := (-1)) rfl dX10_tape_42 ?_
            refine wp_icmp_eq hb (t := 53) ⟨rfl, rfl⟩ dX10_tape_43 ⟨fun c15 => ?_, fun c15 => ?_⟩
            · have hv := hv.1 c15
              refine wp_aload hb rfl dX10_tape_53 ?_
              refine wp_iload_n hb rfl dX10_tape_55 ?_
              refine wp_iload_n hb rfl dX10_tape_56 ?_
              refine wp_iconst hb (x := (-1)) rfl dX10_tape_57 ?_
              refine wp_icmp_ne hb (t := 65) ⟨rfl, rfl⟩ dX10_tape_58 ⟨fun c16 => ?_, fun c16 => ?_⟩
              · have hv := hv.1 c16
                refine wp_iload_n hb rfl dX10_tape_65 ?_
                refine wp_callV hb (k' := 72) ko_135 lm_10_323 rfl (ha2.2.1 _) (by decide) (Nat.le_of_ble_eq_true rfl) dX10_tape_66 (sp_cV (hv.V (Nat.le_refl _) ?_))
                intro m6 hv
                refine wp_iconst hb (x := nI 1) rfl dX10_tape_69 ?_
                exact wp_retI hb rfl dX10_tape_70 hv
              · have hv := hv.2 c16
                refine wp_iconst hb (x := nI 0) rfl dX10_tape_61 ?_
                refine wp_goto hb (t := 66) ⟨rfl, rfl⟩ dX10_tape_62 ?_
                refine wp_callV hb (k' := 72) ko_135 lm_10_323 rfl (ha2.2.1 _) (by decide) (Nat.le_of_ble_eq_true rfl) dX10_tape_66 (sp_cV (hv.V (Nat.le_refl _) ?_))
                intro m7 hv
                refine wp_iconst hb (x := nI 1) rfl dX10_tape_69 ?_
                exact wp_retI hb rfl dX10_tape_70 hv
            · have hv := hv.2 c15
              refine wp_iload_n hb rfl dX10_tape_46 ?_
              refine wp_if_ge hb (y := 0) (t := 53) ⟨rfl, rfl⟩ dX10_tape_47 ⟨fun c19 => ?_, fun c19 => ?_⟩
              · have hv := hv.1 c19
                refine wp_aload hb rfl dX10_tape_53 ?_
                refine wp_iload_n hb rfl dX10_tape_55 ?_
                refine wp_iload_n hb rfl dX10_tape_56 ?_
                refine wp_iconst hb (x := (-1)) rfl dX10_tape_57 ?_
                refine wp_icmp_ne hb (t := 65) ⟨rfl, rfl⟩ dX10_tape_58 ⟨fun c20 => ?_, fun c20 => ?_⟩
                · have hv := hv.1 c20
                  refine wp_iload_n hb rfl dX10_tape_65 ?_
                  refine wp_callV hb (k' := 72) ko_135 lm_10_323 rfl (ha2.2.1 _) (by decide) (Nat.le_of_ble_eq_true rfl) dX10_tape_66 (sp_cV (hv.V (Nat.le_refl _) ?_))
                  intro m8 hv
                  refine wp_iconst hb (x := nI 1) rfl dX10_tape_69 ?_
                  exact wp_retI hb rfl dX10_tape_70 hv
                · have hv := hv.2 c20
                  refine wp_iconst hb (x := nI 0) rfl dX10_tape_61 ?_
                  refine wp_goto hb (t := 66) ⟨rfl, rfl⟩ dX10_tape_62 ?_
                  refine wp_callV hb (k' := 72) ko_135 lm_10_323 rfl (ha2.2.1 _) (by decide) (Nat.le_of_ble_eq_true rfl) dX10_tape_66 (sp_cV (hv.V (Nat.le_refl _) ?_))
                  intro m9 hv
                  refine wp_iconst hb (x := nI 1) rfl dX10_tape_69 ?_
                  exact wp_retI hb rfl dX10_tape_70 hv
              · have hv := hv.2 c19
                refine wp_bipush hb (x := (-14)) rfl dX10_tape_50 ?_
                exact wp_retI hb rfl dX10_tape_52 hv
          · have hv := hv.2 c14
            refine wp_bipush hb (x := (-2)) rfl dX10_tape_38 ?_
            exact wp_retI hb rfl dX10_tape_40 hv
      · have hv := hv.2 c4
        refine wp_bipush hb (x := (-2)) rfl dX10_tape_24 ?_
        exact wp_retI hb rfl dX10_tape_26 hv
set_option maxRecDepth 100000 in
theorem v_X10_item {d sn : Nat} {v1 : Int32} {v2 : Int32} {v3 : Int64} {m : mm_Mem} {P : Int32 → mm_Mem → Prop} 
    (hv : mm_sp d sn kX10_tapeAt [.ref 1, .int v1] m (qR fun x1 m1 => (x1 = none → (P (-1) m1)) ∧ (∀ a2, x1 = some a2 → shT a2 ∧ (((¬ m1.1 a2 0 = (-1)) → (((v2 < 0) → (P (-13) m1)) ∧ (¬ (v2 < 0) → (((v2 < m1.1 a2 1) → (mm_sp d sn kX7_put [.ref a2, .int v2, .long v3] m1 (qV fun m2 => P (nI 1) m2))) ∧ (¬ (v2 < m1.1 a2 1) → (P (-13) m1)))))) ∧ (¬ (¬ m1.1 a2 0 = (-1)) → (P (-11) m1)))))) :
    mm_sp (d + 1) sn kX10_item [.ref 1, .int v1, .int v2, .long v3] m (qI P) := by
  have hb := mb_136
  refine wp_in (la := [some (.ref 1), some (.int v1), some (.int v2), some (.long v3), none, none]) ⟨⟨Nat.le_of_ble_eq_true rfl, by decide, by decide⟩, rfl⟩ ?_
  refine wp_aload_n hb rfl dX10_item_0 ?_
  refine wp_iload_n hb rfl dX10_item_1 ?_
  refine wp_callV hb (k' := 149) ko_136 lm_10_309 rfl m0_1 (by decide) (Nat.le_of_ble_eq_true rfl) dX10_item_2 (sp_cR (hv.R (Nat.le_refl _) ?_))
  intro x1 m1 hv
  refine ⟨fun e9 => ?_, fun a9 e9 => ?_⟩
  · have hv := hv.1 e9
    refine wp_astoreN hb rfl dX10_item_5 ?_
    refine wp_aloadN hb rfl dX10_item_7 ?_
    refine wp_ifnonnullN hb dX10_item_9 ?_
    refine wp_iconst hb (x := (-1)) rfl dX10_item_12 ?_
    exact wp_retI hb rfl dX10_item_13 hv
  · obtain ⟨ha2, hv⟩ := hv.2 a9 e9
    revert hv ha2
    generalize a9 = a2
    intro ha2 hv
    refine wp_astore hb rfl dX10_item_5 ?_
    refine wp_aload hb rfl dX10_item_7 ?_
    refine wp_ifnonnull hb (t := 14) ⟨rfl, rfl⟩ dX10_item_9 ?_
    refine wp_aload hb rfl dX10_item_14 ?_
    refine wp_getI hb ko_136 lf_10_313 (by decide) (ha2.2.1 _) dX10_item_16 ?_
    refine wp_iconst hb (x := (-1)) rfl dX10_item_19 ?_
    refine wp_icmp_ne hb (t := 26) ⟨rfl, rfl⟩ dX10_item_20 ⟨fun c3 => ?_, fun c3 => ?_⟩
    · have hv := hv.1 c3
      refine wp_iload_n hb rfl dX10_item_26 ?_
      refine wp_if_lt hb (y := 0) (t := 39) ⟨rfl, rfl⟩ dX10_item_27 ⟨fun c4 => ?_, fun c4 => ?_⟩
      · have hv := hv.1 c4
        refine wp_bipush hb (x := (-13)) rfl dX10_item_39 ?_
        exact wp_retI hb rfl dX10_item_41 hv
      · have hv := hv.2 c4
        refine wp_iload_n hb rfl dX10_item_30 ?_
        refine wp_aload hb rfl dX10_item_31 ?_
        refine wp_getI hb ko_136 lf_10_316 (by decide) (ha2.2.1 _) dX10_item_33 ?_
        refine wp_icmp_lt hb (t := 42) ⟨rfl, rfl⟩ dX10_item_36 ⟨fun c5 => ?_, fun c5 => ?_⟩
        · have hv := hv.1 c5
          refine wp_aload hb rfl dX10_item_42 ?_
          refine wp_iload_n hb rfl dX10_item_44 ?_
          refine wp_lload_n hb rfl dX10_item_45 ?_
          refine wp_callV hb (k' := 75) ko_136 lm_10_326 rfl (ha2.2.1 _) (by decide) (Nat.le_of_ble_eq_true rfl) dX10_item_46 (sp_cV (hv.V (Nat.le_refl _) ?_))
          intro m2 hv
          refine wp_iconst hb (x := nI 1) rfl dX10_item_49 ?_
          exact wp_retI hb rfl dX10_item_50 hv
        · have hv := hv.2 c5
          refine wp_bipush hb (x := (-13)) rfl dX10_item_39 ?_
          exact wp_retI hb rfl dX10_item_41 hv
    · have hv := hv.2 c3
      refine wp_bipush hb (x := (-11)) rfl dX10_item_23 ?_
      exact wp_retI hb rfl dX10_item_25 hv
set_option maxRecDepth 100000 in
theorem v_X10_peek {d sn : Nat} {v1 : Int32} {v2 : Int32} {m : mm_Mem} {P : Int64 → mm_Mem → Prop} 
    (hv : mm_sp d sn kX10_tapeAt [.ref 1, .int v1] m (qR fun x1 m1 => (x1 = none → (P (-9223372036854775808) m1)) ∧ (∀ a2, x1 = some a2 → shT a2 ∧ (mm_sp d sn kX7_itemAt [.ref a2, .int v2] m1 (qL fun x3 m2 => P x3 m2))))) :
    mm_sp (d + 1) sn kX10_peek [.ref 1, .int v1, .int v2] m (qL P) := by
  have hb := mb_137
  refine wp_in (la := [some (.ref 1), some (.int v1), some (.int v2), none]) ⟨⟨Nat.le_of_ble_eq_true rfl, by decide, by decide⟩, rfl⟩ ?_
  refine wp_aload_n hb rfl dX10_peek_0 ?_
  refine wp_iload_n hb rfl dX10_peek_1 ?_
  refine wp_callV hb (k' := 149) ko_137 lm_10_309 rfl m0_1 (by decide) (Nat.le_of_ble_eq_true rfl) dX10_peek_2 (sp_cR (hv.R (Nat.le_refl _) ?_))
  intro x1 m1 hv
  refine ⟨fun e9 => ?_, fun a9 e9 => ?_⟩
  · have hv := hv.1 e9
    refine wp_astore_nN hb rfl dX10_peek_5 ?_
    refine wp_aload_nN hb rfl dX10_peek_6 ?_
    refine wp_ifnonnullN hb dX10_peek_7 ?_
    refine wp_ldc2 hb (ko_137) (kl_10_329) dX10_peek_10 ?_
    exact wp_retL hb rfl dX10_peek_13 hv
  · obtain ⟨ha2, hv⟩ := hv.2 a9 e9
    revert hv ha2
    generalize a9 = a2
    intro ha2 hv
    refine wp_astore_n hb rfl dX10_peek_5 ?_
    refine wp_aload_n hb rfl dX10_peek_6 ?_
    refine wp_ifnonnull hb (t := 14) ⟨rfl, rfl⟩ dX10_peek_7 ?_
    refine wp_aload_n hb rfl dX10_peek_14 ?_
    refine wp_iload_n hb rfl dX10_peek_15 ?_
    refine wp_callV hb (k' := 74) ko_137 lm_10_317 rfl (ha2.2.1 _) (by decide) (Nat.le_of_ble_eq_true rfl) dX10_peek_16 (sp_cL (hv.L (Nat.le_refl _) ?_))
    intro x3 m2 hv
    exact wp_retL hb rfl dX10_peek_19 hv
set_option maxRecDepth 100000 in
theorem v_X10_shift {d sn : Nat} {v1 : Int32} {v2 : Int32} {v3 : Int32} {v4 : Int32} {v5 : Int32} {m : mm_Mem} {P : Int32 → mm_Mem → Prop} 
    (hv : mm_sp d sn kX10_tapeAt [.ref 1, .int v1] m (qR fun x1 m1 => (x1 = none → (mm_sp d sn kX10_tapeAt [.ref 1, .int v3] m1 (qR fun x2 m2 => (x2 = none → (P (-1) m2)) ∧ (∀ a3, x2 = some a3 → shT a3 ∧ (P (-1) m2))))) ∧ (∀ a4, x1 = some a4 → shT a4 ∧ (mm_sp d sn kX10_tapeAt [.ref 1, .int v3] m1 (qR fun x5 m3 => (x5 = none → (P (-1) m3)) ∧ (∀ a6, x5 = some a6 → shT a6 ∧ (((m3.1 a4 0 = (-1)) → (P (-11) m3)) ∧ (¬ (m3.1 a4 0 = (-1)) → (((¬ m3.1 a6 0 = (-1)) → (((m3.1 a4 0 = m3.1 a6 0) → (mm_sp d sn kX7_hasPlaces [.ref a4, .int v2, .int v5] m3 (qI fun x10 m4 => ((x10 = 0) → (P (-13) m4)) ∧ (¬ (x10 = 0) → (mm_sp d sn kX7_hasPlaces [.ref a6, .int v4, .int v5] m4 (qI fun x12 m5 => ((¬ x12 = 0) → (mm_sp d sn kX7_copyItems [.ref a6, .int v4, .ref a4, .int v2, .int v5] m5 (qV fun m6 => P v5 m6))) ∧ (¬ (¬ x12 = 0) → (P (-13) m5)))))))) ∧ (¬ (m3.1 a4 0 = m3.1 a6 0) → (P (-12) m3)))) ∧ (¬ (¬ m3.1 a6 0 = (-1)) → (P (-11) m3))))))))))) :
    mm_sp (d + 1) sn kX10_shift [.ref 1, .int v1, .int v2, .int v3, .int v4, .int v5] m (qI P) := by
  have hb := mb_138
  refine wp_in (la := [some (.ref 1), some (.int v1), some (.int v2), some (.int v3), some (.int v4), some (.int v5), none, none]) ⟨⟨Nat.le_of_ble_eq_true rfl, by decide, by decide⟩, rfl⟩ ?_
  refine wp_aload_n hb rfl dX10_shift_0 ?_
  refine wp_iload_n hb rfl dX10_shift_1 ?_
  refine wp_callV hb (k' := 149) ko_138 lm_10_309 rfl m0_1 (by decide) (Nat.le_of_ble_eq_true rfl) dX10_shift_2 (sp_cR (hv.R (Nat.le_refl _) ?_))
  intro x1 m1 hv
  refine ⟨fun e9 => ?_, fun a9 e9 => ?_⟩
  · have hv := hv.1 e9
    refine wp_astoreN hb rfl dX10_shift_5 ?_
    refine wp_aload_n hb rfl dX10_shift_7 ?_
    refine wp_iload_n hb rfl dX10_shift_8 ?_
    refine wp_callV hb (k' := 149) ko_138 lm_10_309 rfl m0_1 (by decide) (Nat.le_of_ble_eq_true rfl) dX10_shift_9 (sp_cR (hv.R (Nat.le_refl _) ?_))
    intro x2 m2 hv
    refine ⟨fun e9 => ?_, fun a9 e9 => ?_⟩
    · have hv := hv.1 e9
      refine wp_astoreN hb rfl dX10_shift_12 ?_
      refine wp_aloadN hb rfl dX10_shift_14 ?_
      refine wp_ifnullN hb (t := 24) ⟨rfl, rfl⟩ dX10_shift_16 ?_
      refine wp_iconst hb (x := (-1)) rfl dX10_shift_24 ?_
      exact wp_retI hb rfl dX10_shift_25 hv
    · obtain ⟨ha3, hv⟩ := hv.2 a9 e9
      revert hv ha3
      generalize a9 = a3
      intro ha3 hv
      refine wp_astore hb rfl dX10_shift_12 ?_
      refine wp_aloadN hb rfl dX10_shift_14 ?_
      refine wp_ifnullN hb (t := 24) ⟨rfl, rfl⟩ dX10_shift_16 ?_
      refine wp_iconst hb (x := (-1)) rfl dX10_shift_24 ?_
      exact wp_retI hb rfl dX10_shift_25 hv
  · obtain ⟨ha4, hv⟩ := hv.2 a9 e9
    revert hv ha4
    generalize a9 = a4
    intro ha4 hv
    refine wp_astore hb rfl dX10_shift_5 ?_
    refine wp_aload_n hb rfl dX10_shift_7 ?_
    refine wp_iload_n hb rfl dX10_shift_8 ?_
    refine wp_callV hb (k' := 149) ko_138 lm_10_309 rfl m0_1 (by decide) (Nat.le_of_ble_eq_true rfl) dX10_shift_9 (sp_cR (hv.R (Nat.le_refl _) ?_))
    intro x5 m3 hv
    refine ⟨fun e9 => ?_, fun a9 e9 => ?_⟩
    · have hv := hv.1 e9
      refine wp_astoreN hb rfl dX10_shift_12 ?_
      refine wp_aload hb rfl dX10_shift_14 ?_
      refine wp_ifnull hb dX10_shift_16 ?_
      refine wp_aloadN hb rfl dX10_shift_19 ?_
      refine wp_ifnonnullN hb dX10_shift_21 ?_
      refine wp_iconst hb (x := (-1)) rfl dX10_shift_24 ?_
      exact wp_retI hb rfl dX10_shift_25 hv
    · obtain ⟨ha6, hv⟩ := hv.2 a9 e9
      revert hv ha6
      generalize a9 = a6
      intro ha6 hv
      refine wp_astore hb rfl dX10_shift_12 ?_
      refine wp_aload hb rfl dX10_shift_14 ?_
      refine wp_ifnull hb dX10_shift_16 ?_
      refine wp_aload hb rfl dX10_shift_19 ?_
      refine wp_ifnonnull hb (t := 26) ⟨rfl, rfl⟩ dX10_shift_21 ?_
      refine wp_aload hb rfl dX10_shift_26 ?_
      refine wp_getI hb ko_138 lf_10_313 (by decide) (ha4.2.1 _) dX10_shift_28 ?_
      refine wp_iconst hb (x := (-1)) rfl dX10_shift_31 ?_
      refine wp_icmp_eq hb (t := 44) ⟨rfl, rfl⟩ dX10_shift_32 ⟨fun c7 => ?_, fun c7 => ?_⟩
      · have hv := hv.1 c7
        refine wp_bipush hb (x := (-11)) rfl dX10_shift_44 ?_
        exact wp_retI hb rfl dX10_shift_46 hv
      · have hv := hv.2 c7
        refine wp_aload hb rfl dX10_shift_35 ?_
        refine wp_getI hb ko_138 lf_10_313 (by decide) (ha6.2.1 _) dX10_shift_37 ?_
        refine wp_iconst hb (x := (-1)) rfl dX10_shift_40 ?_
        refine wp_icmp_ne hb (t := 47) ⟨rfl, rfl⟩ dX10_shift_41 ⟨fun c8 => ?_, fun c8 => ?_⟩
        · have hv := hv.1 c8
          refine wp_aload hb rfl dX10_shift_47 ?_
          refine wp_getI hb ko_138 lf_10_313 (by decide) (ha4.2.1 _) dX10_shift_49 ?_
          refine wp_aload hb rfl dX10_shift_52 ?_
          refine wp_getI hb ko_138 lf_10_313 (by decide) (ha6.2.1 _) dX10_shift_54 ?_
          refine wp_icmp_eq hb (t := 63) ⟨rfl, rfl⟩ dX10_shift_57 ⟨fun c9 => ?_, fun c9 => ?_⟩
          · have hv := hv.1 c9
            refine wp_aload hb rfl dX10_shift_63 ?_
            refine wp_iload_n hb rfl dX10_shift_65 ?_
            refine wp_iload hb rfl dX10_shift_66 ?_
            refine wp_callV hb (k' := 77) ko_138 lm_10_331 rfl (ha4.2.1 _) (by decide) (Nat.le_of_ble_eq_true rfl) dX10_shift_68 (sp_cI (hv.I (Nat.le_refl _) ?_))
            intro x10 m4 hv
            refine wp_if_eq hb (y := 0) (t := 86) ⟨rfl, rfl⟩ dX10_shift_71 ⟨fun c11 => ?_, fun c11 => ?_⟩
            · have hv := hv.1 c11
              refine wp_bipush hb (x := (-13)) rfl dX10_shift_86 ?_
              exact wp_retI hb rfl dX10_shift_88 hv
            · have hv := hv.2 c11
              refine wp_aload hb rfl dX10_shift_74 ?_
              refine wp_iload hb rfl dX10_shift_76 ?_
              refine wp_iload hb rfl dX10_shift_78 ?_
              refine wp_callV hb (k' := 77) ko_138 lm_10_331 rfl (ha6.2.1 _) (by decide) (Nat.le_of_ble_eq_true rfl) dX10_shift_80 (sp_cI (hv.I (Nat.le_refl _) ?_))
              intro x12 m5 hv
              refine wp_if_ne hb (y := 0) (t := 89) ⟨rfl, rfl⟩ dX10_shift_83 ⟨fun c13 => ?_, fun c13 => ?_⟩
              · have hv := hv.1 c13
                refine wp_aload hb rfl dX10_shift_89 ?_
                refine wp_iload hb rfl dX10_shift_91 ?_
                refine wp_aload hb rfl dX10_shift_93 ?_
                refine wp_iload_n hb rfl dX10_shift_95 ?_
                refine wp_iload hb rfl dX10_shift_96 ?_
                refine wp_callV hb (k' := 78) ko_138 lm_10_334 rfl (ha6.2.1 _) (by decide) (Nat.le_of_ble_eq_true rfl) dX10_shift_98 (sp_cV (hv.V (Nat.le_refl _) ?_))
                intro m6 hv
                refine wp_iload hb rfl dX10_shift_101 ?_
                exact wp_retI hb rfl dX10_shift_103 hv
              · have hv := hv.2 c13
                refine wp_bipush hb (x := (-13)) rfl dX10_shift_86 ?_
                exact wp_retI hb rfl dX10_shift_88 hv
          · have hv := hv.2 c9
            refine wp_bipush hb (x := (-12)) rfl dX10_shift_60 ?_
            exact wp_retI hb rfl dX10_shift_62 hv
        · have hv := hv.2 c8
          refine wp_bipush hb (x := (-11)) rfl dX10_shift_44 ?_
          exact wp_retI hb rfl dX10_shift_46 hv
set_option maxRecDepth 100000 in
theorem v_X10_areSizes {d sn : Nat} {v1 : Int32} {v2 : Int32} {m : mm_Mem} {P : Int32 → mm_Mem → Prop} 
    (hv : mm_sp d sn kX6_isSize [.ref 2, .int v1] m (qI fun x1 m1 => ((x1 = 0) → (P (nI 0) m1)) ∧ (¬ (x1 = 0) → (mm_sp d sn kX6_isSize [.ref 2, .int v2] m1 (qI fun x3 m2 => ((x3 = 0) → (P (nI 0) m2)) ∧ (¬ (x3 = 0) → (((v2 < v1) → (P (nI 0) m2)) ∧ (¬ (v2 < v1) → (P (nI 1) m2))))))))) :
    mm_sp (d + 1) sn kX10_areSizes [.ref 1, .int v1, .int v2] m (qI P) := by
  have hb := mb_139
  refine wp_in (la := [some (.ref 1), some (.int v1), some (.int v2)]) ⟨⟨Nat.le_of_ble_eq_true rfl, by decide, by decide⟩, rfl⟩ ?_
  refine wp_aload_n hb rfl dX10_areSizes_0 ?_
  refine wp_getR hb ko_139 lf_10_12 (by decide) m0_1 r0_1_0 dX10_areSizes_1 ?_
  refine wp_iload_n hb rfl dX10_areSizes_4 ?_
  refine wp_callV hb (k' := 63) ko_139 lm_10_158 rfl m0_2 (by decide) (Nat.le_of_ble_eq_true rfl) dX10_areSizes_5 (sp_cI (hv.I (Nat.le_refl _) ?_))
  intro x1 m1 hv
  refine wp_if_eq hb (y := 0) (t := 31) ⟨rfl, rfl⟩ dX10_areSizes_8 ⟨fun c2 => ?_, fun c2 => ?_⟩
  · have hv := hv.1 c2
    refine wp_iconst hb (x := nI 0) rfl dX10_areSizes_31 ?_
    exact wp_retZ hb rfl (by decide) dX10_areSizes_32 hv
  · have hv := hv.2 c2
    refine wp_aload_n hb rfl dX10_areSizes_11 ?_
    refine wp_getR hb ko_139 lf_10_12 (by decide) m0_1 r0_1_0 dX10_areSizes_12 ?_
    refine wp_iload_n hb rfl dX10_areSizes_15 ?_
    refine wp_callV hb (k' := 63) ko_139 lm_10_158 rfl m0_2 (by decide) (Nat.le_of_ble_eq_true rfl) dX10_areSizes_16 (sp_cI (hv.I (Nat.le_refl _) ?_))
    intro x3 m2 hv
    refine wp_if_eq hb (y := 0) (t := 31) ⟨rfl, rfl⟩ dX10_areSizes_19 ⟨fun c4 => ?_, fun c4 => ?_⟩
    · have hv := hv.1 c4
      refine wp_iconst hb (x := nI 0) rfl dX10_areSizes_31 ?_
      exact wp_retZ hb rfl (by decide) dX10_areSizes_32 hv
    · have hv := hv.2 c4
      refine wp_iload_n hb rfl dX10_areSizes_22 ?_
      refine wp_iload_n hb rfl dX10_areSizes_23 ?_
      refine wp_icmp_gt hb (t := 31) ⟨rfl, rfl⟩ dX10_areSizes_24 ⟨fun c5 => ?_, fun c5 => ?_⟩
      · have hv := hv.1 c5
        refine wp_iconst hb (x := nI 0) rfl dX10_areSizes_31 ?_
        exact wp_retZ hb rfl (by decide) dX10_areSizes_32 hv
      · have hv := hv.2 c5
        refine wp_iconst hb (x := nI 1) rfl dX10_areSizes_27 ?_
        refine wp_goto hb (t := 32) ⟨rfl, rfl⟩ dX10_areSizes_28 ?_
        exact wp_retZ hb rfl (by decide) dX10_areSizes_32 hv
set_option maxRecDepth 100000 in
theorem v_X10_isAim {d sn : Nat} {v0 : Int32} {m : mm_Mem} {P : Int32 → mm_Mem → Prop} 
    (hv : ((v0 < nI 1) → (P (nI 0) m)) ∧ (¬ (v0 < nI 1) → (((nI 70 < v0) → (P (nI 0) m)) ∧ (¬ (nI 70 < v0) → (P (nI 1) m))))) :
    mm_sp (d + 1) sn kX10_isAim [.int v0] m (qI P) := by
  have hb := mb_140
  refine wp_in (la := [some (.int v0)]) ⟨⟨Nat.le_of_ble_eq_true rfl, by decide, by decide⟩, rfl⟩ ?_
  refine wp_iload_n hb rfl dX10_isAim_0 ?_
  refine wp_iconst hb (x := nI 1) rfl dX10_isAim_1 ?_
  refine wp_icmp_lt hb (t := 15) ⟨rfl, rfl⟩ dX10_isAim_2 ⟨fun c1 => ?_, fun c1 => ?_⟩
  · have hv := hv.1 c1
    refine wp_iconst hb (x := nI 0) rfl dX10_isAim_15 ?_
    exact wp_retZ hb rfl (by decide) dX10_isAim_16 hv
  · have hv := hv.2 c1
    refine wp_iload_n hb rfl dX10_isAim_5 ?_
    refine wp_bipush hb (x := nI 70) rfl dX10_isAim_6 ?_
    refine wp_icmp_gt hb (t := 15) ⟨rfl, rfl⟩ dX10_isAim_8 ⟨fun c2 => ?_, fun c2 => ?_⟩
    · have hv := hv.1 c2
      refine wp_iconst hb (x := nI 0) rfl dX10_isAim_15 ?_
      exact wp_retZ hb rfl (by decide) dX10_isAim_16 hv
    · have hv := hv.2 c2
      refine wp_iconst hb (x := nI 1) rfl dX10_isAim_11 ?_
      refine wp_goto hb (t := 16) ⟨rfl, rfl⟩ dX10_isAim_12 ?_
      exact wp_retZ hb rfl (by decide) dX10_isAim_16 hv
set_option maxRecDepth 100000 in
theorem v_X10_hasBitsFrom {d sn : Nat} {v0 : Int32} {v1 : Int32} {m : mm_Mem} {P : Int32 → mm_Mem → Prop} 
    (hv : ((nI 31 ≤ v1) → (P (nI 0) m)) ∧ (¬ (nI 31 ≤ v1) → (((mm_shr v0 v1 = 0) → (P (nI 0) m)) ∧ (¬ (mm_shr v0 v1 = 0) → (P (nI 1) m))))) :
    mm_sp (d + 1) sn kX10_hasBitsFrom [.int v0, .int v1] m (qI P) := by
  have hb := mb_141
  refine wp_in (la := [some (.int v0), some (.int v1)]) ⟨⟨Nat.le_of_ble_eq_true rfl, by decide, by decide⟩, rfl⟩ ?_
  refine wp_iload_n hb rfl dX10_hasBitsFrom_0 ?_
  refine wp_bipush hb (x := nI 31) rfl dX10_hasBitsFrom_1 ?_
  refine wp_icmp_ge hb (t := 16) ⟨rfl, rfl⟩ dX10_hasBitsFrom_3 ⟨fun c1 => ?_, fun c1 => ?_⟩
  · have hv := hv.1 c1
    refine wp_iconst hb (x := nI 0) rfl dX10_hasBitsFrom_16 ?_
    exact wp_retZ hb rfl (by decide) dX10_hasBitsFrom_17 hv
  · have hv := hv.2 c1
    refine wp_iload_n hb rfl dX10_hasBitsFrom_6 ?_
    refine wp_iload_n hb rfl dX10_hasBitsFrom_7 ?_
    refine wp_ishr hb dX10_hasBitsFrom_8 ?_
    refine wp_if_eq hb (y := 0) (t := 16) ⟨rfl, rfl⟩ dX10_hasBitsFrom_9 ⟨fun c2 => ?_, fun c2 => ?_⟩
    · have hv := hv.1 c2
      refine wp_iconst hb (x := nI 0) rfl dX10_hasBitsFrom_16 ?_
      exact wp_retZ hb rfl (by decide) dX10_hasBitsFrom_17 hv
    · have hv := hv.2 c2
      refine wp_iconst hb (x := nI 1) rfl dX10_hasBitsFrom_12 ?_
      refine wp_goto hb (t := 17) ⟨rfl, rfl⟩ dX10_hasBitsFrom_13 ?_
      exact wp_retZ hb rfl (by decide) dX10_hasBitsFrom_17 hv
set_option maxRecDepth 100000 in
theorem v_X10_haveDivisorInCommon {d sn : Nat} {v0 : Int32} {v1 : Int32} {m : mm_Mem} {P : Int32 → mm_Mem → Prop} 
    (hv : mm_wp d sn kX10_haveDivisorInCommon 2 [some (.int v0), some (.int v1), some (.int (nI 2))] [] m (qI P)) :
    mm_sp (d + 1) sn kX10_haveDivisorInCommon [.int v0, .int v1] m (qI P) := by
  have hb := mb_142
  refine wp_in (la := [some (.int v0), some (.int v1), none]) ⟨⟨Nat.le_of_ble_eq_true rfl, by decide, by decide⟩, rfl⟩ ?_
  refine wp_iconst hb (x := nI 2) rfl dX10_haveDivisorInCommon_0 ?_
  refine wp_istore_n hb rfl dX10_haveDivisorInCommon_1 ?_
  exact wp_for (mm_ls_k (mm_ls_k (mm_ls_k mm_ls_nil))) hv
set_option maxRecDepth 100000 in
theorem v_X10_haveDivisorInCommon_2 {d sn : Nat} {v0 : Int32} {v1 : Int32} {v2 : Int32} {m : mm_Mem} {P : Int32 → mm_Mem → Prop} 
    (hv : ((v1 < v2) → (P (nI 0) m)) ∧ (¬ (v1 < v2) → ((¬ v2 = 0) ∧ (((¬ mm_rem v0 v2 = 0) → (mm_wp d sn kX10_haveDivisorInCommon 2 [some (.int v0), some (.int v1), some (.int (v2 + nI 1))] [] m (qI P))) ∧ (¬ (¬ mm_rem v0 v2 = 0) → ((¬ v2 = 0) ∧ (((¬ mm_rem v1 v2 = 0) → (mm_wp d sn kX10_haveDivisorInCommon 2 [some (.int v0), some (.int v1), some (.int (v2 + nI 1))] [] m (qI P))) ∧ (¬ (¬ mm_rem v1 v2 = 0) → (P (nI 1) m))))))))) :
    mm_wp d sn kX10_haveDivisorInCommon 2 [some (.int v0), some (.int v1), some (.int v2)] [] m (qI P) := by
  have hb := mb_142
  refine wp_iload_n hb rfl dX10_haveDivisorInCommon_2 ?_
  refine wp_iload_n hb rfl dX10_haveDivisorInCommon_3 ?_
  refine wp_icmp_gt hb (t := 27) ⟨rfl, rfl⟩ dX10_haveDivisorInCommon_4 ⟨fun c1 => ?_, fun c1 => ?_⟩
  · have hv := hv.1 c1
    refine wp_iconst hb (x := nI 0) rfl dX10_haveDivisorInCommon_27 ?_
    exact wp_retZ hb rfl (by decide) dX10_haveDivisorInCommon_28 hv
  · have hv := hv.2 c1
    refine wp_iload_n hb rfl dX10_haveDivisorInCommon_7 ?_
    refine wp_iload_n hb rfl dX10_haveDivisorInCommon_8 ?_
    obtain ⟨q2, hv⟩ := hv
    refine wp_irem hb q2 dX10_haveDivisorInCommon_9 ?_
    refine wp_if_ne hb (y := 0) (t := 21) ⟨rfl, rfl⟩ dX10_haveDivisorInCommon_10 ⟨fun c3 => ?_, fun c3 => ?_⟩
    · have hv := hv.1 c3
      refine wp_iinc hb rfl (y := v2 + nI 1) rfl rfl dX10_haveDivisorInCommon_21 ?_
      refine wp_goto hb (t := 2) ⟨rfl, rfl⟩ dX10_haveDivisorInCommon_24 ?_
      exact wp_for (mm_ls_k (mm_ls_k (mm_ls_k mm_ls_nil))) hv
    · have hv := hv.2 c3
      refine wp_iload_n hb rfl dX10_haveDivisorInCommon_13 ?_
      refine wp_iload_n hb rfl dX10_haveDivisorInCommon_14 ?_
      obtain ⟨q4, hv⟩ := hv
      refine wp_irem hb q4 dX10_haveDivisorInCommon_15 ?_
      refine wp_if_ne hb (y := 0) (t := 21) ⟨rfl, rfl⟩ dX10_haveDivisorInCommon_16 ⟨fun c5 => ?_, fun c5 => ?_⟩
      · have hv := hv.1 c5
        refine wp_iinc hb rfl (y := v2 + nI 1) rfl rfl dX10_haveDivisorInCommon_21 ?_
        refine wp_goto hb (t := 2) ⟨rfl, rfl⟩ dX10_haveDivisorInCommon_24 ?_
        exact wp_for (mm_ls_k (mm_ls_k (mm_ls_k mm_ls_nil))) hv
      · have hv := hv.2 c5
        refine wp_iconst hb (x := nI 1) rfl dX10_haveDivisorInCommon_19 ?_
        exact wp_retZ hb rfl (by decide) dX10_haveDivisorInCommon_20 hv
set_option maxRecDepth 100000 in
theorem v_X10_isArrangement {d sn : Nat} {v0 : Int32} {v1 : Int32} {m : mm_Mem} {P : Int32 → mm_Mem → Prop} 
    (hv : mm_wp d sn kX10_isArrangement 7 [none, some (.int v1), some (.int v0), some (.int (nI 0)), some (.int (nI 0)), none] [] m (qI P)) :
    mm_sp (d + 1) sn kX10_isArrangement [.int v0, .int v1] m (qI P) := by
  have hb := mb_143
  refine wp_in (la := [some (.int v0), some (.int v1), none, none, none, none]) ⟨⟨Nat.le_of_ble_eq_true rfl, by decide, by decide⟩, rfl⟩ ?_
  refine wp_iload_n hb rfl dX10_isArrangement_0 ?_
  refine wp_istore_n hb rfl dX10_isArrangement_1 ?_
  refine wp_iconst hb (x := nI 0) rfl dX10_isArrangement_2 ?_
  refine wp_istore_n hb rfl dX10_isArrangement_3 ?_
  refine wp_iconst hb (x := nI 0) rfl dX10_isArrangement_4 ?_
  refine wp_istore hb rfl dX10_isArrangement_5 ?_
  exact wp_for (mm_ls_f (mm_ls_k (mm_ls_k (mm_ls_k (mm_ls_k (mm_ls_k mm_ls_nil)))))) hv
set_option maxRecDepth 100000 in
theorem v_X10_isArrangement_7 {d sn : Nat} {v1 : Int32} {v2 : Int32} {v3 : Int32} {v4 : Int32} {m : mm_Mem} {P : Int32 → mm_Mem → Prop} 
    (hv : ((v1 ≤ v4) → (((¬ v2 = 0) → (P (nI 0) m)) ∧ (¬ (¬ v2 = 0) → (mm_sp d sn kJ6_bitCount_0f7a4 [.int v3] m (qI fun x3 m1 => ((¬ x3 = v1) → (P (nI 0) m1)) ∧ (¬ (¬ x3 = v1) → (P (nI 1) m1))))))) ∧ (¬ (v1 ≤ v4) → (((mm_rem v2 (nI 10) < nI 1) → (P (nI 0) m)) ∧ (¬ (mm_rem v2 (nI 10) < nI 1) → (((mm_rem v2 (nI 10) ≤ v1) → (mm_wp d sn kX10_isArrangement 7 [none, some (.int v1), some (.int (v2 / (nI 10))), some (.int (v3 ||| (mm_shl (nI 1) (mm_rem v2 (nI 10))))), some (.int (v4 + nI 1)), none] [] m (qI P))) ∧ (¬ (mm_rem v2 (nI 10) ≤ v1) → (P (nI 0) m))))))) :
    mm_wp d sn kX10_isArrangement 7 [none, some (.int v1), some (.int v2), some (.int v3), some (.int v4), none] [] m (qI P) := by
  have hb := mb_143
  refine wp_iload hb rfl dX10_isArrangement_7 ?_
  refine wp_iload_n hb rfl dX10_isArrangement_9 ?_
  refine wp_icmp_ge hb (t := 51) ⟨rfl, rfl⟩ dX10_isArrangement_10 ⟨fun c1 => ?_, fun c1 => ?_⟩
  · have hv := hv.1 c1
    refine wp_iload_n hb rfl dX10_isArrangement_51 ?_
    refine wp_if_ne hb (y := 0) (t := 67) ⟨rfl, rfl⟩ dX10_isArrangement_52 ⟨fun c2 => ?_, fun c2 => ?_⟩
    · have hv := hv.1 c2
      refine wp_iconst hb (x := nI 0) rfl dX10_isArrangement_67 ?_
      exact wp_retZ hb rfl (by decide) dX10_isArrangement_68 hv
    · have hv := hv.2 c2
      refine wp_iload_n hb rfl dX10_isArrangement_55 ?_
      refine wp_callS hb (k' := 227) ko_143 lm_10_222 (by decide) rfl (Nat.le_of_ble_eq_true rfl) dX10_isArrangement_56 (sp_cI (hv.I (Nat.le_refl _) ?_))
      intro x3 m1 hv
      refine wp_iload_n hb rfl dX10_isArrangement_59 ?_
      refine wp_icmp_ne hb (t := 67) ⟨rfl, rfl⟩ dX10_isArrangement_60 ⟨fun c4 => ?_, fun c4 => ?_⟩
      · have hv := hv.1 c4
        refine wp_iconst hb (x := nI 0) rfl dX10_isArrangement_67 ?_
        exact wp_retZ hb rfl (by decide) dX10_isArrangement_68 hv
      · have hv := hv.2 c4
        refine wp_iconst hb (x := nI 1) rfl dX10_isArrangement_63 ?_
        refine wp_goto hb (t := 68) ⟨rfl, rfl⟩ dX10_isArrangement_64 ?_
        exact wp_retZ hb rfl (by decide) dX10_isArrangement_68 hv
  · have hv := hv.2 c1
    refine wp_iload_n hb rfl dX10_isArrangement_13 ?_
    refine wp_bipush hb (x := nI 10) rfl dX10_isArrangement_14 ?_
    refine wp_irem hb (by decide) dX10_isArrangement_16 ?_
    refine wp_istore hb rfl dX10_isArrangement_17 ?_
    refine wp_iload hb rfl dX10_isArrangement_19 ?_
    refine wp_iconst hb (x := nI 1) rfl dX10_isArrangement_21 ?_
    refine wp_icmp_lt hb (t := 31) ⟨rfl, rfl⟩ dX10_isArrangement_22 ⟨fun c5 => ?_, fun c5 => ?_⟩
    · have hv := hv.1 c5
      refine wp_iconst hb (x := nI 0) rfl dX10_isArrangement_31 ?_
      exact wp_retZ hb rfl (by decide) dX10_isArrangement_32 hv
    · have hv := hv.2 c5
      refine wp_iload hb rfl dX10_isArrangement_25 ?_
      refine wp_iload_n hb rfl dX10_isArrangement_27 ?_
      refine wp_icmp_le hb (t := 33) ⟨rfl, rfl⟩ dX10_isArrangement_28 ⟨fun c6 => ?_, fun c6 => ?_⟩
      · have hv := hv.1 c6
        refine wp_iload_n hb rfl dX10_isArrangement_33 ?_
        refine wp_iconst hb (x := nI 1) rfl dX10_isArrangement_34 ?_
        refine wp_iload hb rfl dX10_isArrangement_35 ?_
        refine wp_ishl hb dX10_isArrangement_37 ?_
        refine wp_ior hb dX10_isArrangement_38 ?_
        refine wp_istore_n hb rfl dX10_isArrangement_39 ?_
        refine wp_iload_n hb rfl dX10_isArrangement_40 ?_
        refine wp_bipush hb (x := nI 10) rfl dX10_isArrangement_41 ?_
        refine wp_idiv hb (by decide) dX10_isArrangement_43 ?_
        refine wp_istore_n hb rfl dX10_isArrangement_44 ?_
        refine wp_iinc hb rfl (y := v4 + nI 1) rfl rfl dX10_isArrangement_45 ?_
        refine wp_goto hb (t := 7) ⟨rfl, rfl⟩ dX10_isArrangement_48 ?_
        exact wp_for (mm_ls_k (mm_ls_k (mm_ls_k (mm_ls_k (mm_ls_k (mm_ls_f mm_ls_nil)))))) hv
      · have hv := hv.2 c6
        refine wp_iconst hb (x := nI 0) rfl dX10_isArrangement_31 ?_
        exact wp_retZ hb rfl (by decide) dX10_isArrangement_32 hv
set_option maxRecDepth 100000 in
theorem v_X10_loadChoices {d sn : Nat} {v1 : Int32} {v2 : Int32} {m : mm_Mem} {P : Int32 → mm_Mem → Prop} 
    (hv : mm_sp d sn kX5_find [.ref 59, .ref 2] m (qV fun m1 => mm_sp d sn kX5_amountOf [.ref 59, .int v2] m1 (qI fun x2 m2 => ((x2 ≤ nI 14) → (mm_sp d sn kX1_load [.ref 66, .ref 59, .int v1, .int v2] m2 (qV fun m3 => P (nI 1) m3))) ∧ (¬ (x2 ≤ nI 14) → (P (nI 0) m2))))) :
    mm_sp (d + 1) sn kX10_loadChoices [.ref 1, .int v1, .int v2] m (qI P) := by
  have hb := mb_144
  refine wp_in (la := [some (.ref 1), some (.int v1), some (.int v2)]) ⟨⟨Nat.le_of_ble_eq_true rfl, by decide, by decide⟩, rfl⟩ ?_
  refine wp_aload_n hb rfl dX10_loadChoices_0 ?_
  refine wp_getR hb ko_144 lf_10_42 (by decide) m0_1 r0_1_5 dX10_loadChoices_1 ?_
  refine wp_aload_n hb rfl dX10_loadChoices_4 ?_
  refine wp_getR hb ko_144 lf_10_12 (by decide) m0_1 r0_1_0 dX10_loadChoices_5 ?_
  refine wp_callV hb (k' := 48) ko_144 lm_10_161 rfl m0_59 (by decide) (Nat.le_of_ble_eq_true rfl) dX10_loadChoices_8 (sp_cV (hv.V (Nat.le_refl _) ?_))
  intro m1 hv
  refine wp_aload_n hb rfl dX10_loadChoices_11 ?_
  refine wp_getR hb ko_144 lf_10_42 (by decide) m0_1 r0_1_5 dX10_loadChoices_12 ?_
  refine wp_iload_n hb rfl dX10_loadChoices_15 ?_
  refine wp_callV hb (k' := 51) ko_144 lm_10_165 rfl m0_59 (by decide) (Nat.le_of_ble_eq_true rfl) dX10_loadChoices_16 (sp_cI (hv.I (Nat.le_refl _) ?_))
  intro x2 m2 hv
  refine wp_bipush hb (x := nI 14) rfl dX10_loadChoices_19 ?_
  refine wp_icmp_le hb (t := 26) ⟨rfl, rfl⟩ dX10_loadChoices_21 ⟨fun c3 => ?_, fun c3 => ?_⟩
  · have hv := hv.1 c3
    refine wp_aload_n hb rfl dX10_loadChoices_26 ?_
    refine wp_getR hb ko_144 lf_10_56 (by decide) m0_1 r0_1_7 dX10_loadChoices_27 ?_
    refine wp_aload_n hb rfl dX10_loadChoices_30 ?_
    refine wp_getR hb ko_144 lf_10_42 (by decide) m0_1 r0_1_5 dX10_loadChoices_31 ?_
    refine wp_iload_n hb rfl dX10_loadChoices_34 ?_
    refine wp_iload_n hb rfl dX10_loadChoices_35 ?_
    refine wp_callV hb (k' := 16) ko_144 lm_10_338 rfl m0_66 (by decide) (Nat.le_of_ble_eq_true rfl) dX10_loadChoices_36 (sp_cV (hv.V (Nat.le_refl _) ?_))
    intro m3 hv
    refine wp_iconst hb (x := nI 1) rfl dX10_loadChoices_39 ?_
    exact wp_retZ hb rfl (by decide) dX10_loadChoices_40 hv
  · have hv := hv.2 c3
    refine wp_iconst hb (x := nI 0) rfl dX10_loadChoices_24 ?_
    exact wp_retZ hb rfl (by decide) dX10_loadChoices_25 hv
set_option maxRecDepth 100000 in
theorem v_X10_isLikeAnEarlierSolution {d sn : Nat} {v1 : Int32} {v2 : Int32} {m : mm_Mem} {P : Int32 → mm_Mem → Prop} 
    (hv : mm_sp d sn kX1_earlySolution [.ref 66, .int v2] m (qI fun x1 m1 => mm_sp d sn kX0_becomeChoice [.ref 78, .ref 59, .int v1, .int x1] m1 (qV fun m2 => mm_wp d sn kX10_isLikeAnEarlierSolution 22 [some (.ref 1), some (.int v1), some (.int v2), some (.int (nI 0))] [] m2 (qI P)))) :
    mm_sp (d + 1) sn kX10_isLikeAnEarlierSolution [.ref 1, .int v1, .int v2] m (qI P) := by
  have hb := mb_145
  refine wp_in (la := [some (.ref 1), some (.int v1), some (.int v2), none]) ⟨⟨Nat.le_of_ble_eq_true rfl, by decide, by decide⟩, rfl⟩ ?_
  refine wp_aload_n hb rfl dX10_isLikeAnEarlierSolution_0 ?_
  refine wp_getR hb ko_145 lf_10_77 (by decide) m0_1 r0_1_10 dX10_isLikeAnEarlierSolution_1 ?_
  refine wp_aload_n hb rfl dX10_isLikeAnEarlierSolution_4 ?_
  refine wp_getR hb ko_145 lf_10_42 (by decide) m0_1 r0_1_5 dX10_isLikeAnEarlierSolution_5 ?_
  refine wp_iload_n hb rfl dX10_isLikeAnEarlierSolution_8 ?_
  refine wp_aload_n hb rfl dX10_isLikeAnEarlierSolution_9 ?_
  refine wp_getR hb ko_145 lf_10_56 (by decide) m0_1 r0_1_7 dX10_isLikeAnEarlierSolution_10 ?_
  refine wp_iload_n hb rfl dX10_isLikeAnEarlierSolution_13 ?_
  refine wp_callV hb (k' := 25) ko_145 lm_10_341 rfl m0_66 (by decide) (Nat.le_of_ble_eq_true rfl) dX10_isLikeAnEarlierSolution_14 (sp_cI (hv.I (Nat.le_refl _) ?_))
  intro x1 m1 hv
  refine wp_callV hb (k' := 3) ko_145 lm_10_215 rfl m0_78 (by decide) (Nat.le_of_ble_eq_true rfl) dX10_isLikeAnEarlierSolution_17 (sp_cV (hv.V (Nat.le_refl _) ?_))
  intro m2 hv
  refine wp_iconst hb (x := nI 0) rfl dX10_isLikeAnEarlierSolution_20 ?_
  refine wp_istore_n hb rfl dX10_isLikeAnEarlierSolution_21 ?_
  exact wp_for (mm_ls_k (mm_ls_k (mm_ls_k (mm_ls_k mm_ls_nil)))) hv
set_option maxRecDepth 100000 in
theorem v_X10_isLikeAnEarlierSolution_22 {d sn : Nat} {v1 : Int32} {v2 : Int32} {v3 : Int32} {m : mm_Mem} {P : Int32 → mm_Mem → Prop} 
    (hv : ((v2 ≤ v3) → (P (nI 0) m)) ∧ (¬ (v2 ≤ v3) → (mm_sp d sn kX1_earlySolution [.ref 66, .int v3] m (qI fun x2 m1 => mm_sp d sn kX0_becomeChoice [.ref 80, .ref 59, .int v1, .int x2] m1 (qV fun m2 => mm_sp d sn kX4_areAlike [.ref 73, .ref 78, .ref 80, .int (m2.1 2 0)] m2 (qI fun x4 m3 => ((x4 = 0) → (mm_wp d sn kX10_isLikeAnEarlierSolution 22 [some (.ref 1), some (.int v1), some (.int v2), some (.int (v3 + nI 1))] [] m3 (qI P))) ∧ (¬ (x4 = 0) → (P (nI 1) m3)))))))) :
    mm_wp d sn kX10_isLikeAnEarlierSolution 22 [some (.ref 1), some (.int v1), some (.int v2), some (.int v3)] [] m (qI P) := by
  have hb := mb_145
  refine wp_iload_n hb rfl dX10_isLikeAnEarlierSolution_22 ?_
  refine wp_iload_n hb rfl dX10_isLikeAnEarlierSolution_23 ?_
  refine wp_icmp_ge hb (t := 80) ⟨rfl, rfl⟩ dX10_isLikeAnEarlierSolution_24 ⟨fun c1 => ?_, fun c1 => ?_⟩
  · have hv := hv.1 c1
    refine wp_iconst hb (x := nI 0) rfl dX10_isLikeAnEarlierSolution_80 ?_
    exact wp_retZ hb rfl (by decide) dX10_isLikeAnEarlierSolution_81 hv
  · have hv := hv.2 c1
    refine wp_aload_n hb rfl dX10_isLikeAnEarlierSolution_27 ?_
    refine wp_getR hb ko_145 lf_10_81 (by decide) m0_1 r0_1_11 dX10_isLikeAnEarlierSolution_28 ?_
    refine wp_aload_n hb rfl dX10_isLikeAnEarlierSolution_31 ?_
    refine wp_getR hb ko_145 lf_10_42 (by decide) m0_1 r0_1_5 dX10_isLikeAnEarlierSolution_32 ?_
    refine wp_iload_n hb rfl dX10_isLikeAnEarlierSolution_35 ?_
    refine wp_aload_n hb rfl dX10_isLikeAnEarlierSolution_36 ?_
    refine wp_getR hb ko_145 lf_10_56 (by decide) m0_1 r0_1_7 dX10_isLikeAnEarlierSolution_37 ?_
    refine wp_iload_n hb rfl dX10_isLikeAnEarlierSolution_40 ?_
    refine wp_callV hb (k' := 25) ko_145 lm_10_341 rfl m0_66 (by decide) (Nat.le_of_ble_eq_true rfl) dX10_isLikeAnEarlierSolution_41 (sp_cI (hv.I (Nat.le_refl _) ?_))
    intro x2 m1 hv
    refine wp_callV hb (k' := 3) ko_145 lm_10_215 rfl m0_80 (by decide) (Nat.le_of_ble_eq_true rfl) dX10_isLikeAnEarlierSolution_44 (sp_cV (hv.V (Nat.le_refl _) ?_))
    intro m2 hv
    refine wp_aload_n hb rfl dX10_isLikeAnEarlierSolution_47 ?_
    refine wp_getR hb ko_145 lf_10_63 (by decide) m0_1 r0_1_8 dX10_isLikeAnEarlierSolution_48 ?_
    refine wp_aload_n hb rfl dX10_isLikeAnEarlierSolution_51 ?_
    refine wp_getR hb ko_145 lf_10_77 (by decide) m0_1 r0_1_10 dX10_isLikeAnEarlierSolution_52 ?_
    refine wp_aload_n hb rfl dX10_isLikeAnEarlierSolution_55 ?_
    refine wp_getR hb ko_145 lf_10_81 (by decide) m0_1 r0_1_11 dX10_isLikeAnEarlierSolution_56 ?_
    refine wp_aload_n hb rfl dX10_isLikeAnEarlierSolution_59 ?_
    refine wp_getR hb ko_145 lf_10_12 (by decide) m0_1 r0_1_0 dX10_isLikeAnEarlierSolution_60 ?_
    refine wp_getI hb ko_145 lf_10_84 (by decide) m0_2 dX10_isLikeAnEarlierSolution_63 ?_
    refine wp_callV hb (k' := 43) ko_145 lm_10_276 rfl m0_73 (by decide) (Nat.le_of_ble_eq_true rfl) dX10_isLikeAnEarlierSolution_66 (sp_cI (hv.I (Nat.le_refl _) ?_))
    intro x4 m3 hv
    refine wp_if_eq hb (y := 0) (t := 74) ⟨rfl, rfl⟩ dX10_isLikeAnEarlierSolution_69 ⟨fun c5 => ?_, fun c5 => ?_⟩
    · have hv := hv.1 c5
      refine wp_iinc hb rfl (y := v3 + nI 1) rfl rfl dX10_isLikeAnEarlierSolution_74 ?_
      refine wp_goto hb (t := 22) ⟨rfl, rfl⟩ dX10_isLikeAnEarlierSolution_77 ?_
      exact wp_for (mm_ls_k (mm_ls_k (mm_ls_k (mm_ls_k mm_ls_nil)))) hv
    · have hv := hv.2 c5
      refine wp_iconst hb (x := nI 1) rfl dX10_isLikeAnEarlierSolution_72 ?_
      exact wp_retZ hb rfl (by decide) dX10_isLikeAnEarlierSolution_73 hv
set_option maxRecDepth 100000 in
theorem v_X10_doClauses {d sn : Nat} {m : mm_Mem} {P : Int32 → mm_Mem → Prop} 
    (hv : mm_wp d sn kX10_doClauses 6 [some (.ref 1), some (.int (nI 0)), some (.int (nI 0)), some (.int (nI 0)), none] [] m (qI P)) :
    mm_sp (d + 1) sn kX10_doClauses [.ref 1] m (qI P) := by
  have hb := mb_146
  refine wp_in (la := [some (.ref 1), none, none, none, none]) ⟨⟨Nat.le_of_ble_eq_true rfl, by decide, by decide⟩, rfl⟩ ?_
  refine wp_iconst hb (x := nI 0) rfl dX10_doClauses_0 ?_
  refine wp_istore_n hb rfl dX10_doClauses_1 ?_
  refine wp_iconst hb (x := nI 0) rfl dX10_doClauses_2 ?_
  refine wp_istore_n hb rfl dX10_doClauses_3 ?_
  refine wp_iconst hb (x := nI 0) rfl dX10_doClauses_4 ?_
  refine wp_istore_n hb rfl dX10_doClauses_5 ?_
  exact wp_for (mm_ls_k (mm_ls_k (mm_ls_k (mm_ls_k (mm_ls_k mm_ls_nil))))) hv
set_option maxRecDepth 100000 in
theorem v_X10_doClauses_6 {d sn : Nat} {v1 : Int32} {v2 : Int32} {v3 : Int32} {m : mm_Mem} {P : Int32 → mm_Mem → Prop} 
    (hv : ((nI 12 ≤ v3) → (P v1 m)) ∧ (¬ (nI 12 ≤ v3) → (((m.1 44 0 ≤ v2) → (P v1 m)) ∧ (¬ (m.1 44 0 ≤ v2) → (mm_sp d sn kX8_digitsFrom [.ref 44, .int (v2 + (nI 1)), .int (nI 8)] m (qI fun x3 m1 => mm_sp d sn kX10_doClause [.ref 1, .int v2, .int ((v2 + (nI 1)) + x3)] m1 (qI fun x4 m2 => ((x4 = 0) → (mm_wp d sn kX10_doClauses 6 [some (.ref 1), some (.int v1), some (.int (((v2 + (nI 1)) + x3) + (nI 1))), some (.int (v3 + nI 1)), none] [] m2 (qI P))) ∧ (¬ (x4 = 0) → (mm_wp d sn kX10_doClauses 6 [some (.ref 1), some (.int (v1 + nI 1)), some (.int (((v2 + (nI 1)) + x3) + (nI 1))), some (.int (v3 + nI 1)), none] [] m2 (qI P)))))))))) :
    mm_wp d sn kX10_doClauses 6 [some (.ref 1), some (.int v1), some (.int v2), some (.int v3), none] [] m (qI P) := by
  have hb := mb_146
  refine wp_iload_n hb rfl dX10_doClauses_6 ?_
  refine wp_bipush hb (x := nI 12) rfl dX10_doClauses_7 ?_
  refine wp_icmp_ge hb (t := 65) ⟨rfl, rfl⟩ dX10_doClauses_9 ⟨fun c1 => ?_, fun c1 => ?_⟩
  · have hv := hv.1 c1
    refine wp_iload_n hb rfl dX10_doClauses_65 ?_
    exact wp_retI hb rfl dX10_doClauses_66 hv
  · have hv := hv.2 c1
    refine wp_iload_n hb rfl dX10_doClauses_12 ?_
    refine wp_aload_n hb rfl dX10_doClauses_13 ?_
    refine wp_getR hb ko_146 lf_10_28 (by decide) m0_1 r0_1_3 dX10_doClauses_14 ?_
    refine wp_getI hb ko_146 lf_10_300 (by decide) m0_44 dX10_doClauses_17 ?_
    refine wp_icmp_ge hb (t := 65) ⟨rfl, rfl⟩ dX10_doClauses_20 ⟨fun c2 => ?_, fun c2 => ?_⟩
    · have hv := hv.1 c2
      refine wp_iload_n hb rfl dX10_doClauses_65 ?_
      exact wp_retI hb rfl dX10_doClauses_66 hv
    · have hv := hv.2 c2
      refine wp_iload_n hb rfl dX10_doClauses_23 ?_
      refine wp_iconst hb (x := nI 1) rfl dX10_doClauses_24 ?_
      refine wp_iadd hb dX10_doClauses_25 ?_
      refine wp_aload_n hb rfl dX10_doClauses_26 ?_
      refine wp_getR hb ko_146 lf_10_28 (by decide) m0_1 r0_1_3 dX10_doClauses_27 ?_
      refine wp_iload_n hb rfl dX10_doClauses_30 ?_
      refine wp_iconst hb (x := nI 1) rfl dX10_doClauses_31 ?_
      refine wp_iadd hb dX10_doClauses_32 ?_
      refine wp_bipush hb (x := nI 8) rfl dX10_doClauses_33 ?_
      refine wp_callV hb (k' := 83) ko_146 lm_10_344 rfl m0_44 (by decide) (Nat.le_of_ble_eq_true rfl) dX10_doClauses_35 (sp_cI (hv.I (Nat.le_refl _) ?_))
      intro x3 m1 hv
      refine wp_iadd hb dX10_doClauses_38 ?_
      refine wp_istore hb rfl dX10_doClauses_39 ?_
      refine wp_aload_n hb rfl dX10_doClauses_41 ?_
      refine wp_iload_n hb rfl dX10_doClauses_42 ?_
      refine wp_iload hb rfl dX10_doClauses_43 ?_
      refine wp_callV hb (k' := 147) ko_146 lm_10_347 rfl m0_1 (by decide) (Nat.le_of_ble_eq_true rfl) dX10_doClauses_45 (sp_cI (hv.I (Nat.le_refl _) ?_))
      intro x4 m2 hv
      refine wp_if_eq hb (y := 0) (t := 54) ⟨rfl, rfl⟩ dX10_doClauses_48 ⟨fun c5 => ?_, fun c5 => ?_⟩
      · have hv := hv.1 c5
        refine wp_iload hb rfl dX10_doClauses_54 ?_
        refine wp_iconst hb (x := nI 1) rfl dX10_doClauses_56 ?_
        refine wp_iadd hb dX10_doClauses_57 ?_
        refine wp_istore_n hb rfl dX10_doClauses_58 ?_
        refine wp_iinc hb rfl (y := v3 + nI 1) rfl rfl dX10_doClauses_59 ?_
        refine wp_goto hb (t := 6) ⟨rfl, rfl⟩ dX10_doClauses_62 ?_
        exact wp_for (mm_ls_k (mm_ls_k (mm_ls_k (mm_ls_k (mm_ls_f mm_ls_nil))))) hv
      · have hv := hv.2 c5
        refine wp_iinc hb rfl (y := v1 + nI 1) rfl rfl dX10_doClauses_51 ?_
        refine wp_iload hb rfl dX10_doClauses_54 ?_
        refine wp_iconst hb (x := nI 1) rfl dX10_doClauses_56 ?_
        refine wp_iadd hb dX10_doClauses_57 ?_
        refine wp_istore_n hb rfl dX10_doClauses_58 ?_
        refine wp_iinc hb rfl (y := v3 + nI 1) rfl rfl dX10_doClauses_59 ?_
        refine wp_goto hb (t := 6) ⟨rfl, rfl⟩ dX10_doClauses_62 ?_
        exact wp_for (mm_ls_k (mm_ls_k (mm_ls_k (mm_ls_k (mm_ls_f mm_ls_nil))))) hv
set_option maxRecDepth 100000 in
theorem v_X10_doClause {d sn : Nat} {v1 : Int32} {v2 : Int32} {m : mm_Mem} {P : Int32 → mm_Mem → Prop} 
    (hv : mm_sp d sn kX8_numberIn [.ref 44, .int (v1 + (nI 1)), .int v2] m (qI fun x1 m1 => mm_sp d sn kX8_signAt [.ref 44, .int v1] m1 (qI fun x2 m2 => (x2 = nI 98 → (mm_sp d sn kX10_doBlockClause [.ref 1, .int (v1 + (nI 1)), .int v2] m2 (qI fun x4 m3 => (x4 = 0 ∨ x4 = 1) ∧ P x4 m3))) ∧ (x2 = nI 99 → (P (nI 0) m2)) ∧ (x2 = nI 100 → (P (nI 0) m2)) ∧ (x2 = nI 101 → (P (nI 0) m2)) ∧ (x2 = nI 102 → (P (nI 0) m2)) ∧ (x2 = nI 103 → (mm_sp d sn kX10_way [.ref 1, .int (x1 / (nI 10)), .int (mm_rem x1 (nI 10))] m2 (qI fun x10 m4 => ((x10 < 0) → (P (nI 0) m4)) ∧ (¬ (x10 < 0) → (P (nI 1) m4))))) ∧ (x2 = nI 104 → (mm_sp d sn kX10_hand [.ref 1, .int x1] m2 (qI fun x13 m5 => ((x13 < 0) → (P (nI 0) m5)) ∧ (¬ (x13 < 0) → (P (nI 1) m5))))) ∧ (x2 = nI 105 → (P (nI 0) m2)) ∧ (x2 = nI 106 → (P (nI 0) m2)) ∧ (x2 = nI 107 → (mm_sp d sn kX10_choose [.ref 1, .int (x1 / (nI 10)), .int (mm_shl (nI 1) (mm_rem x1 (nI 10)))] m2 (qI fun x18 m6 => ((x18 < 0) → (P (nI 0) m6)) ∧ (¬ (x18 < 0) → (P (nI 1) m6))))) ∧ (x2 = nI 108 → (P (nI 0) m2)) ∧ (x2 = nI 109 → (P (nI 0) m2)) ∧ (x2 = nI 110 → (mm_sp d sn kX10_points [.ref 1, .int x1] m2 (qI fun x23 m7 => ((x23 < 0) → (P (nI 0) m7)) ∧ (¬ (x23 < 0) → (P (nI 1) m7))))) ∧ (¬ x2 = nI 98 → ¬ x2 = nI 99 → ¬ x2 = nI 100 → ¬ x2 = nI 101 → ¬ x2 = nI 102 → ¬ x2 = nI 103 → ¬ x2 = nI 104 → ¬ x2 = nI 105 → ¬ x2 = nI 106 → ¬ x2 = nI 107 → ¬ x2 = nI 108 → ¬ x2 = nI 109 → ¬ x2 = nI 110 → (P (nI 0) m2))))) :
    mm_sp (d + 1) sn kX10_doClause [.ref 1, .int v1, .int v2] m (qI P) := by
  have hb := mb_147
  refine wp_in (la := [some (.ref 1), some (.int v1), some (.int v2), none]) ⟨⟨Nat.le_of_ble_eq_true rfl, by decide, by decide⟩, rfl⟩ ?_
  refine wp_aload_n hb rfl dX10_doClause_0 ?_
  refine wp_getR hb ko_147 lf_10_28 (by decide) m0_1 r0_1_3 dX10_doClause_1 ?_
  refine wp_iload_n hb rfl dX10_doClause_4 ?_
  refine wp_iconst hb (x := nI 1) rfl dX10_doClause_5 ?_
  refine wp_iadd hb dX10_doClause_6 ?_
  refine wp_iload_n hb rfl dX10_doClause_7 ?_
  refine wp_callV hb (k' := 84) ko_147 lm_10_350 rfl m0_44 (by decide) (Nat.le_of_ble_eq_true rfl) dX10_doClause_8 (sp_cI (hv.I (Nat.le_refl _) ?_))
  intro x1 m1 hv
  refine wp_istore_n hb rfl dX10_doClause_11 ?_
  refine wp_aload_n hb rfl dX10_doClause_12 ?_
  refine wp_getR hb ko_147 lf_10_28 (by decide) m0_1 r0_1_3 dX10_doClause_13 ?_
  refine wp_iload_n hb rfl dX10_doClause_16 ?_
  refine wp_callV hb (k' := 81) ko_147 lm_10_353 rfl m0_44 (by decide) (Nat.le_of_ble_eq_true rfl) dX10_doClause_17 (sp_cI (hv.I (Nat.le_refl _) ?_))
  intro x2 m2 hv
  by_cases hc : x2.toInt < 98 ∨ 110 < x2.toInt
  · refine wp_tabO hb hc (t := 169) ⟨rfl, rfl⟩ dX10_doClause_20 ?_
    have hv := hv.2.2.2.2.2.2.2.2.2.2.2.2.2 (mm_out hc (by decide) (by decide)) (mm_out hc (by decide) (by decide)) (mm_out hc (by decide) (by decide)) (mm_out hc (by decide) (by decide)) (mm_out hc (by decide) (by decide)) (mm_out hc (by decide) (by decide)) (mm_out hc (by decide) (by decide)) (mm_out hc (by decide) (by decide)) (mm_out hc (by decide) (by decide)) (mm_out hc (by decide) (by decide)) (mm_out hc (by decide) (by decide)) (mm_out hc (by decide) (by decide)) (mm_out hc (by decide) (by decide))
    refine wp_iconst hb (x := nI 0) rfl dX10_doClause_169 ?_
    exact wp_retZ hb rfl (by decide) dX10_doClause_170 hv
  · have hx := mm_tabc (n := 13) (lo := 98) (by decide) hc (by decide)
    obtain ⟨j, hj, hx⟩ := hx
    by_cases g0 : j = 0
    · subst g0
      have hv := hv.1 hx
      have hc9 := hc
      rw [hx] at hc9 ⊢
      refine wp_tabI hb (off := 140) hc9 rfl (t := 160) ⟨rfl, rfl⟩ dX10_doClause_20 ?_
      refine wp_aload_n hb rfl dX10_doClause_160 ?_
      refine wp_iload_n hb rfl dX10_doClause_161 ?_
      refine wp_iconst hb (x := nI 1) rfl dX10_doClause_162 ?_
      refine wp_iadd hb dX10_doClause_163 ?_
      refine wp_iload_n hb rfl dX10_doClause_164 ?_
      refine wp_callV hb (k' := 148) ko_147 lm_10_368 rfl m0_1 (by decide) (Nat.le_of_ble_eq_true rfl) dX10_doClause_165 (sp_cI (hv.I (Nat.le_refl _) ?_))
      intro x4 m3 hv
      exact wp_retZ hb rfl hv.1 dX10_doClause_168 hv.2
    by_cases g1 : j = 1
    · subst g1
      have hv := hv.2.1 hx
      have hc9 := hc
      rw [hx] at hc9 ⊢
      refine wp_tabI hb (off := 149) hc9 rfl (t := 169) ⟨rfl, rfl⟩ dX10_doClause_20 ?_
      refine wp_iconst hb (x := nI 0) rfl dX10_doClause_169 ?_
      exact wp_retZ hb rfl (by decide) dX10_doClause_170 hv
    by_cases g2 : j = 2
    · subst g2
      have hv := hv.2.2.1 hx
      have hc9 := hc
      rw [hx] at hc9 ⊢
      refine wp_tabI hb (off := 149) hc9 rfl (t := 169) ⟨rfl, rfl⟩ dX10_doClause_20 ?_
      refine wp_iconst hb (x := nI 0) rfl dX10_doClause_169 ?_
      exact wp_retZ hb rfl (by decide) dX10_doClause_170 hv
    by_cases g3 : j = 3
    · subst g3
      have hv := hv.2.2.2.1 hx
      have hc9 := hc
      rw [hx] at hc9 ⊢
      refine wp_tabI hb (off := 149) hc9 rfl (t := 169) ⟨rfl, rfl⟩ dX10_doClause_20 ?_
      refine wp_iconst hb (x := nI 0) rfl dX10_doClause_169 ?_
      exact wp_retZ hb rfl (by decide) dX10_doClause_170 hv
    by_cases g4 : j = 4
    · subst g4
      have hv := hv.2.2.2.2.1 hx
      have hc9 := hc
      rw [hx] at hc9 ⊢
      refine wp_tabI hb (off := 149) hc9 rfl (t := 169) ⟨rfl, rfl⟩ dX10_doClause_20 ?_
      refine wp_iconst hb (x := nI 0) rfl dX10_doClause_169 ?_
      exact wp_retZ hb rfl (by decide) dX10_doClause_170 hv
    by_cases g5 : j = 5
    · subst g5
      have hv := hv.2.2.2.2.2.1 hx
      have hc9 := hc
      rw [hx] at hc9 ⊢
      refine wp_tabI hb (off := 82) hc9 rfl (t := 102) ⟨rfl, rfl⟩ dX10_doClause_20 ?_
      refine wp_aload_n hb rfl dX10_doClause_102 ?_
      refine wp_iload_n hb rfl dX10_doClause_103 ?_
      refine wp_bipush hb (x := nI 10) rfl dX10_doClause_104 ?_
      refine wp_idiv hb (by decide) dX10_doClause_106 ?_
      refine wp_iload_n hb rfl dX10_doClause_107 ?_
      refine wp_bipush hb (x := nI 10) rfl dX10_doClause_108 ?_
      refine wp_irem hb (by decide) dX10_doClause_110 ?_
      refine wp_callV hb (k' := 100) ko_147 lm_10_359 rfl m0_1 (by decide) (Nat.le_of_ble_eq_true rfl) dX10_doClause_111 (sp_cI (hv.I (Nat.le_refl _) ?_))
      intro x10 m4 hv
      refine wp_if_lt hb (y := 0) (t := 121) ⟨rfl, rfl⟩ dX10_doClause_114 ⟨fun c11 => ?_, fun c11 => ?_⟩
      · have hv := hv.1 c11
        refine wp_iconst hb (x := nI 0) rfl dX10_doClause_121 ?_
        exact wp_retZ hb rfl (by decide) dX10_doClause_122 hv
      · have hv := hv.2 c11
        refine wp_iconst hb (x := nI 1) rfl dX10_doClause_117 ?_
        refine wp_goto hb (t := 122) ⟨rfl, rfl⟩ dX10_doClause_118 ?_
        exact wp_retZ hb rfl (by decide) dX10_doClause_122 hv
    by_cases g6 : j = 6
    · subst g6
      have hv := hv.2.2.2.2.2.2.1 hx
      have hc9 := hc
      rw [hx] at hc9 ⊢
      refine wp_tabI hb (off := 103) hc9 rfl (t := 123) ⟨rfl, rfl⟩ dX10_doClause_20 ?_
      refine wp_aload_n hb rfl dX10_doClause_123 ?_
      refine wp_iload_n hb rfl dX10_doClause_124 ?_
      refine wp_callV hb (k' := 101) ko_147 lm_10_362 rfl m0_1 (by decide) (Nat.le_of_ble_eq_true rfl) dX10_doClause_125 (sp_cI (hv.I (Nat.le_refl _) ?_))
      intro x13 m5 hv
      refine wp_if_lt hb (y := 0) (t := 135) ⟨rfl, rfl⟩ dX10_doClause_128 ⟨fun c14 => ?_, fun c14 => ?_⟩
      · have hv := hv.1 c14
        refine wp_iconst hb (x := nI 0) rfl dX10_doClause_135 ?_
        exact wp_retZ hb rfl (by decide) dX10_doClause_136 hv
      · have hv := hv.2 c14
        refine wp_iconst hb (x := nI 1) rfl dX10_doClause_131 ?_
        refine wp_goto hb (t := 136) ⟨rfl, rfl⟩ dX10_doClause_132 ?_
        exact wp_retZ hb rfl (by decide) dX10_doClause_136 hv
    by_cases g7 : j = 7
    · subst g7
      have hv := hv.2.2.2.2.2.2.2.1 hx
      have hc9 := hc
      rw [hx] at hc9 ⊢
      refine wp_tabI hb (off := 149) hc9 rfl (t := 169) ⟨rfl, rfl⟩ dX10_doClause_20 ?_
      refine wp_iconst hb (x := nI 0) rfl dX10_doClause_169 ?_
      exact wp_retZ hb rfl (by decide) dX10_doClause_170 hv
    by_cases g8 : j = 8
    · subst g8
      have hv := hv.2.2.2.2.2.2.2.2.1 hx
      have hc9 := hc
      rw [hx] at hc9 ⊢
      refine wp_tabI hb (off := 149) hc9 rfl (t := 169) ⟨rfl, rfl⟩ dX10_doClause_20 ?_
      refine wp_iconst hb (x := nI 0) rfl dX10_doClause_169 ?_
      exact wp_retZ hb rfl (by decide) dX10_doClause_170 hv
    by_cases g9 : j = 9
    · subst g9
      have hv := hv.2.2.2.2.2.2.2.2.2.1 hx
      have hc9 := hc
      rw [hx] at hc9 ⊢
      refine wp_tabI hb (off := 117) hc9 rfl (t := 137) ⟨rfl, rfl⟩ dX10_doClause_20 ?_
      refine wp_aload_n hb rfl dX10_doClause_137 ?_
      refine wp_iload_n hb rfl dX10_doClause_138 ?_
      refine wp_bipush hb (x := nI 10) rfl dX10_doClause_139 ?_
      refine wp_idiv hb (by decide) dX10_doClause_141 ?_
      refine wp_iconst hb (x := nI 1) rfl dX10_doClause_142 ?_
      refine wp_iload_n hb rfl dX10_doClause_143 ?_
      refine wp_bipush hb (x := nI 10) rfl dX10_doClause_144 ?_
      refine wp_irem hb (by decide) dX10_doClause_146 ?_
      refine wp_ishl hb dX10_doClause_147 ?_
      refine wp_callV hb (k' := 115) ko_147 lm_10_365 rfl m0_1 (by decide) (Nat.le_of_ble_eq_true rfl) dX10_doClause_148 (sp_cI (hv.I (Nat.le_refl _) ?_))
      intro x18 m6 hv
      refine wp_if_lt hb (y := 0) (t := 158) ⟨rfl, rfl⟩ dX10_doClause_151 ⟨fun c19 => ?_, fun c19 => ?_⟩
      · have hv := hv.1 c19
        refine wp_iconst hb (x := nI 0) rfl dX10_doClause_158 ?_
        exact wp_retZ hb rfl (by decide) dX10_doClause_159 hv
      · have hv := hv.2 c19
        refine wp_iconst hb (x := nI 1) rfl dX10_doClause_154 ?_
        refine wp_goto hb (t := 159) ⟨rfl, rfl⟩ dX10_doClause_155 ?_
        exact wp_retZ hb rfl (by decide) dX10_doClause_159 hv
    by_cases g10 : j = 10
    · subst g10
      have hv := hv.2.2.2.2.2.2.2.2.2.2.1 hx
      have hc9 := hc
      rw [hx] at hc9 ⊢
      refine wp_tabI hb (off := 149) hc9 rfl (t := 169) ⟨rfl, rfl⟩ dX10_doClause_20 ?_
      refine wp_iconst hb (x := nI 0) rfl dX10_doClause_169 ?_
      exact wp_retZ hb rfl (by decide) dX10_doClause_170 hv
    by_cases g11 : j = 11
    · subst g11
      have hv := hv.2.2.2.2.2.2.2.2.2.2.2.1 hx
      have hc9 := hc
      rw [hx] at hc9 ⊢
      refine wp_tabI hb (off := 149) hc9 rfl (t := 169) ⟨rfl, rfl⟩ dX10_doClause_20 ?_
      refine wp_iconst hb (x := nI 0) rfl dX10_doClause_169 ?_
      exact wp_retZ hb rfl (by decide) dX10_doClause_170 hv
    by_cases g12 : j = 12
    · subst g12
      have hv := hv.2.2.2.2.2.2.2.2.2.2.2.2.1 hx
      have hc9 := hc
      rw [hx] at hc9 ⊢
      refine wp_tabI hb (off := 68) hc9 rfl (t := 88) ⟨rfl, rfl⟩ dX10_doClause_20 ?_
      refine wp_aload_n hb rfl dX10_doClause_88 ?_
      refine wp_iload_n hb rfl dX10_doClause_89 ?_
      refine wp_callV hb (k' := 99) ko_147 lm_10_356 rfl m0_1 (by decide) (Nat.le_of_ble_eq_true rfl) dX10_doClause_90 (sp_cI (hv.I (Nat.le_refl _) ?_))
      intro x23 m7 hv
      refine wp_if_lt hb (y := 0) (t := 100) ⟨rfl, rfl⟩ dX10_doClause_93 ⟨fun c24 => ?_, fun c24 => ?_⟩
      · have hv := hv.1 c24
        refine wp_iconst hb (x := nI 0) rfl dX10_doClause_100 ?_
        exact wp_retZ hb rfl (by decide) dX10_doClause_101 hv
      · have hv := hv.2 c24
        refine wp_iconst hb (x := nI 1) rfl dX10_doClause_96 ?_
        refine wp_goto hb (t := 101) ⟨rfl, rfl⟩ dX10_doClause_97 ?_
        exact wp_retZ hb rfl (by decide) dX10_doClause_101 hv
    omega
set_option maxRecDepth 100000 in
theorem v_X10_doBlockClause {d sn : Nat} {v1 : Int32} {v2 : Int32} {m : mm_Mem} {P : Int32 → mm_Mem → Prop} 
    (hv : mm_wp d sn kX10_doBlockClause 5 [some (.ref 1), none, some (.int v2), some (.int (nI 0)), some (.int v1), none] [] m (qI P)) :
    mm_sp (d + 1) sn kX10_doBlockClause [.ref 1, .int v1, .int v2] m (qI P) := by
  have hb := mb_148
  refine wp_in (la := [some (.ref 1), some (.int v1), some (.int v2), none, none, none]) ⟨⟨Nat.le_of_ble_eq_true rfl, by decide, by decide⟩, rfl⟩ ?_
  refine wp_iconst hb (x := nI 0) rfl dX10_doBlockClause_0 ?_
  refine wp_istore_n hb rfl dX10_doBlockClause_1 ?_
  refine wp_iload_n hb rfl dX10_doBlockClause_2 ?_
  refine wp_istore hb rfl dX10_doBlockClause_3 ?_
  exact wp_for (mm_ls_k (mm_ls_f (mm_ls_k (mm_ls_k (mm_ls_k (mm_ls_k mm_ls_nil)))))) hv
set_option maxRecDepth 100000 in
theorem v_X10_doBlockClause_5 {d sn : Nat} {v2 : Int32} {v3 : Int32} {v4 : Int32} {m : mm_Mem} {P : Int32 → mm_Mem → Prop} 
    (hv : ((v2 ≤ v4) → (mm_sp d sn kX10_block [.ref 1, .int v3] m (qI fun x2 m1 => ((x2 < 0) → (P (nI 0) m1)) ∧ (¬ (x2 < 0) → (P (nI 1) m1))))) ∧ (¬ (v2 ≤ v4) → (mm_sp d sn kX8_digitAt [.ref 44, .int v4] m (qI fun x4 m2 => mm_sp d sn kX6_isPoint [.ref 2, .int x4] m2 (qI fun x5 m3 => ((¬ x5 = 0) → (mm_wp d sn kX10_doBlockClause 5 [some (.ref 1), none, some (.int v2), some (.int (v3 ||| (mm_shl (nI 1) x4))), some (.int (v4 + nI 1)), none] [] m3 (qI P))) ∧ (¬ (¬ x5 = 0) → (P (nI 0) m3))))))) :
    mm_wp d sn kX10_doBlockClause 5 [some (.ref 1), none, some (.int v2), some (.int v3), some (.int v4), none] [] m (qI P) := by
  have hb := mb_148
  refine wp_iload hb rfl dX10_doBlockClause_5 ?_
  refine wp_iload_n hb rfl dX10_doBlockClause_7 ?_
  refine wp_icmp_ge hb (t := 49) ⟨rfl, rfl⟩ dX10_doBlockClause_8 ⟨fun c1 => ?_, fun c1 => ?_⟩
  · have hv := hv.1 c1
    refine wp_aload_n hb rfl dX10_doBlockClause_49 ?_
    refine wp_iload_n hb rfl dX10_doBlockClause_50 ?_
    refine wp_callV hb (k' := 116) ko_148 lm_10_374 rfl m0_1 (by decide) (Nat.le_of_ble_eq_true rfl) dX10_doBlockClause_51 (sp_cI (hv.I (Nat.le_refl _) ?_))
    intro x2 m1 hv
    refine wp_if_lt hb (y := 0) (t := 61) ⟨rfl, rfl⟩ dX10_doBlockClause_54 ⟨fun c3 => ?_, fun c3 => ?_⟩
    · have hv := hv.1 c3
      refine wp_iconst hb (x := nI 0) rfl dX10_doBlockClause_61 ?_
      exact wp_retZ hb rfl (by decide) dX10_doBlockClause_62 hv
    · have hv := hv.2 c3
      refine wp_iconst hb (x := nI 1) rfl dX10_doBlockClause_57 ?_
      refine wp_goto hb (t := 62) ⟨rfl, rfl⟩ dX10_doBlockClause_58 ?_
      exact wp_retZ hb rfl (by decide) dX10_doBlockClause_62 hv
  · have hv := hv.2 c1
    refine wp_aload_n hb rfl dX10_doBlockClause_11 ?_
    refine wp_getR hb ko_148 lf_10_28 (by decide) m0_1 r0_1_3 dX10_doBlockClause_12 ?_
    refine wp_iload hb rfl dX10_doBlockClause_15 ?_
    refine wp_callV hb (k' := 82) ko_148 lm_10_371 rfl m0_44 (by decide) (Nat.le_of_ble_eq_true rfl) dX10_doBlockClause_17 (sp_cI (hv.I (Nat.le_refl _) ?_))
    intro x4 m2 hv
    refine wp_istore hb rfl dX10_doBlockClause_20 ?_
    refine wp_aload_n hb rfl dX10_doBlockClause_22 ?_
    refine wp_getR hb ko_148 lf_10_12 (by decide) m0_1 r0_1_0 dX10_doBlockClause_23 ?_
    refine wp_iload hb rfl dX10_doBlockClause_26 ?_
    refine wp_callV hb (k' := 62) ko_148 lm_10_140 rfl m0_2 (by decide) (Nat.le_of_ble_eq_true rfl) dX10_doBlockClause_28 (sp_cI (hv.I (Nat.le_refl _) ?_))
    intro x5 m3 hv
    refine wp_if_ne hb (y := 0) (t := 36) ⟨rfl, rfl⟩ dX10_doBlockClause_31 ⟨fun c6 => ?_, fun c6 => ?_⟩
    · have hv := hv.1 c6
      refine wp_iload_n hb rfl dX10_doBlockClause_36 ?_
      refine wp_iconst hb (x := nI 1) rfl dX10_doBlockClause_37 ?_
      refine wp_iload hb rfl dX10_doBlockClause_38 ?_
      refine wp_ishl hb dX10_doBlockClause_40 ?_
      refine wp_ior hb dX10_doBlockClause_41 ?_
      refine wp_istore_n hb rfl dX10_doBlockClause_42 ?_
      refine wp_iinc hb rfl (y := v4 + nI 1) rfl rfl dX10_doBlockClause_43 ?_
      refine wp_goto hb (t := 5) ⟨rfl, rfl⟩ dX10_doBlockClause_46 ?_
      exact wp_for (mm_ls_k (mm_ls_k (mm_ls_k (mm_ls_k (mm_ls_k (mm_ls_f mm_ls_nil)))))) hv
    · have hv := hv.2 c6
      refine wp_iconst hb (x := nI 0) rfl dX10_doBlockClause_34 ?_
      exact wp_retZ hb rfl (by decide) dX10_doBlockClause_35 hv
set_option maxRecDepth 100000 in
theorem v_X10_tapeAt {d sn : Nat} {v1 : Int32} {m : mm_Mem} {P : Option Nat → mm_Mem → Prop} 
    (hv : ((v1 < 0) → (P none m)) ∧ (¬ (v1 < 0) → (((v1 < nI 6) → (∃ i3 : Nat, i3 < 6 ∧ v1 = nI i3 ∧ (P (some (47 + 2 * i3)) m))) ∧ (¬ (v1 < nI 6) → (P none m))))) :
    mm_sp (d + 1) sn kX10_tapeAt [.ref 1, .int v1] m (qR P) := by
  have hb := mb_149
  refine wp_in (la := [some (.ref 1), some (.int v1)]) ⟨⟨Nat.le_of_ble_eq_true rfl, by decide, by decide⟩, rfl⟩ ?_
  refine wp_iload_n hb rfl dX10_tapeAt_0 ?_
  refine wp_if_lt hb (y := 0) (t := 13) ⟨rfl, rfl⟩ dX10_tapeAt_1 ⟨fun c1 => ?_, fun c1 => ?_⟩
  · have hv := hv.1 c1
    refine wp_null hb dX10_tapeAt_13 ?_
    exact wp_retN hb rfl dX10_tapeAt_14 hv
  · have hv := hv.2 c1
    refine wp_iload_n hb rfl dX10_tapeAt_4 ?_
    refine wp_aload_n hb rfl dX10_tapeAt_5 ?_
    refine wp_getR hb ko_149 lf_10_34 (by decide) m0_1 r0_1_4 dX10_tapeAt_6 ?_
    refine wp_alen hb (x := nI 6) m0_46 (by decide) rfl dX10_tapeAt_9 ?_
    refine wp_icmp_lt hb (t := 15) ⟨rfl, rfl⟩ dX10_tapeAt_10 ⟨fun c2 => ?_, fun c2 => ?_⟩
    · have hv := hv.1 c2
      refine wp_aload_n hb rfl dX10_tapeAt_15 ?_
      refine wp_getR hb ko_149 lf_10_34 (by decide) m0_1 r0_1_4 dX10_tapeAt_16 ?_
      refine wp_iload_n hb rfl dX10_tapeAt_19 ?_
      obtain ⟨i3, hi3, hx3, hv⟩ := hv
      refine wp_aaload hb m0_46 (by decide) (mm_inx hx3 hi3 (by decide)) (mm_rx hx3 (by omega) (shT_i _ hi3).1) dX10_tapeAt_20 ?_
      exact wp_retR hb rfl dX10_tapeAt_21 hv
    · have hv := hv.2 c2
      refine wp_null hb dX10_tapeAt_13 ?_
      exact wp_retN hb rfl dX10_tapeAt_14 hv
set_option maxRecDepth 100000 in
theorem v_X10_modulo {d sn : Nat} {v0 : Int32} {v1 : Int32} {m : mm_Mem} {P : Int32 → mm_Mem → Prop} 
    (hv : ((nI 1 ≤ v1) → ((¬ v1 = 0) ∧ (P (mm_rem v0 v1) m))) ∧ (¬ (nI 1 ≤ v1) → (P (nI 0) m))) :
    mm_sp (d + 1) sn kX10_modulo [.int v0, .int v1] m (qI P) := by
  have hb := mb_150
  refine wp_in (la := [some (.int v0), some (.int v1)]) ⟨⟨Nat.le_of_ble_eq_true rfl, by decide, by decide⟩, rfl⟩ ?_
  refine wp_iload_n hb rfl dX10_modulo_0 ?_
  refine wp_iconst hb (x := nI 1) rfl dX10_modulo_1 ?_
  refine wp_icmp_ge hb (t := 9) ⟨rfl, rfl⟩ dX10_modulo_2 ⟨fun c1 => ?_, fun c1 => ?_⟩
  · have hv := hv.1 c1
    refine wp_iload_n hb rfl dX10_modulo_9 ?_
    refine wp_iload_n hb rfl dX10_modulo_10 ?_
    obtain ⟨q2, hv⟩ := hv
    refine wp_irem hb q2 dX10_modulo_11 ?_
    exact wp_retI hb rfl dX10_modulo_12 hv
  · have hv := hv.2 c1
    refine wp_iconst hb (x := nI 0) rfl dX10_modulo_5 ?_
    refine wp_goto hb (t := 12) ⟨rfl, rfl⟩ dX10_modulo_6 ?_
    exact wp_retI hb rfl dX10_modulo_12 hv
