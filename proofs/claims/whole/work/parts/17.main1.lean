set_option maxRecDepth 100000 in
theorem v_X10_points {d sn : Nat} {v1 : Int32} {m : mm_Mem} {P : Int32 → mm_Mem → Prop} 
    (hv : ((v1 < nI 3) → (P (-2) m)) ∧ (¬ (v1 < nI 3) → (((v1 ≤ nI 8) → (mm_sp d sn kX6_restart [.ref 2, .int v1] m (qV fun m1 => P (m.1 2 0) m1))) ∧ (¬ (v1 ≤ nI 8) → (P (-2) m))))) :
    mm_sp (d + 1) sn kX10_points [.ref 1, .int v1] m (qI P) := by
  have hb := mb_99
  refine wp_in (la := [some (.ref 1), some (.int v1), none]) ⟨⟨Nat.le_of_ble_eq_true rfl, by decide, by decide⟩, rfl⟩ ?_
  refine wp_iload_n hb rfl dX10_points_0 ?_
  refine wp_iconst hb (x := nI 3) rfl dX10_points_1 ?_
  refine wp_icmp_lt hb (t := 11) ⟨rfl, rfl⟩ dX10_points_2 ⟨fun c1 => ?_, fun c1 => ?_⟩
  · have hv := hv.1 c1
    refine wp_bipush hb (x := (-2)) rfl dX10_points_11 ?_
    exact wp_retI hb rfl dX10_points_13 hv
  · have hv := hv.2 c1
    refine wp_iload_n hb rfl dX10_points_5 ?_
    refine wp_bipush hb (x := nI 8) rfl dX10_points_6 ?_
    refine wp_icmp_le hb (t := 14) ⟨rfl, rfl⟩ dX10_points_8 ⟨fun c2 => ?_, fun c2 => ?_⟩
    · have hv := hv.1 c2
      refine wp_aload_n hb rfl dX10_points_14 ?_
      refine wp_getR hb ko_99 lf_10_12 (by decide) m0_1 r0_1_0 dX10_points_15 ?_
      refine wp_getI hb ko_99 lf_10_84 (by decide) m0_2 dX10_points_18 ?_
      refine wp_istore_n hb rfl dX10_points_21 ?_
      refine wp_aload_n hb rfl dX10_points_22 ?_
      refine wp_getR hb ko_99 lf_10_12 (by decide) m0_1 r0_1_0 dX10_points_23 ?_
      refine wp_iload_n hb rfl dX10_points_26 ?_
      refine wp_callV hb (k' := 60) ko_99 lm_10_88 rfl m0_2 (by decide) (Nat.le_of_ble_eq_true rfl) dX10_points_27 (sp_cV (hv.V (Nat.le_refl _) ?_))
      intro m1 hv
      refine wp_iload_n hb rfl dX10_points_30 ?_
      exact wp_retI hb rfl dX10_points_31 hv
    · have hv := hv.2 c2
      refine wp_bipush hb (x := (-2)) rfl dX10_points_11 ?_
      exact wp_retI hb rfl dX10_points_13 hv
set_option maxRecDepth 100000 in
theorem v_X10_way {d sn : Nat} {v1 : Int32} {v2 : Int32} {m : mm_Mem} {P : Int32 → mm_Mem → Prop} 
    (hv : ((v1 < 0) → (P (-1) m)) ∧ (¬ (v1 < 0) → (((v1 < nI 5) → (((v2 < 0) → (P (-2) m)) ∧ (¬ (v2 < 0) → (((v2 ≤ nI 9) → (((¬ v1 = nI 2) → (mm_sp d sn kX6_spareWay [.ref 2] m (qR fun x6 m1 => (x6 = none → (P (-4) m1)) ∧ (∀ a7, x6 = some a7 → shY a7 ∧ (mm_sp d sn kX9_becomeKind [.ref a7, .int v1, .int v2, .int (m1.1 2 0)] m1 (qV fun m2 => ∀ m3 : mm_Mem, m3 = (mm_u2 m2.1 2 1 ((m2.1 2 1) + (nI 1)), m2.2) → (P (m2.1 2 1) m3))))))) ∧ (¬ (¬ v1 = nI 2) → (mm_sp d sn kX10_haveDivisorInCommon [.int v2, .int (m.1 2 0)] m (qI fun x9 m4 => ((x9 = 0) → (mm_sp d sn kX6_spareWay [.ref 2] m4 (qR fun x11 m5 => (x11 = none → (P (-4) m5)) ∧ (∀ a12, x11 = some a12 → shY a12 ∧ (mm_sp d sn kX9_becomeKind [.ref a12, .int v1, .int v2, .int (m5.1 2 0)] m5 (qV fun m6 => ∀ m7 : mm_Mem, m7 = (mm_u2 m6.1 2 1 ((m6.1 2 1) + (nI 1)), m6.2) → (P (m6.1 2 1) m7))))))) ∧ (¬ (x9 = 0) → (P (-2) m4))))))) ∧ (¬ (v2 ≤ nI 9) → (P (-2) m)))))) ∧ (¬ (v1 < nI 5) → (P (-1) m))))) :
    mm_sp (d + 1) sn kX10_way [.ref 1, .int v1, .int v2] m (qI P) := by
  have hb := mb_100
  refine wp_in (la := [some (.ref 1), some (.int v1), some (.int v2), none]) ⟨⟨Nat.le_of_ble_eq_true rfl, by decide, by decide⟩, rfl⟩ ?_
  refine wp_iload_n hb rfl dX10_way_0 ?_
  refine wp_if_lt hb (y := 0) (t := 9) ⟨rfl, rfl⟩ dX10_way_1 ⟨fun c1 => ?_, fun c1 => ?_⟩
  · have hv := hv.1 c1
    refine wp_iconst hb (x := (-1)) rfl dX10_way_9 ?_
    exact wp_retI hb rfl dX10_way_10 hv
  · have hv := hv.2 c1
    refine wp_iload_n hb rfl dX10_way_4 ?_
    refine wp_iconst hb (x := nI 5) rfl dX10_way_5 ?_
    refine wp_icmp_lt hb (t := 11) ⟨rfl, rfl⟩ dX10_way_6 ⟨fun c2 => ?_, fun c2 => ?_⟩
    · have hv := hv.1 c2
      refine wp_iload_n hb rfl dX10_way_11 ?_
      refine wp_if_lt hb (y := 0) (t := 21) ⟨rfl, rfl⟩ dX10_way_12 ⟨fun c3 => ?_, fun c3 => ?_⟩
      · have hv := hv.1 c3
        refine wp_bipush hb (x := (-2)) rfl dX10_way_21 ?_
        exact wp_retI hb rfl dX10_way_23 hv
      · have hv := hv.2 c3
        refine wp_iload_n hb rfl dX10_way_15 ?_
        refine wp_bipush hb (x := nI 9) rfl dX10_way_16 ?_
        refine wp_icmp_le hb (t := 24) ⟨rfl, rfl⟩ dX10_way_18 ⟨fun c4 => ?_, fun c4 => ?_⟩
        · have hv := hv.1 c4
          refine wp_iload_n hb rfl dX10_way_24 ?_
          refine wp_iconst hb (x := nI 2) rfl dX10_way_25 ?_
          refine wp_icmp_ne hb (t := 46) ⟨rfl, rfl⟩ dX10_way_26 ⟨fun c5 => ?_, fun c5 => ?_⟩
          · have hv := hv.1 c5
            refine wp_aload_n hb rfl dX10_way_46 ?_
            refine wp_getR hb ko_100 lf_10_12 (by decide) m0_1 r0_1_0 dX10_way_47 ?_
            refine wp_callV hb (k' := 67) ko_100 lm_10_96 rfl m0_2 (by decide) (Nat.le_of_ble_eq_true rfl) dX10_way_50 (sp_cR (hv.R (Nat.le_refl _) ?_))
            intro x6 m1 hv
            refine ⟨fun e9 => ?_, fun a9 e9 => ?_⟩
            · have hv := hv.1 e9
              refine wp_astore_nN hb rfl dX10_way_53 ?_
              refine wp_aload_nN hb rfl dX10_way_54 ?_
              refine wp_ifnonnullN hb dX10_way_55 ?_
              refine wp_bipush hb (x := (-4)) rfl dX10_way_58 ?_
              exact wp_retI hb rfl dX10_way_60 hv
            · obtain ⟨ha7, hv⟩ := hv.2 a9 e9
              revert hv ha7
              generalize a9 = a7
              intro ha7 hv
              refine wp_astore_n hb rfl dX10_way_53 ?_
              refine wp_aload_n hb rfl dX10_way_54 ?_
              refine wp_ifnonnull hb (t := 61) ⟨rfl, rfl⟩ dX10_way_55 ?_
              refine wp_aload_n hb rfl dX10_way_61 ?_
              refine wp_iload_n hb rfl dX10_way_62 ?_
              refine wp_iload_n hb rfl dX10_way_63 ?_
              refine wp_aload_n hb rfl dX10_way_64 ?_
              refine wp_getR hb ko_100 lf_10_12 (by decide) m0_1 r0_1_0 dX10_way_65 ?_
              refine wp_getI hb ko_100 lf_10_84 (by decide) m0_2 dX10_way_68 ?_
              refine wp_callV hb (k' := 90) ko_100 lm_10_100 rfl (ha7.2.1 _) (by decide) (Nat.le_of_ble_eq_true rfl) dX10_way_71 (sp_cV (hv.V (Nat.le_refl _) ?_))
              intro m2 hv
              refine wp_aload_n hb rfl dX10_way_74 ?_
              refine wp_getR hb ko_100 lf_10_12 (by decide) m0_1 r0_1_0 dX10_way_75 ?_
              refine wp_dupR hb dX10_way_78 ?_
              refine wp_getI hb ko_100 lf_10_106 (by decide) m0_2 dX10_way_79 ?_
              refine wp_dup_x1 hb dX10_way_82 ?_
              refine wp_iconst hb (x := nI 1) rfl dX10_way_83 ?_
              refine wp_iadd hb dX10_way_84 ?_
              refine wp_putI hb ko_100 lf_10_106 (by decide) m0_2 dX10_way_85 ?_
              have hv := hv _ rfl
              generalize (mm_u2 m2.1 2 1 ((m2.1 2 1) + (nI 1)), m2.2) = m3 at hv ⊢
              exact wp_retI hb rfl dX10_way_88 hv
          · have hv := hv.2 c5
            refine wp_iload_n hb rfl dX10_way_29 ?_
            refine wp_aload_n hb rfl dX10_way_30 ?_
            refine wp_getR hb ko_100 lf_10_12 (by decide) m0_1 r0_1_0 dX10_way_31 ?_
            refine wp_getI hb ko_100 lf_10_84 (by decide) m0_2 dX10_way_34 ?_
            refine wp_callS hb (k' := 142) ko_100 lm_10_92 (by decide) rfl (Nat.le_of_ble_eq_true rfl) dX10_way_37 (sp_cI (hv.I (Nat.le_refl _) ?_))
            intro x9 m4 hv
            refine wp_if_eq hb (y := 0) (t := 46) ⟨rfl, rfl⟩ dX10_way_40 ⟨fun c10 => ?_, fun c10 => ?_⟩
            · have hv := hv.1 c10
              refine wp_aload_n hb rfl dX10_way_46 ?_
              refine wp_getR hb ko_100 lf_10_12 (by decide) m0_1 r0_1_0 dX10_way_47 ?_
              refine wp_callV hb (k' := 67) ko_100 lm_10_96 rfl m0_2 (by decide) (Nat.le_of_ble_eq_true rfl) dX10_way_50 (sp_cR (hv.R (Nat.le_refl _) ?_))
              intro x11 m5 hv
              refine ⟨fun e9 => ?_, fun a9 e9 => ?_⟩
              · have hv := hv.1 e9
                refine wp_astore_nN hb rfl dX10_way_53 ?_
                refine wp_aload_nN hb rfl dX10_way_54 ?_
                refine wp_ifnonnullN hb dX10_way_55 ?_
                refine wp_bipush hb (x := (-4)) rfl dX10_way_58 ?_
                exact wp_retI hb rfl dX10_way_60 hv
              · obtain ⟨ha12, hv⟩ := hv.2 a9 e9
                revert hv ha12
                generalize a9 = a12
                intro ha12 hv
                refine wp_astore_n hb rfl dX10_way_53 ?_
                refine wp_aload_n hb rfl dX10_way_54 ?_
                refine wp_ifnonnull hb (t := 61) ⟨rfl, rfl⟩ dX10_way_55 ?_
                refine wp_aload_n hb rfl dX10_way_61 ?_
                refine wp_iload_n hb rfl dX10_way_62 ?_
                refine wp_iload_n hb rfl dX10_way_63 ?_
                refine wp_aload_n hb rfl dX10_way_64 ?_
                refine wp_getR hb ko_100 lf_10_12 (by decide) m0_1 r0_1_0 dX10_way_65 ?_
                refine wp_getI hb ko_100 lf_10_84 (by decide) m0_2 dX10_way_68 ?_
                refine wp_callV hb (k' := 90) ko_100 lm_10_100 rfl (ha12.2.1 _) (by decide) (Nat.le_of_ble_eq_true rfl) dX10_way_71 (sp_cV (hv.V (Nat.le_refl _) ?_))
                intro m6 hv
                refine wp_aload_n hb rfl dX10_way_74 ?_
                refine wp_getR hb ko_100 lf_10_12 (by decide) m0_1 r0_1_0 dX10_way_75 ?_
                refine wp_dupR hb dX10_way_78 ?_
                refine wp_getI hb ko_100 lf_10_106 (by decide) m0_2 dX10_way_79 ?_
                refine wp_dup_x1 hb dX10_way_82 ?_
                refine wp_iconst hb (x := nI 1) rfl dX10_way_83 ?_
                refine wp_iadd hb dX10_way_84 ?_
                refine wp_putI hb ko_100 lf_10_106 (by decide) m0_2 dX10_way_85 ?_
                have hv := hv _ rfl
                generalize (mm_u2 m6.1 2 1 ((m6.1 2 1) + (nI 1)), m6.2) = m7 at hv ⊢
                exact wp_retI hb rfl dX10_way_88 hv
            · have hv := hv.2 c10
              refine wp_bipush hb (x := (-2)) rfl dX10_way_43 ?_
              exact wp_retI hb rfl dX10_way_45 hv
        · have hv := hv.2 c4
          refine wp_bipush hb (x := (-2)) rfl dX10_way_21 ?_
          exact wp_retI hb rfl dX10_way_23 hv
    · have hv := hv.2 c2
      refine wp_iconst hb (x := (-1)) rfl dX10_way_9 ?_
      exact wp_retI hb rfl dX10_way_10 hv
set_option maxRecDepth 100000 in
theorem v_X10_hand {d sn : Nat} {v1 : Int32} {m : mm_Mem} {P : Int32 → mm_Mem → Prop} 
    (hv : mm_sp d sn kX10_isArrangement [.int v1, .int (m.1 2 0)] m (qI fun x1 m1 => ((¬ x1 = 0) → (mm_sp d sn kX6_spareWay [.ref 2] m1 (qR fun x3 m2 => (x3 = none → (P (-4) m2)) ∧ (∀ a4, x3 = some a4 → shY a4 ∧ (mm_sp d sn kX9_becomeByHand [.ref a4, .int v1, .int (m2.1 2 0)] m2 (qV fun m3 => ∀ m4 : mm_Mem, m4 = (mm_u2 m3.1 2 1 ((m3.1 2 1) + (nI 1)), m3.2) → (P (m3.1 2 1) m4))))))) ∧ (¬ (¬ x1 = 0) → (P (-2) m1)))) :
    mm_sp (d + 1) sn kX10_hand [.ref 1, .int v1] m (qI P) := by
  have hb := mb_101
  refine wp_in (la := [some (.ref 1), some (.int v1), none]) ⟨⟨Nat.le_of_ble_eq_true rfl, by decide, by decide⟩, rfl⟩ ?_
  refine wp_iload_n hb rfl dX10_hand_0 ?_
  refine wp_aload_n hb rfl dX10_hand_1 ?_
  refine wp_getR hb ko_101 lf_10_12 (by decide) m0_1 r0_1_0 dX10_hand_2 ?_
  refine wp_getI hb ko_101 lf_10_84 (by decide) m0_2 dX10_hand_5 ?_
  refine wp_callS hb (k' := 143) ko_101 lm_10_109 (by decide) rfl (Nat.le_of_ble_eq_true rfl) dX10_hand_8 (sp_cI (hv.I (Nat.le_refl _) ?_))
  intro x1 m1 hv
  refine wp_if_ne hb (y := 0) (t := 17) ⟨rfl, rfl⟩ dX10_hand_11 ⟨fun c2 => ?_, fun c2 => ?_⟩
  · have hv := hv.1 c2
    refine wp_aload_n hb rfl dX10_hand_17 ?_
    refine wp_getR hb ko_101 lf_10_12 (by decide) m0_1 r0_1_0 dX10_hand_18 ?_
    refine wp_callV hb (k' := 67) ko_101 lm_10_96 rfl m0_2 (by decide) (Nat.le_of_ble_eq_true rfl) dX10_hand_21 (sp_cR (hv.R (Nat.le_refl _) ?_))
    intro x3 m2 hv
    refine ⟨fun e9 => ?_, fun a9 e9 => ?_⟩
    · have hv := hv.1 e9
      refine wp_astore_nN hb rfl dX10_hand_24 ?_
      refine wp_aload_nN hb rfl dX10_hand_25 ?_
      refine wp_ifnonnullN hb dX10_hand_26 ?_
      refine wp_bipush hb (x := (-4)) rfl dX10_hand_29 ?_
      exact wp_retI hb rfl dX10_hand_31 hv
    · obtain ⟨ha4, hv⟩ := hv.2 a9 e9
      revert hv ha4
      generalize a9 = a4
      intro ha4 hv
      refine wp_astore_n hb rfl dX10_hand_24 ?_
      refine wp_aload_n hb rfl dX10_hand_25 ?_
      refine wp_ifnonnull hb (t := 32) ⟨rfl, rfl⟩ dX10_hand_26 ?_
      refine wp_aload_n hb rfl dX10_hand_32 ?_
      refine wp_iload_n hb rfl dX10_hand_33 ?_
      refine wp_aload_n hb rfl dX10_hand_34 ?_
      refine wp_getR hb ko_101 lf_10_12 (by decide) m0_1 r0_1_0 dX10_hand_35 ?_
      refine wp_getI hb ko_101 lf_10_84 (by decide) m0_2 dX10_hand_38 ?_
      refine wp_callV hb (k' := 93) ko_101 lm_10_112 rfl (ha4.2.1 _) (by decide) (Nat.le_of_ble_eq_true rfl) dX10_hand_41 (sp_cV (hv.V (Nat.le_refl _) ?_))
      intro m3 hv
      refine wp_aload_n hb rfl dX10_hand_44 ?_
      refine wp_getR hb ko_101 lf_10_12 (by decide) m0_1 r0_1_0 dX10_hand_45 ?_
      refine wp_dupR hb dX10_hand_48 ?_
      refine wp_getI hb ko_101 lf_10_106 (by decide) m0_2 dX10_hand_49 ?_
      refine wp_dup_x1 hb dX10_hand_52 ?_
      refine wp_iconst hb (x := nI 1) rfl dX10_hand_53 ?_
      refine wp_iadd hb dX10_hand_54 ?_
      refine wp_putI hb ko_101 lf_10_106 (by decide) m0_2 dX10_hand_55 ?_
      have hv := hv _ rfl
      generalize (mm_u2 m3.1 2 1 ((m3.1 2 1) + (nI 1)), m3.2) = m4 at hv ⊢
      exact wp_retI hb rfl dX10_hand_58 hv
  · have hv := hv.2 c2
    refine wp_bipush hb (x := (-2)) rfl dX10_hand_14 ?_
    exact wp_retI hb rfl dX10_hand_16 hv
set_option maxRecDepth 100000 in
theorem v_X10_drop {d sn : Nat} {v1 : Int32} {m : mm_Mem} {P : Int32 → mm_Mem → Prop} 
    (hv : mm_sp d sn kX6_wayAt [.ref 2, .int v1] m (qR fun x1 m1 => (x1 = none → (P (-1) m1)) ∧ (∀ a2, x1 = some a2 → shY a2 ∧ (mm_sp d sn kX6_removeWay [.ref 2, .int v1] m1 (qV fun m2 => P (m2.1 2 1) m2))))) :
    mm_sp (d + 1) sn kX10_drop [.ref 1, .int v1] m (qI P) := by
  have hb := mb_102
  refine wp_in (la := [some (.ref 1), some (.int v1)]) ⟨⟨Nat.le_of_ble_eq_true rfl, by decide, by decide⟩, rfl⟩ ?_
  refine wp_aload_n hb rfl dX10_drop_0 ?_
  refine wp_getR hb ko_102 lf_10_12 (by decide) m0_1 r0_1_0 dX10_drop_1 ?_
  refine wp_iload_n hb rfl dX10_drop_4 ?_
  refine wp_callV hb (k' := 66) ko_102 lm_10_116 rfl m0_2 (by decide) (Nat.le_of_ble_eq_true rfl) dX10_drop_5 (sp_cR (hv.R (Nat.le_refl _) ?_))
  intro x1 m1 hv
  refine ⟨fun e9 => ?_, fun a9 e9 => ?_⟩
  · have hv := hv.1 e9
    refine wp_ifnonnullN hb dX10_drop_8 ?_
    refine wp_iconst hb (x := (-1)) rfl dX10_drop_11 ?_
    exact wp_retI hb rfl dX10_drop_12 hv
  · obtain ⟨ha2, hv⟩ := hv.2 a9 e9
    revert hv ha2
    generalize a9 = a2
    intro ha2 hv
    refine wp_ifnonnull hb (t := 13) ⟨rfl, rfl⟩ dX10_drop_8 ?_
    refine wp_aload_n hb rfl dX10_drop_13 ?_
    refine wp_getR hb ko_102 lf_10_12 (by decide) m0_1 r0_1_0 dX10_drop_14 ?_
    refine wp_iload_n hb rfl dX10_drop_17 ?_
    refine wp_callV hb (k' := 68) ko_102 lm_10_120 rfl m0_2 (by decide) (Nat.le_of_ble_eq_true rfl) dX10_drop_18 (sp_cV (hv.V (Nat.le_refl _) ?_))
    intro m2 hv
    refine wp_aload_n hb rfl dX10_drop_21 ?_
    refine wp_getR hb ko_102 lf_10_12 (by decide) m0_1 r0_1_0 dX10_drop_22 ?_
    refine wp_getI hb ko_102 lf_10_106 (by decide) m0_2 dX10_drop_25 ?_
    exact wp_retI hb rfl dX10_drop_28 hv
set_option maxRecDepth 100000 in
theorem v_X10_wayOf {d sn : Nat} {v1 : Int32} {v2 : Int32} {m : mm_Mem} {P : Int32 → mm_Mem → Prop} 
    (hv : mm_sp d sn kX6_wayAt [.ref 2, .int v1] m (qR fun x1 m1 => (x1 = none → (P (-1) m1)) ∧ (∀ a2, x1 = some a2 → shY a2 ∧ ((v2 = nI 0 → (P (m1.1 a2 0) m1)) ∧ (v2 = nI 1 → (P (m1.1 a2 1) m1)) ∧ (v2 = nI 2 → (mm_sp d sn kX0_areKeptBy [.ref 3, .ref a2] m1 (qI fun x6 m2 => ((x6 = 0) → (P (nI 0) m2)) ∧ (¬ (x6 = 0) → (P (nI 1) m2))))) ∧ (v2 = nI 3 → (mm_sp d sn kX9_period [.ref a2] m1 (qI fun x9 m3 => P x9 m3))) ∧ (¬ v2 = nI 0 → ¬ v2 = nI 1 → ¬ v2 = nI 2 → ¬ v2 = nI 3 → (P (-1) m1)))))) :
    mm_sp (d + 1) sn kX10_wayOf [.ref 1, .int v1, .int v2] m (qI P) := by
  have hb := mb_103
  refine wp_in (la := [some (.ref 1), some (.int v1), some (.int v2), none]) ⟨⟨Nat.le_of_ble_eq_true rfl, by decide, by decide⟩, rfl⟩ ?_
  refine wp_aload_n hb rfl dX10_wayOf_0 ?_
  refine wp_getR hb ko_103 lf_10_12 (by decide) m0_1 r0_1_0 dX10_wayOf_1 ?_
  refine wp_iload_n hb rfl dX10_wayOf_4 ?_
  refine wp_callV hb (k' := 66) ko_103 lm_10_116 rfl m0_2 (by decide) (Nat.le_of_ble_eq_true rfl) dX10_wayOf_5 (sp_cR (hv.R (Nat.le_refl _) ?_))
  intro x1 m1 hv
  refine ⟨fun e9 => ?_, fun a9 e9 => ?_⟩
  · have hv := hv.1 e9
    refine wp_astore_nN hb rfl dX10_wayOf_8 ?_
    refine wp_aload_nN hb rfl dX10_wayOf_9 ?_
    refine wp_ifnonnullN hb dX10_wayOf_10 ?_
    refine wp_iconst hb (x := (-1)) rfl dX10_wayOf_13 ?_
    exact wp_retI hb rfl dX10_wayOf_14 hv
  · obtain ⟨ha2, hv⟩ := hv.2 a9 e9
    revert hv ha2
    generalize a9 = a2
    intro ha2 hv
    refine wp_astore_n hb rfl dX10_wayOf_8 ?_
    refine wp_aload_n hb rfl dX10_wayOf_9 ?_
    refine wp_ifnonnull hb (t := 15) ⟨rfl, rfl⟩ dX10_wayOf_10 ?_
    refine wp_iload_n hb rfl dX10_wayOf_15 ?_
    by_cases hc : v2.toInt < 0 ∨ 3 < v2.toInt
    · refine wp_tabO hb hc (t := 83) ⟨rfl, rfl⟩ dX10_wayOf_16 ?_
      have hv := hv.2.2.2.2 (mm_out hc (by decide) (by decide)) (mm_out hc (by decide) (by decide)) (mm_out hc (by decide) (by decide)) (mm_out hc (by decide) (by decide))
      refine wp_iconst hb (x := (-1)) rfl dX10_wayOf_83 ?_
      exact wp_retI hb rfl dX10_wayOf_84 hv
    · have hx := mm_tabc (n := 4) (lo := 0) (by decide) hc (by decide)
      obtain ⟨j, hj, hx⟩ := hx
      by_cases g0 : j = 0
      · subst g0
        have hv := hv.1 hx
        have hc9 := hc
        rw [hx] at hc9 ⊢
        refine wp_tabI hb (off := 32) hc9 rfl (t := 48) ⟨rfl, rfl⟩ dX10_wayOf_16 ?_
        refine wp_aload_n hb rfl dX10_wayOf_48 ?_
        refine wp_getI hb ko_103 lf_10_123 (by decide) (ha2.2.1 _) dX10_wayOf_49 ?_
        exact wp_retI hb rfl dX10_wayOf_52 hv
      by_cases g1 : j = 1
      · subst g1
        have hv := hv.2.1 hx
        have hc9 := hc
        rw [hx] at hc9 ⊢
        refine wp_tabI hb (off := 37) hc9 rfl (t := 53) ⟨rfl, rfl⟩ dX10_wayOf_16 ?_
        refine wp_aload_n hb rfl dX10_wayOf_53 ?_
        refine wp_getI hb ko_103 lf_10_126 (by decide) (ha2.2.1 _) dX10_wayOf_54 ?_
        exact wp_retI hb rfl dX10_wayOf_57 hv
      by_cases g2 : j = 2
      · subst g2
        have hv := hv.2.2.1 hx
        have hc9 := hc
        rw [hx] at hc9 ⊢
        refine wp_tabI hb (off := 42) hc9 rfl (t := 58) ⟨rfl, rfl⟩ dX10_wayOf_16 ?_
        refine wp_aload_n hb rfl dX10_wayOf_58 ?_
        refine wp_getR hb ko_103 lf_10_12 (by decide) m0_1 r0_1_0 dX10_wayOf_59 ?_
        refine wp_getR hb ko_103 lf_10_129 (by decide) m0_2 r0_2_3 dX10_wayOf_62 ?_
        refine wp_aload_n hb rfl dX10_wayOf_65 ?_
        refine wp_callV hb (k' := 9) ko_103 lm_10_132 rfl m0_3 (by decide) (Nat.le_of_ble_eq_true rfl) dX10_wayOf_66 (sp_cI (hv.I (Nat.le_refl _) ?_))
        intro x6 m2 hv
        refine wp_if_eq hb (y := 0) (t := 76) ⟨rfl, rfl⟩ dX10_wayOf_69 ⟨fun c7 => ?_, fun c7 => ?_⟩
        · have hv := hv.1 c7
          refine wp_iconst hb (x := nI 0) rfl dX10_wayOf_76 ?_
          exact wp_retI hb rfl dX10_wayOf_77 hv
        · have hv := hv.2 c7
          refine wp_iconst hb (x := nI 1) rfl dX10_wayOf_72 ?_
          refine wp_goto hb (t := 77) ⟨rfl, rfl⟩ dX10_wayOf_73 ?_
          exact wp_retI hb rfl dX10_wayOf_77 hv
      by_cases g3 : j = 3
      · subst g3
        have hv := hv.2.2.2.1 hx
        have hc9 := hc
        rw [hx] at hc9 ⊢
        refine wp_tabI hb (off := 62) hc9 rfl (t := 78) ⟨rfl, rfl⟩ dX10_wayOf_16 ?_
        refine wp_aload_n hb rfl dX10_wayOf_78 ?_
        refine wp_callV hb (k' := 96) ko_103 lm_10_136 rfl (ha2.2.1 _) (by decide) (Nat.le_of_ble_eq_true rfl) dX10_wayOf_79 (sp_cI (hv.I (Nat.le_refl _) ?_))
        intro x9 m3 hv
        exact wp_retI hb rfl dX10_wayOf_82 hv
      omega
set_option maxRecDepth 100000 in
theorem v_X10_takes {d sn : Nat} {v1 : Int32} {v2 : Int32} {m : mm_Mem} {P : Int32 → mm_Mem → Prop} 
    (hv : mm_sp d sn kX6_wayAt [.ref 2, .int v1] m (qR fun x1 m1 => (x1 = none → (P (-1) m1)) ∧ (∀ a2, x1 = some a2 → shY a2 ∧ (mm_sp d sn kX6_isPoint [.ref 2, .int v2] m1 (qI fun x3 m2 => ((¬ x3 = 0) → (mm_sp d sn kX9_pointFor [.ref a2, .int v2] m2 (qI fun x5 m3 => P x5 m3))) ∧ (¬ (¬ x3 = 0) → (P (-1) m2))))))) :
    mm_sp (d + 1) sn kX10_takes [.ref 1, .int v1, .int v2] m (qI P) := by
  have hb := mb_104
  refine wp_in (la := [some (.ref 1), some (.int v1), some (.int v2), none]) ⟨⟨Nat.le_of_ble_eq_true rfl, by decide, by decide⟩, rfl⟩ ?_
  refine wp_aload_n hb rfl dX10_takes_0 ?_
  refine wp_getR hb ko_104 lf_10_12 (by decide) m0_1 r0_1_0 dX10_takes_1 ?_
  refine wp_iload_n hb rfl dX10_takes_4 ?_
  refine wp_callV hb (k' := 66) ko_104 lm_10_116 rfl m0_2 (by decide) (Nat.le_of_ble_eq_true rfl) dX10_takes_5 (sp_cR (hv.R (Nat.le_refl _) ?_))
  intro x1 m1 hv
  refine ⟨fun e9 => ?_, fun a9 e9 => ?_⟩
  · have hv := hv.1 e9
    refine wp_astore_nN hb rfl dX10_takes_8 ?_
    refine wp_aload_nN hb rfl dX10_takes_9 ?_
    refine wp_ifnullN hb (t := 24) ⟨rfl, rfl⟩ dX10_takes_10 ?_
    refine wp_iconst hb (x := (-1)) rfl dX10_takes_24 ?_
    exact wp_retI hb rfl dX10_takes_25 hv
  · obtain ⟨ha2, hv⟩ := hv.2 a9 e9
    revert hv ha2
    generalize a9 = a2
    intro ha2 hv
    refine wp_astore_n hb rfl dX10_takes_8 ?_
    refine wp_aload_n hb rfl dX10_takes_9 ?_
    refine wp_ifnull hb dX10_takes_10 ?_
    refine wp_aload_n hb rfl dX10_takes_13 ?_
    refine wp_getR hb ko_104 lf_10_12 (by decide) m0_1 r0_1_0 dX10_takes_14 ?_
    refine wp_iload_n hb rfl dX10_takes_17 ?_
    refine wp_callV hb (k' := 62) ko_104 lm_10_140 rfl m0_2 (by decide) (Nat.le_of_ble_eq_true rfl) dX10_takes_18 (sp_cI (hv.I (Nat.le_refl _) ?_))
    intro x3 m2 hv
    refine wp_if_ne hb (y := 0) (t := 26) ⟨rfl, rfl⟩ dX10_takes_21 ⟨fun c4 => ?_, fun c4 => ?_⟩
    · have hv := hv.1 c4
      refine wp_aload_n hb rfl dX10_takes_26 ?_
      refine wp_iload_n hb rfl dX10_takes_27 ?_
      refine wp_callV hb (k' := 94) ko_104 lm_10_144 rfl (ha2.2.1 _) (by decide) (Nat.le_of_ble_eq_true rfl) dX10_takes_28 (sp_cI (hv.I (Nat.le_refl _) ?_))
      intro x5 m3 hv
      exact wp_retI hb rfl dX10_takes_31 hv
    · have hv := hv.2 c4
      refine wp_iconst hb (x := (-1)) rfl dX10_takes_24 ?_
      exact wp_retI hb rfl dX10_takes_25 hv
set_option maxRecDepth 100000 in
theorem v_X10_moves {d sn : Nat} {v1 : Int32} {v2 : Int32} {m : mm_Mem} {P : Int32 → mm_Mem → Prop} 
    (hv : mm_sp d sn kX6_wayAt [.ref 2, .int v1] m (qR fun x1 m1 => (x1 = none → (P (-1) m1)) ∧ (∀ a2, x1 = some a2 → shY a2 ∧ (mm_sp d sn kX6_isSet [.ref 2, .int v2] m1 (qI fun x3 m2 => ((¬ x3 = 0) → (mm_sp d sn kX9_setFor [.ref a2, .int v2] m2 (qI fun x5 m3 => P x5 m3))) ∧ (¬ (¬ x3 = 0) → (P (-1) m2))))))) :
    mm_sp (d + 1) sn kX10_moves [.ref 1, .int v1, .int v2] m (qI P) := by
  have hb := mb_105
  refine wp_in (la := [some (.ref 1), some (.int v1), some (.int v2), none]) ⟨⟨Nat.le_of_ble_eq_true rfl, by decide, by decide⟩, rfl⟩ ?_
  refine wp_aload_n hb rfl dX10_moves_0 ?_
  refine wp_getR hb ko_105 lf_10_12 (by decide) m0_1 r0_1_0 dX10_moves_1 ?_
  refine wp_iload_n hb rfl dX10_moves_4 ?_
  refine wp_callV hb (k' := 66) ko_105 lm_10_116 rfl m0_2 (by decide) (Nat.le_of_ble_eq_true rfl) dX10_moves_5 (sp_cR (hv.R (Nat.le_refl _) ?_))
  intro x1 m1 hv
  refine ⟨fun e9 => ?_, fun a9 e9 => ?_⟩
  · have hv := hv.1 e9
    refine wp_astore_nN hb rfl dX10_moves_8 ?_
    refine wp_aload_nN hb rfl dX10_moves_9 ?_
    refine wp_ifnullN hb (t := 24) ⟨rfl, rfl⟩ dX10_moves_10 ?_
    refine wp_iconst hb (x := (-1)) rfl dX10_moves_24 ?_
    exact wp_retI hb rfl dX10_moves_25 hv
  · obtain ⟨ha2, hv⟩ := hv.2 a9 e9
    revert hv ha2
    generalize a9 = a2
    intro ha2 hv
    refine wp_astore_n hb rfl dX10_moves_8 ?_
    refine wp_aload_n hb rfl dX10_moves_9 ?_
    refine wp_ifnull hb dX10_moves_10 ?_
    refine wp_aload_n hb rfl dX10_moves_13 ?_
    refine wp_getR hb ko_105 lf_10_12 (by decide) m0_1 r0_1_0 dX10_moves_14 ?_
    refine wp_iload_n hb rfl dX10_moves_17 ?_
    refine wp_callV hb (k' := 64) ko_105 lm_10_148 rfl m0_2 (by decide) (Nat.le_of_ble_eq_true rfl) dX10_moves_18 (sp_cI (hv.I (Nat.le_refl _) ?_))
    intro x3 m2 hv
    refine wp_if_ne hb (y := 0) (t := 26) ⟨rfl, rfl⟩ dX10_moves_21 ⟨fun c4 => ?_, fun c4 => ?_⟩
    · have hv := hv.1 c4
      refine wp_aload_n hb rfl dX10_moves_26 ?_
      refine wp_iload_n hb rfl dX10_moves_27 ?_
      refine wp_callV hb (k' := 95) ko_105 lm_10_151 rfl (ha2.2.1 _) (by decide) (Nat.le_of_ble_eq_true rfl) dX10_moves_28 (sp_cI (hv.I (Nat.le_refl _) ?_))
      intro x5 m3 hv
      exact wp_retI hb rfl dX10_moves_31 hv
    · have hv := hv.2 c4
      refine wp_iconst hb (x := (-1)) rfl dX10_moves_24 ?_
      exact wp_retI hb rfl dX10_moves_25 hv
set_option maxRecDepth 100000 in
theorem v_X10_order {d sn : Nat} {m : mm_Mem} {P : Int32 → mm_Mem → Prop} 
    (hv : mm_sp d sn kX2_orderOf [.ref 63, .ref 2] m (qI fun x1 m1 => P x1 m1)) :
    mm_sp (d + 1) sn kX10_order [.ref 1] m (qI P) := by
  have hb := mb_106
  refine wp_in (la := [some (.ref 1)]) ⟨⟨Nat.le_of_ble_eq_true rfl, by decide, by decide⟩, rfl⟩ ?_
  refine wp_aload_n hb rfl dX10_order_0 ?_
  refine wp_getR hb ko_106 lf_10_49 (by decide) m0_1 r0_1_6 dX10_order_1 ?_
  refine wp_aload_n hb rfl dX10_order_4 ?_
  refine wp_getR hb ko_106 lf_10_12 (by decide) m0_1 r0_1_0 dX10_order_5 ?_
  refine wp_callV hb (k' := 30) ko_106 lm_10_154 rfl m0_63 (by decide) (Nat.le_of_ble_eq_true rfl) dX10_order_8 (sp_cI (hv.I (Nat.le_refl _) ?_))
  intro x1 m1 hv
  exact wp_retI hb rfl dX10_order_11 hv
set_option maxRecDepth 100000 in
theorem v_X10_orbits {d sn : Nat} {v1 : Int32} {m : mm_Mem} {P : Int32 → mm_Mem → Prop} 
    (hv : mm_sp d sn kX6_isSize [.ref 2, .int v1] m (qI fun x1 m1 => ((¬ x1 = 0) → (mm_sp d sn kX5_find [.ref 59, .ref 2] m1 (qV fun m2 => mm_sp d sn kX5_amountOf [.ref 59, .int v1] m2 (qI fun x4 m3 => P x4 m3)))) ∧ (¬ (¬ x1 = 0) → (P (-2) m1)))) :
    mm_sp (d + 1) sn kX10_orbits [.ref 1, .int v1] m (qI P) := by
  have hb := mb_107
  refine wp_in (la := [some (.ref 1), some (.int v1)]) ⟨⟨Nat.le_of_ble_eq_true rfl, by decide, by decide⟩, rfl⟩ ?_
  refine wp_aload_n hb rfl dX10_orbits_0 ?_
  refine wp_getR hb ko_107 lf_10_12 (by decide) m0_1 r0_1_0 dX10_orbits_1 ?_
  refine wp_iload_n hb rfl dX10_orbits_4 ?_
  refine wp_callV hb (k' := 63) ko_107 lm_10_158 rfl m0_2 (by decide) (Nat.le_of_ble_eq_true rfl) dX10_orbits_5 (sp_cI (hv.I (Nat.le_refl _) ?_))
  intro x1 m1 hv
  refine wp_if_ne hb (y := 0) (t := 14) ⟨rfl, rfl⟩ dX10_orbits_8 ⟨fun c2 => ?_, fun c2 => ?_⟩
  · have hv := hv.1 c2
    refine wp_aload_n hb rfl dX10_orbits_14 ?_
    refine wp_getR hb ko_107 lf_10_42 (by decide) m0_1 r0_1_5 dX10_orbits_15 ?_
    refine wp_aload_n hb rfl dX10_orbits_18 ?_
    refine wp_getR hb ko_107 lf_10_12 (by decide) m0_1 r0_1_0 dX10_orbits_19 ?_
    refine wp_callV hb (k' := 48) ko_107 lm_10_161 rfl m0_59 (by decide) (Nat.le_of_ble_eq_true rfl) dX10_orbits_22 (sp_cV (hv.V (Nat.le_refl _) ?_))
    intro m2 hv
    refine wp_aload_n hb rfl dX10_orbits_25 ?_
    refine wp_getR hb ko_107 lf_10_42 (by decide) m0_1 r0_1_5 dX10_orbits_26 ?_
    refine wp_iload_n hb rfl dX10_orbits_29 ?_
    refine wp_callV hb (k' := 51) ko_107 lm_10_165 rfl m0_59 (by decide) (Nat.le_of_ble_eq_true rfl) dX10_orbits_30 (sp_cI (hv.I (Nat.le_refl _) ?_))
    intro x4 m3 hv
    exact wp_retI hb rfl dX10_orbits_33 hv
  · have hv := hv.2 c2
    refine wp_bipush hb (x := (-2)) rfl dX10_orbits_11 ?_
    exact wp_retI hb rfl dX10_orbits_13 hv
set_option maxRecDepth 100000 in
theorem v_X10_orbit {d sn : Nat} {v1 : Int32} {v2 : Int32} {v3 : Int32} {m : mm_Mem} {P : Int32 → mm_Mem → Prop} 
    (hv : mm_sp d sn kX6_isSize [.ref 2, .int v1] m (qI fun x1 m1 => ((¬ x1 = 0) → (mm_sp d sn kX5_find [.ref 59, .ref 2] m1 (qV fun m2 => mm_sp d sn kX5_isOrbit [.ref 59, .int v1, .int v2] m2 (qI fun x4 m3 => ((¬ x4 = 0) → ((v3 = nI 0 → (mm_sp d sn kX5_setAt [.ref 59, .int v1, .int v2, .int (nI 0)] m3 (qI fun x7 m4 => P x7 m4))) ∧ (v3 = nI 1 → (mm_sp d sn kX5_setsIn [.ref 59, .int v1, .int v2] m3 (qI fun x9 m5 => P x9 m5))) ∧ (v3 = nI 2 → (mm_sp d sn kX5_greatestOf [.ref 59, .int v1, .int v2] m3 (qI fun x11 m6 => P x11 m6))) ∧ (¬ v3 = nI 0 → ¬ v3 = nI 1 → ¬ v3 = nI 2 → (P (-1) m3)))) ∧ (¬ (¬ x4 = 0) → (P (-1) m3)))))) ∧ (¬ (¬ x1 = 0) → (P (-2) m1)))) :
    mm_sp (d + 1) sn kX10_orbit [.ref 1, .int v1, .int v2, .int v3] m (qI P) := by
  have hb := mb_108
  refine wp_in (la := [some (.ref 1), some (.int v1), some (.int v2), some (.int v3)]) ⟨⟨Nat.le_of_ble_eq_true rfl, by decide, by decide⟩, rfl⟩ ?_
  refine wp_aload_n hb rfl dX10_orbit_0 ?_
  refine wp_getR hb ko_108 lf_10_12 (by decide) m0_1 r0_1_0 dX10_orbit_1 ?_
  refine wp_iload_n hb rfl dX10_orbit_4 ?_
  refine wp_callV hb (k' := 63) ko_108 lm_10_158 rfl m0_2 (by decide) (Nat.le_of_ble_eq_true rfl) dX10_orbit_5 (sp_cI (hv.I (Nat.le_refl _) ?_))
  intro x1 m1 hv
  refine wp_if_ne hb (y := 0) (t := 14) ⟨rfl, rfl⟩ dX10_orbit_8 ⟨fun c2 => ?_, fun c2 => ?_⟩
  · have hv := hv.1 c2
    refine wp_aload_n hb rfl dX10_orbit_14 ?_
    refine wp_getR hb ko_108 lf_10_42 (by decide) m0_1 r0_1_5 dX10_orbit_15 ?_
    refine wp_aload_n hb rfl dX10_orbit_18 ?_
    refine wp_getR hb ko_108 lf_10_12 (by decide) m0_1 r0_1_0 dX10_orbit_19 ?_
    refine wp_callV hb (k' := 48) ko_108 lm_10_161 rfl m0_59 (by decide) (Nat.le_of_ble_eq_true rfl) dX10_orbit_22 (sp_cV (hv.V (Nat.le_refl _) ?_))
    intro m2 hv
    refine wp_aload_n hb rfl dX10_orbit_25 ?_
    refine wp_getR hb ko_108 lf_10_42 (by decide) m0_1 r0_1_5 dX10_orbit_26 ?_
    refine wp_iload_n hb rfl dX10_orbit_29 ?_
    refine wp_iload_n hb rfl dX10_orbit_30 ?_
    refine wp_callV hb (k' := 52) ko_108 lm_10_168 rfl m0_59 (by decide) (Nat.le_of_ble_eq_true rfl) dX10_orbit_31 (sp_cI (hv.I (Nat.le_refl _) ?_))
    intro x4 m3 hv
    refine wp_if_ne hb (y := 0) (t := 39) ⟨rfl, rfl⟩ dX10_orbit_34 ⟨fun c5 => ?_, fun c5 => ?_⟩
    · have hv := hv.1 c5
      refine wp_iload_n hb rfl dX10_orbit_39 ?_
      by_cases hc : v3.toInt < 0 ∨ 2 < v3.toInt
      · refine wp_tabO hb hc (t := 99) ⟨rfl, rfl⟩ dX10_orbit_40 ?_
        have hv := hv.2.2.2 (mm_out hc (by decide) (by decide)) (mm_out hc (by decide) (by decide)) (mm_out hc (by decide) (by decide))
        refine wp_iconst hb (x := (-1)) rfl dX10_orbit_99 ?_
        exact wp_retI hb rfl dX10_orbit_100 hv
      · have hx := mm_tabc (n := 3) (lo := 0) (by decide) hc (by decide)
        obtain ⟨j, hj, hx⟩ := hx
        by_cases g0 : j = 0
        · subst g0
          have hv := hv.1 hx
          have hc9 := hc
          rw [hx] at hc9 ⊢
          refine wp_tabI hb (off := 28) hc9 rfl (t := 68) ⟨rfl, rfl⟩ dX10_orbit_40 ?_
          refine wp_aload_n hb rfl dX10_orbit_68 ?_
          refine wp_getR hb ko_108 lf_10_42 (by decide) m0_1 r0_1_5 dX10_orbit_69 ?_
          refine wp_iload_n hb rfl dX10_orbit_72 ?_
          refine wp_iload_n hb rfl dX10_orbit_73 ?_
          refine wp_iconst hb (x := nI 0) rfl dX10_orbit_74 ?_
          refine wp_callV hb (k' := 55) ko_108 lm_10_171 rfl m0_59 (by decide) (Nat.le_of_ble_eq_true rfl) dX10_orbit_75 (sp_cI (hv.I (Nat.le_refl _) ?_))
          intro x7 m4 hv
          exact wp_retI hb rfl dX10_orbit_78 hv
        by_cases g1 : j = 1
        · subst g1
          have hv := hv.2.1 hx
          have hc9 := hc
          rw [hx] at hc9 ⊢
          refine wp_tabI hb (off := 39) hc9 rfl (t := 79) ⟨rfl, rfl⟩ dX10_orbit_40 ?_
          refine wp_aload_n hb rfl dX10_orbit_79 ?_
          refine wp_getR hb ko_108 lf_10_42 (by decide) m0_1 r0_1_5 dX10_orbit_80 ?_
          refine wp_iload_n hb rfl dX10_orbit_83 ?_
          refine wp_iload_n hb rfl dX10_orbit_84 ?_
          refine wp_callV hb (k' := 57) ko_108 lm_10_175 rfl m0_59 (by decide) (Nat.le_of_ble_eq_true rfl) dX10_orbit_85 (sp_cI (hv.I (Nat.le_refl _) ?_))
          intro x9 m5 hv
          exact wp_retI hb rfl dX10_orbit_88 hv
        by_cases g2 : j = 2
        · subst g2
          have hv := hv.2.2.1 hx
          have hc9 := hc
          rw [hx] at hc9 ⊢
          refine wp_tabI hb (off := 49) hc9 rfl (t := 89) ⟨rfl, rfl⟩ dX10_orbit_40 ?_
          refine wp_aload_n hb rfl dX10_orbit_89 ?_
          refine wp_getR hb ko_108 lf_10_42 (by decide) m0_1 r0_1_5 dX10_orbit_90 ?_
          refine wp_iload_n hb rfl dX10_orbit_93 ?_
          refine wp_iload_n hb rfl dX10_orbit_94 ?_
          refine wp_callV hb (k' := 56) ko_108 lm_10_179 rfl m0_59 (by decide) (Nat.le_of_ble_eq_true rfl) dX10_orbit_95 (sp_cI (hv.I (Nat.le_refl _) ?_))
          intro x11 m6 hv
          exact wp_retI hb rfl dX10_orbit_98 hv
        omega
    · have hv := hv.2 c5
      refine wp_iconst hb (x := (-1)) rfl dX10_orbit_37 ?_
      exact wp_retI hb rfl dX10_orbit_38 hv
  · have hv := hv.2 c2
    refine wp_bipush hb (x := (-2)) rfl dX10_orbit_11 ?_
    exact wp_retI hb rfl dX10_orbit_13 hv
set_option maxRecDepth 100000 in
theorem v_X10_member {d sn : Nat} {v1 : Int32} {v2 : Int32} {v3 : Int32} {m : mm_Mem} {P : Int32 → mm_Mem → Prop} 
    (hv : mm_sp d sn kX6_isSize [.ref 2, .int v1] m (qI fun x1 m1 => ((¬ x1 = 0) → (mm_sp d sn kX5_find [.ref 59, .ref 2] m1 (qV fun m2 => mm_sp d sn kX5_isOrbit [.ref 59, .int v1, .int v2] m2 (qI fun x4 m3 => ((x4 = 0) → (P (-1) m3)) ∧ (¬ (x4 = 0) → (((0 ≤ v3) → (mm_sp d sn kX5_setAt [.ref 59, .int v1, .int v2, .int v3] m3 (qI fun x7 m4 => P x7 m4))) ∧ (¬ (0 ≤ v3) → (P (-1) m3)))))))) ∧ (¬ (¬ x1 = 0) → (P (-2) m1)))) :
    mm_sp (d + 1) sn kX10_member [.ref 1, .int v1, .int v2, .int v3] m (qI P) := by
  have hb := mb_109
  refine wp_in (la := [some (.ref 1), some (.int v1), some (.int v2), some (.int v3)]) ⟨⟨Nat.le_of_ble_eq_true rfl, by decide, by decide⟩, rfl⟩ ?_
  refine wp_aload_n hb rfl dX10_member_0 ?_
  refine wp_getR hb ko_109 lf_10_12 (by decide) m0_1 r0_1_0 dX10_member_1 ?_
  refine wp_iload_n hb rfl dX10_member_4 ?_
  refine wp_callV hb (k' := 63) ko_109 lm_10_158 rfl m0_2 (by decide) (Nat.le_of_ble_eq_true rfl) dX10_member_5 (sp_cI (hv.I (Nat.le_refl _) ?_))
  intro x1 m1 hv
  refine wp_if_ne hb (y := 0) (t := 14) ⟨rfl, rfl⟩ dX10_member_8 ⟨fun c2 => ?_, fun c2 => ?_⟩
  · have hv := hv.1 c2
    refine wp_aload_n hb rfl dX10_member_14 ?_
    refine wp_getR hb ko_109 lf_10_42 (by decide) m0_1 r0_1_5 dX10_member_15 ?_
    refine wp_aload_n hb rfl dX10_member_18 ?_
    refine wp_getR hb ko_109 lf_10_12 (by decide) m0_1 r0_1_0 dX10_member_19 ?_
    refine wp_callV hb (k' := 48) ko_109 lm_10_161 rfl m0_59 (by decide) (Nat.le_of_ble_eq_true rfl) dX10_member_22 (sp_cV (hv.V (Nat.le_refl _) ?_))
    intro m2 hv
    refine wp_aload_n hb rfl dX10_member_25 ?_
    refine wp_getR hb ko_109 lf_10_42 (by decide) m0_1 r0_1_5 dX10_member_26 ?_
    refine wp_iload_n hb rfl dX10_member_29 ?_
    refine wp_iload_n hb rfl dX10_member_30 ?_
    refine wp_callV hb (k' := 52) ko_109 lm_10_168 rfl m0_59 (by decide) (Nat.le_of_ble_eq_true rfl) dX10_member_31 (sp_cI (hv.I (Nat.le_refl _) ?_))
    intro x4 m3 hv
    refine wp_if_eq hb (y := 0) (t := 41) ⟨rfl, rfl⟩ dX10_member_34 ⟨fun c5 => ?_, fun c5 => ?_⟩
    · have hv := hv.1 c5
      refine wp_iconst hb (x := (-1)) rfl dX10_member_41 ?_
      exact wp_retI hb rfl dX10_member_42 hv
    · have hv := hv.2 c5
      refine wp_iload_n hb rfl dX10_member_37 ?_
      refine wp_if_ge hb (y := 0) (t := 43) ⟨rfl, rfl⟩ dX10_member_38 ⟨fun c6 => ?_, fun c6 => ?_⟩
      · have hv := hv.1 c6
        refine wp_aload_n hb rfl dX10_member_43 ?_
        refine wp_getR hb ko_109 lf_10_42 (by decide) m0_1 r0_1_5 dX10_member_44 ?_
        refine wp_iload_n hb rfl dX10_member_47 ?_
        refine wp_iload_n hb rfl dX10_member_48 ?_
        refine wp_iload_n hb rfl dX10_member_49 ?_
        refine wp_callV hb (k' := 55) ko_109 lm_10_171 rfl m0_59 (by decide) (Nat.le_of_ble_eq_true rfl) dX10_member_50 (sp_cI (hv.I (Nat.le_refl _) ?_))
        intro x7 m4 hv
        exact wp_retI hb rfl dX10_member_53 hv
      · have hv := hv.2 c6
        refine wp_iconst hb (x := (-1)) rfl dX10_member_41 ?_
        exact wp_retI hb rfl dX10_member_42 hv
  · have hv := hv.2 c2
    refine wp_bipush hb (x := (-2)) rfl dX10_member_11 ?_
    exact wp_retI hb rfl dX10_member_13 hv
set_option maxRecDepth 100000 in
theorem v_X10_orbitOf {d sn : Nat} {v1 : Int32} {m : mm_Mem} {P : Int32 → mm_Mem → Prop} 
    (hv : mm_sp d sn kX6_isSet [.ref 2, .int v1] m (qI fun x1 m1 => ((¬ x1 = 0) → (mm_sp d sn kX5_find [.ref 59, .ref 2] m1 (qV fun m2 => mm_sp d sn kX5_numberOf [.ref 59, .int v1] m2 (qI fun x4 m3 => P x4 m3)))) ∧ (¬ (¬ x1 = 0) → (P (-1) m1)))) :
    mm_sp (d + 1) sn kX10_orbitOf [.ref 1, .int v1] m (qI P) := by
  have hb := mb_110
  refine wp_in (la := [some (.ref 1), some (.int v1)]) ⟨⟨Nat.le_of_ble_eq_true rfl, by decide, by decide⟩, rfl⟩ ?_
  refine wp_aload_n hb rfl dX10_orbitOf_0 ?_
  refine wp_getR hb ko_110 lf_10_12 (by decide) m0_1 r0_1_0 dX10_orbitOf_1 ?_
  refine wp_iload_n hb rfl dX10_orbitOf_4 ?_
  refine wp_callV hb (k' := 64) ko_110 lm_10_148 rfl m0_2 (by decide) (Nat.le_of_ble_eq_true rfl) dX10_orbitOf_5 (sp_cI (hv.I (Nat.le_refl _) ?_))
  intro x1 m1 hv
  refine wp_if_ne hb (y := 0) (t := 13) ⟨rfl, rfl⟩ dX10_orbitOf_8 ⟨fun c2 => ?_, fun c2 => ?_⟩
  · have hv := hv.1 c2
    refine wp_aload_n hb rfl dX10_orbitOf_13 ?_
    refine wp_getR hb ko_110 lf_10_42 (by decide) m0_1 r0_1_5 dX10_orbitOf_14 ?_
    refine wp_aload_n hb rfl dX10_orbitOf_17 ?_
    refine wp_getR hb ko_110 lf_10_12 (by decide) m0_1 r0_1_0 dX10_orbitOf_18 ?_
    refine wp_callV hb (k' := 48) ko_110 lm_10_161 rfl m0_59 (by decide) (Nat.le_of_ble_eq_true rfl) dX10_orbitOf_21 (sp_cV (hv.V (Nat.le_refl _) ?_))
    intro m2 hv
    refine wp_aload_n hb rfl dX10_orbitOf_24 ?_
    refine wp_getR hb ko_110 lf_10_42 (by decide) m0_1 r0_1_5 dX10_orbitOf_25 ?_
    refine wp_iload_n hb rfl dX10_orbitOf_28 ?_
    refine wp_callV hb (k' := 53) ko_110 lm_10_182 rfl m0_59 (by decide) (Nat.le_of_ble_eq_true rfl) dX10_orbitOf_29 (sp_cI (hv.I (Nat.le_refl _) ?_))
    intro x4 m3 hv
    exact wp_retI hb rfl dX10_orbitOf_32 hv
  · have hv := hv.2 c2
    refine wp_iconst hb (x := (-1)) rfl dX10_orbitOf_11 ?_
    exact wp_retI hb rfl dX10_orbitOf_12 hv
set_option maxRecDepth 100000 in
theorem v_X10_table {d sn : Nat} {v1 : Int32} {v2 : Int32} {v3 : Int32} {v4 : Int32} {m : mm_Mem} {P : Int32 → mm_Mem → Prop} 
    (hv : mm_sp d sn kX10_areSizes [.ref 1, .int v1, .int v2] m (qI fun x1 m1 => ((¬ x1 = 0) → (mm_sp d sn kX5_find [.ref 59, .ref 2] m1 (qV fun m2 => mm_sp d sn kX5_isOrbit [.ref 59, .int v1, .int v3] m2 (qI fun x4 m3 => ((x4 = 0) → (P (-1) m3)) ∧ (¬ (x4 = 0) → (mm_sp d sn kX5_isOrbit [.ref 59, .int v2, .int v4] m3 (qI fun x6 m4 => ((¬ x6 = 0) → (mm_sp d sn kX5_setAt [.ref 59, .int v1, .int v3, .int (nI 0)] m4 (qI fun x8 m5 => mm_sp d sn kX5_setsAround [.ref 59, .int v2, .int v4, .int x8] m5 (qI fun x9 m6 => P x9 m6)))) ∧ (¬ (¬ x6 = 0) → (P (-1) m4))))))))) ∧ (¬ (¬ x1 = 0) → (P (-2) m1)))) :
    mm_sp (d + 1) sn kX10_table [.ref 1, .int v1, .int v2, .int v3, .int v4] m (qI P) := by
  have hb := mb_111
  refine wp_in (la := [some (.ref 1), some (.int v1), some (.int v2), some (.int v3), some (.int v4)]) ⟨⟨Nat.le_of_ble_eq_true rfl, by decide, by decide⟩, rfl⟩ ?_
  refine wp_aload_n hb rfl dX10_table_0 ?_
  refine wp_iload_n hb rfl dX10_table_1 ?_
  refine wp_iload_n hb rfl dX10_table_2 ?_
  refine wp_callV hb (k' := 139) ko_111 lm_10_185 rfl m0_1 (by decide) (Nat.le_of_ble_eq_true rfl) dX10_table_3 (sp_cI (hv.I (Nat.le_refl _) ?_))
  intro x1 m1 hv
  refine wp_if_ne hb (y := 0) (t := 12) ⟨rfl, rfl⟩ dX10_table_6 ⟨fun c2 => ?_, fun c2 => ?_⟩
  · have hv := hv.1 c2
    refine wp_aload_n hb rfl dX10_table_12 ?_
    refine wp_getR hb ko_111 lf_10_42 (by decide) m0_1 r0_1_5 dX10_table_13 ?_
    refine wp_aload_n hb rfl dX10_table_16 ?_
    refine wp_getR hb ko_111 lf_10_12 (by decide) m0_1 r0_1_0 dX10_table_17 ?_
    refine wp_callV hb (k' := 48) ko_111 lm_10_161 rfl m0_59 (by decide) (Nat.le_of_ble_eq_true rfl) dX10_table_20 (sp_cV (hv.V (Nat.le_refl _) ?_))
    intro m2 hv
    refine wp_aload_n hb rfl dX10_table_23 ?_
    refine wp_getR hb ko_111 lf_10_42 (by decide) m0_1 r0_1_5 dX10_table_24 ?_
    refine wp_iload_n hb rfl dX10_table_27 ?_
    refine wp_iload_n hb rfl dX10_table_28 ?_
    refine wp_callV hb (k' := 52) ko_111 lm_10_168 rfl m0_59 (by decide) (Nat.le_of_ble_eq_true rfl) dX10_table_29 (sp_cI (hv.I (Nat.le_refl _) ?_))
    intro x4 m3 hv
    refine wp_if_eq hb (y := 0) (t := 48) ⟨rfl, rfl⟩ dX10_table_32 ⟨fun c5 => ?_, fun c5 => ?_⟩
    · have hv := hv.1 c5
      refine wp_iconst hb (x := (-1)) rfl dX10_table_48 ?_
      exact wp_retI hb rfl dX10_table_49 hv
    · have hv := hv.2 c5
      refine wp_aload_n hb rfl dX10_table_35 ?_
      refine wp_getR hb ko_111 lf_10_42 (by decide) m0_1 r0_1_5 dX10_table_36 ?_
      refine wp_iload_n hb rfl dX10_table_39 ?_
      refine wp_iload hb rfl dX10_table_40 ?_
      refine wp_callV hb (k' := 52) ko_111 lm_10_168 rfl m0_59 (by decide) (Nat.le_of_ble_eq_true rfl) dX10_table_42 (sp_cI (hv.I (Nat.le_refl _) ?_))
      intro x6 m4 hv
      refine wp_if_ne hb (y := 0) (t := 50) ⟨rfl, rfl⟩ dX10_table_45 ⟨fun c7 => ?_, fun c7 => ?_⟩
      · have hv := hv.1 c7
        refine wp_aload_n hb rfl dX10_table_50 ?_
        refine wp_getR hb ko_111 lf_10_42 (by decide) m0_1 r0_1_5 dX10_table_51 ?_
        refine wp_iload_n hb rfl dX10_table_54 ?_
        refine wp_iload hb rfl dX10_table_55 ?_
        refine wp_aload_n hb rfl dX10_table_57 ?_
        refine wp_getR hb ko_111 lf_10_42 (by decide) m0_1 r0_1_5 dX10_table_58 ?_
        refine wp_iload_n hb rfl dX10_table_61 ?_
        refine wp_iload_n hb rfl dX10_table_62 ?_
        refine wp_iconst hb (x := nI 0) rfl dX10_table_63 ?_
        refine wp_callV hb (k' := 55) ko_111 lm_10_171 rfl m0_59 (by decide) (Nat.le_of_ble_eq_true rfl) dX10_table_64 (sp_cI (hv.I (Nat.le_refl _) ?_))
        intro x8 m5 hv
        refine wp_callV hb (k' := 58) ko_111 lm_10_188 rfl m0_59 (by decide) (Nat.le_of_ble_eq_true rfl) dX10_table_67 (sp_cI (hv.I (Nat.le_refl _) ?_))
        intro x9 m6 hv
        exact wp_retI hb rfl dX10_table_70 hv
      · have hv := hv.2 c7
        refine wp_iconst hb (x := (-1)) rfl dX10_table_48 ?_
        exact wp_retI hb rfl dX10_table_49 hv
  · have hv := hv.2 c2
    refine wp_bipush hb (x := (-2)) rfl dX10_table_9 ?_
    exact wp_retI hb rfl dX10_table_11 hv
set_option maxRecDepth 100000 in
theorem v_X10_solved {d sn : Nat} {v1 : Int32} {v2 : Int32} {v3 : Int32} {v4 : Int32} {m : mm_Mem} {P : Int32 → mm_Mem → Prop} 
    (hv : mm_sp d sn kX10_areSizes [.ref 1, .int v1, .int v2] m (qI fun x1 m1 => ((x1 = 0) → (P (-2) m1)) ∧ (¬ (x1 = 0) → (mm_sp d sn kX10_isAim [.int v3] m1 (qI fun x3 m2 => ((¬ x3 = 0) → (((v4 < 0) → (P (-1) m2)) ∧ (¬ (v4 < 0) → (((v4 ≤ nI 1) → (mm_sp d sn kX10_loadChoices [.ref 1, .int v1, .int v2] m2 (qI fun x7 m3 => ((¬ x7 = 0) → (mm_sp d sn kX1_solve [.ref 66, .int v3, .int (nI 0)] m3 (qV fun m4 => ((¬ v4 = 0) → (P (m4.1 66 11) m4)) ∧ (¬ (¬ v4 = 0) → (P (m4.1 66 9) m4))))) ∧ (¬ (¬ x7 = 0) → (P (-3) m3))))) ∧ (¬ (v4 ≤ nI 1) → (P (-1) m2)))))) ∧ (¬ (¬ x3 = 0) → (P (-2) m2))))))) :
    mm_sp (d + 1) sn kX10_solved [.ref 1, .int v1, .int v2, .int v3, .int v4] m (qI P) := by
  have hb := mb_112
  refine wp_in (la := [some (.ref 1), some (.int v1), some (.int v2), some (.int v3), some (.int v4)]) ⟨⟨Nat.le_of_ble_eq_true rfl, by decide, by decide⟩, rfl⟩ ?_
  refine wp_aload_n hb rfl dX10_solved_0 ?_
  refine wp_iload_n hb rfl dX10_solved_1 ?_
  refine wp_iload_n hb rfl dX10_solved_2 ?_
  refine wp_callV hb (k' := 139) ko_112 lm_10_185 rfl m0_1 (by decide) (Nat.le_of_ble_eq_true rfl) dX10_solved_3 (sp_cI (hv.I (Nat.le_refl _) ?_))
  intro x1 m1 hv
  refine wp_if_eq hb (y := 0) (t := 16) ⟨rfl, rfl⟩ dX10_solved_6 ⟨fun c2 => ?_, fun c2 => ?_⟩
  · have hv := hv.1 c2
    refine wp_bipush hb (x := (-2)) rfl dX10_solved_16 ?_
    exact wp_retI hb rfl dX10_solved_18 hv
  · have hv := hv.2 c2
    refine wp_iload_n hb rfl dX10_solved_9 ?_
    refine wp_callS hb (k' := 140) ko_112 lm_10_191 (by decide) rfl (Nat.le_of_ble_eq_true rfl) dX10_solved_10 (sp_cI (hv.I (Nat.le_refl _) ?_))
    intro x3 m2 hv
    refine wp_if_ne hb (y := 0) (t := 19) ⟨rfl, rfl⟩ dX10_solved_13 ⟨fun c4 => ?_, fun c4 => ?_⟩
    · have hv := hv.1 c4
      refine wp_iload hb rfl dX10_solved_19 ?_
      refine wp_if_lt hb (y := 0) (t := 30) ⟨rfl, rfl⟩ dX10_solved_21 ⟨fun c5 => ?_, fun c5 => ?_⟩
      · have hv := hv.1 c5
        refine wp_iconst hb (x := (-1)) rfl dX10_solved_30 ?_
        exact wp_retI hb rfl dX10_solved_31 hv
      · have hv := hv.2 c5
        refine wp_iload hb rfl dX10_solved_24 ?_
        refine wp_iconst hb (x := nI 1) rfl dX10_solved_26 ?_
        refine wp_icmp_le hb (t := 32) ⟨rfl, rfl⟩ dX10_solved_27 ⟨fun c6 => ?_, fun c6 => ?_⟩
        · have hv := hv.1 c6
          refine wp_aload_n hb rfl dX10_solved_32 ?_
          refine wp_iload_n hb rfl dX10_solved_33 ?_
          refine wp_iload_n hb rfl dX10_solved_34 ?_
          refine wp_callV hb (k' := 144) ko_112 lm_10_194 rfl m0_1 (by decide) (Nat.le_of_ble_eq_true rfl) dX10_solved_35 (sp_cI (hv.I (Nat.le_refl _) ?_))
          intro x7 m3 hv
          refine wp_if_ne hb (y := 0) (t := 44) ⟨rfl, rfl⟩ dX10_solved_38 ⟨fun c8 => ?_, fun c8 => ?_⟩
          · have hv := hv.1 c8
            refine wp_aload_n hb rfl dX10_solved_44 ?_
            refine wp_getR hb ko_112 lf_10_56 (by decide) m0_1 r0_1_7 dX10_solved_45 ?_
            refine wp_iload_n hb rfl dX10_solved_48 ?_
            refine wp_iconst hb (x := nI 0) rfl dX10_solved_49 ?_
            refine wp_callV hb (k' := 20) ko_112 lm_10_197 rfl m0_66 (by decide) (Nat.le_of_ble_eq_true rfl) dX10_solved_50 (sp_cV (hv.V (Nat.le_refl _) ?_))
            intro m4 hv
            refine wp_iload hb rfl dX10_solved_53 ?_
            refine wp_if_ne hb (y := 0) (t := 68) ⟨rfl, rfl⟩ dX10_solved_55 ⟨fun c10 => ?_, fun c10 => ?_⟩
            · have hv := hv.1 c10
              refine wp_aload_n hb rfl dX10_solved_68 ?_
              refine wp_getR hb ko_112 lf_10_56 (by decide) m0_1 r0_1_7 dX10_solved_69 ?_
              refine wp_getI hb ko_112 lf_10_203 (by decide) m0_66 dX10_solved_72 ?_
              exact wp_retI hb rfl dX10_solved_75 hv
            · have hv := hv.2 c10
              refine wp_aload_n hb rfl dX10_solved_58 ?_
              refine wp_getR hb ko_112 lf_10_56 (by decide) m0_1 r0_1_7 dX10_solved_59 ?_
              refine wp_getI hb ko_112 lf_10_200 (by decide) m0_66 dX10_solved_62 ?_
              refine wp_goto hb (t := 75) ⟨rfl, rfl⟩ dX10_solved_65 ?_
              exact wp_retI hb rfl dX10_solved_75 hv
          · have hv := hv.2 c8
            refine wp_bipush hb (x := (-3)) rfl dX10_solved_41 ?_
            exact wp_retI hb rfl dX10_solved_43 hv
        · have hv := hv.2 c6
          refine wp_iconst hb (x := (-1)) rfl dX10_solved_30 ?_
          exact wp_retI hb rfl dX10_solved_31 hv
    · have hv := hv.2 c4
      refine wp_bipush hb (x := (-2)) rfl dX10_solved_16 ?_
      exact wp_retI hb rfl dX10_solved_18 hv
set_option maxRecDepth 100000 in
theorem v_X10_solution {d sn : Nat} {v1 : Int32} {v2 : Int32} {v3 : Int32} {v4 : Int32} {m : mm_Mem} {P : Int32 → mm_Mem → Prop} 
    (hv : mm_sp d sn kX10_areSizes [.ref 1, .int v1, .int v2] m (qI fun x1 m1 => ((x1 = 0) → (P (-2) m1)) ∧ (¬ (x1 = 0) → (mm_sp d sn kX10_isAim [.int v3] m1 (qI fun x3 m2 => ((¬ x3 = 0) → (((0 ≤ v4) → (mm_sp d sn kX10_loadChoices [.ref 1, .int v1, .int v2] m2 (qI fun x6 m3 => ((¬ x6 = 0) → (mm_sp d sn kX1_solve [.ref 66, .int v3, .int v4] m3 (qV fun m4 => P (m4.1 66 11) m4))) ∧ (¬ (¬ x6 = 0) → (P (-3) m3))))) ∧ (¬ (0 ≤ v4) → (P (-1) m2)))) ∧ (¬ (¬ x3 = 0) → (P (-2) m2))))))) :
    mm_sp (d + 1) sn kX10_solution [.ref 1, .int v1, .int v2, .int v3, .int v4] m (qI P) := by
  have hb := mb_113
  refine wp_in (la := [some (.ref 1), some (.int v1), some (.int v2), some (.int v3), some (.int v4)]) ⟨⟨Nat.le_of_ble_eq_true rfl, by decide, by decide⟩, rfl⟩ ?_
  refine wp_aload_n hb rfl dX10_solution_0 ?_
  refine wp_iload_n hb rfl dX10_solution_1 ?_
  refine wp_iload_n hb rfl dX10_solution_2 ?_
  refine wp_callV hb (k' := 139) ko_113 lm_10_185 rfl m0_1 (by decide) (Nat.le_of_ble_eq_true rfl) dX10_solution_3 (sp_cI (hv.I (Nat.le_refl _) ?_))
  intro x1 m1 hv
  refine wp_if_eq hb (y := 0) (t := 16) ⟨rfl, rfl⟩ dX10_solution_6 ⟨fun c2 => ?_, fun c2 => ?_⟩
  · have hv := hv.1 c2
    refine wp_bipush hb (x := (-2)) rfl dX10_solution_16 ?_
    exact wp_retI hb rfl dX10_solution_18 hv
  · have hv := hv.2 c2
    refine wp_iload_n hb rfl dX10_solution_9 ?_
    refine wp_callS hb (k' := 140) ko_113 lm_10_191 (by decide) rfl (Nat.le_of_ble_eq_true rfl) dX10_solution_10 (sp_cI (hv.I (Nat.le_refl _) ?_))
    intro x3 m2 hv
    refine wp_if_ne hb (y := 0) (t := 19) ⟨rfl, rfl⟩ dX10_solution_13 ⟨fun c4 => ?_, fun c4 => ?_⟩
    · have hv := hv.1 c4
      refine wp_iload hb rfl dX10_solution_19 ?_
      refine wp_if_ge hb (y := 0) (t := 26) ⟨rfl, rfl⟩ dX10_solution_21 ⟨fun c5 => ?_, fun c5 => ?_⟩
      · have hv := hv.1 c5
        refine wp_aload_n hb rfl dX10_solution_26 ?_
        refine wp_iload_n hb rfl dX10_solution_27 ?_
        refine wp_iload_n hb rfl dX10_solution_28 ?_
        refine wp_callV hb (k' := 144) ko_113 lm_10_194 rfl m0_1 (by decide) (Nat.le_of_ble_eq_true rfl) dX10_solution_29 (sp_cI (hv.I (Nat.le_refl _) ?_))
        intro x6 m3 hv
        refine wp_if_ne hb (y := 0) (t := 38) ⟨rfl, rfl⟩ dX10_solution_32 ⟨fun c7 => ?_, fun c7 => ?_⟩
        · have hv := hv.1 c7
          refine wp_aload_n hb rfl dX10_solution_38 ?_
          refine wp_getR hb ko_113 lf_10_56 (by decide) m0_1 r0_1_7 dX10_solution_39 ?_
          refine wp_iload_n hb rfl dX10_solution_42 ?_
          refine wp_iload hb rfl dX10_solution_43 ?_
          refine wp_callV hb (k' := 20) ko_113 lm_10_197 rfl m0_66 (by decide) (Nat.le_of_ble_eq_true rfl) dX10_solution_45 (sp_cV (hv.V (Nat.le_refl _) ?_))
          intro m4 hv
          refine wp_aload_n hb rfl dX10_solution_48 ?_
          refine wp_getR hb ko_113 lf_10_56 (by decide) m0_1 r0_1_7 dX10_solution_49 ?_
          refine wp_getI hb ko_113 lf_10_203 (by decide) m0_66 dX10_solution_52 ?_
          exact wp_retI hb rfl dX10_solution_55 hv
        · have hv := hv.2 c7
          refine wp_bipush hb (x := (-3)) rfl dX10_solution_35 ?_
          exact wp_retI hb rfl dX10_solution_37 hv
      · have hv := hv.2 c5
        refine wp_iconst hb (x := (-1)) rfl dX10_solution_24 ?_
        exact wp_retI hb rfl dX10_solution_25 hv
    · have hv := hv.2 c4
      refine wp_bipush hb (x := (-2)) rfl dX10_solution_16 ?_
      exact wp_retI hb rfl dX10_solution_18 hv
set_option maxRecDepth 100000 in
theorem v_X10_cover {d sn : Nat} {v1 : Int32} {v2 : Int32} {v3 : Int32} {m : mm_Mem} {P : Int32 → mm_Mem → Prop} 
    (hv : mm_sp d sn kX10_areSizes [.ref 1, .int v1, .int v2] m (qI fun x1 m1 => ((¬ x1 = 0) → (((v3 < 0) → (P (-1) m1)) ∧ (¬ (v3 < 0) → (((v3 ≤ nI 1) → (mm_sp d sn kX10_loadChoices [.ref 1, .int v1, .int v2] m1 (qI fun x5 m2 => ((¬ x5 = 0) → (mm_sp d sn kX1_findFewest [.ref 66] m2 (qV fun m3 => ((¬ m3.1 66 11 = (-5)) → (((¬ v3 = 0) → (P (m3.1 66 11) m3)) ∧ (¬ (¬ v3 = 0) → (P (m3.1 66 10) m3)))) ∧ (¬ (¬ m3.1 66 11 = (-5)) → (P (-5) m3))))) ∧ (¬ (¬ x5 = 0) → (P (-3) m2))))) ∧ (¬ (v3 ≤ nI 1) → (P (-1) m1)))))) ∧ (¬ (¬ x1 = 0) → (P (-2) m1)))) :
    mm_sp (d + 1) sn kX10_cover [.ref 1, .int v1, .int v2, .int v3] m (qI P) := by
  have hb := mb_114
  refine wp_in (la := [some (.ref 1), some (.int v1), some (.int v2), some (.int v3)]) ⟨⟨Nat.le_of_ble_eq_true rfl, by decide, by decide⟩, rfl⟩ ?_
  refine wp_aload_n hb rfl dX10_cover_0 ?_
  refine wp_iload_n hb rfl dX10_cover_1 ?_
  refine wp_iload_n hb rfl dX10_cover_2 ?_
  refine wp_callV hb (k' := 139) ko_114 lm_10_185 rfl m0_1 (by decide) (Nat.le_of_ble_eq_true rfl) dX10_cover_3 (sp_cI (hv.I (Nat.le_refl _) ?_))
  intro x1 m1 hv
  refine wp_if_ne hb (y := 0) (t := 12) ⟨rfl, rfl⟩ dX10_cover_6 ⟨fun c2 => ?_, fun c2 => ?_⟩
  · have hv := hv.1 c2
    refine wp_iload_n hb rfl dX10_cover_12 ?_
    refine wp_if_lt hb (y := 0) (t := 21) ⟨rfl, rfl⟩ dX10_cover_13 ⟨fun c3 => ?_, fun c3 => ?_⟩
    · have hv := hv.1 c3
      refine wp_iconst hb (x := (-1)) rfl dX10_cover_21 ?_
      exact wp_retI hb rfl dX10_cover_22 hv
    · have hv := hv.2 c3
      refine wp_iload_n hb rfl dX10_cover_16 ?_
      refine wp_iconst hb (x := nI 1) rfl dX10_cover_17 ?_
      refine wp_icmp_le hb (t := 23) ⟨rfl, rfl⟩ dX10_cover_18 ⟨fun c4 => ?_, fun c4 => ?_⟩
      · have hv := hv.1 c4
        refine wp_aload_n hb rfl dX10_cover_23 ?_
        refine wp_iload_n hb rfl dX10_cover_24 ?_
        refine wp_iload_n hb rfl dX10_cover_25 ?_
        refine wp_callV hb (k' := 144) ko_114 lm_10_194 rfl m0_1 (by decide) (Nat.le_of_ble_eq_true rfl) dX10_cover_26 (sp_cI (hv.I (Nat.le_refl _) ?_))
        intro x5 m2 hv
        refine wp_if_ne hb (y := 0) (t := 35) ⟨rfl, rfl⟩ dX10_cover_29 ⟨fun c6 => ?_, fun c6 => ?_⟩
        · have hv := hv.1 c6
          refine wp_aload_n hb rfl dX10_cover_35 ?_
          refine wp_getR hb ko_114 lf_10_56 (by decide) m0_1 r0_1_7 dX10_cover_36 ?_
          refine wp_callV hb (k' := 26) ko_114 lm_10_206 rfl m0_66 (by decide) (Nat.le_of_ble_eq_true rfl) dX10_cover_39 (sp_cV (hv.V (Nat.le_refl _) ?_))
          intro m3 hv
          refine wp_aload_n hb rfl dX10_cover_42 ?_
          refine wp_getR hb ko_114 lf_10_56 (by decide) m0_1 r0_1_7 dX10_cover_43 ?_
          refine wp_getI hb ko_114 lf_10_203 (by decide) m0_66 dX10_cover_46 ?_
          refine wp_bipush hb (x := (-5)) rfl dX10_cover_49 ?_
          refine wp_icmp_ne hb (t := 57) ⟨rfl, rfl⟩ dX10_cover_51 ⟨fun c8 => ?_, fun c8 => ?_⟩
          · have hv := hv.1 c8
            refine wp_iload_n hb rfl dX10_cover_57 ?_
            refine wp_if_ne hb (y := 0) (t := 71) ⟨rfl, rfl⟩ dX10_cover_58 ⟨fun c9 => ?_, fun c9 => ?_⟩
            · have hv := hv.1 c9
              refine wp_aload_n hb rfl dX10_cover_71 ?_
              refine wp_getR hb ko_114 lf_10_56 (by decide) m0_1 r0_1_7 dX10_cover_72 ?_
              refine wp_getI hb ko_114 lf_10_203 (by decide) m0_66 dX10_cover_75 ?_
              exact wp_retI hb rfl dX10_cover_78 hv
            · have hv := hv.2 c9
              refine wp_aload_n hb rfl dX10_cover_61 ?_
              refine wp_getR hb ko_114 lf_10_56 (by decide) m0_1 r0_1_7 dX10_cover_62 ?_
              refine wp_getI hb ko_114 lf_10_209 (by decide) m0_66 dX10_cover_65 ?_
              refine wp_goto hb (t := 78) ⟨rfl, rfl⟩ dX10_cover_68 ?_
              exact wp_retI hb rfl dX10_cover_78 hv
          · have hv := hv.2 c8
            refine wp_bipush hb (x := (-5)) rfl dX10_cover_54 ?_
            exact wp_retI hb rfl dX10_cover_56 hv
        · have hv := hv.2 c6
          refine wp_bipush hb (x := (-3)) rfl dX10_cover_32 ?_
          exact wp_retI hb rfl dX10_cover_34 hv
      · have hv := hv.2 c4
        refine wp_iconst hb (x := (-1)) rfl dX10_cover_21 ?_
        exact wp_retI hb rfl dX10_cover_22 hv
  · have hv := hv.2 c2
    refine wp_bipush hb (x := (-2)) rfl dX10_cover_9 ?_
    exact wp_retI hb rfl dX10_cover_11 hv
set_option maxRecDepth 100000 in
theorem v_X10_choose {d sn : Nat} {v1 : Int32} {v2 : Int32} {m : mm_Mem} {P : Int32 → mm_Mem → Prop} 
    (hv : ((v1 < nI 1) → (P (-2) m)) ∧ (¬ (v1 < nI 1) → (mm_sp d sn kX6_isSize [.ref 2, .int v1] m (qI fun x2 m1 => ((¬ x2 = 0) → (mm_sp d sn kX5_find [.ref 59, .ref 2] m1 (qV fun m2 => ((v2 < 0) → (P (-1) m2)) ∧ (¬ (v2 < 0) → (mm_sp d sn kX5_amountOf [.ref 59, .int v1] m2 (qI fun x6 m3 => mm_sp d sn kX10_hasBitsFrom [.int v2, .int x6] m3 (qI fun x7 m4 => ((x7 = 0) → (mm_sp d sn kX0_becomeChoice [.ref 3, .ref 59, .int v1, .int v2] m4 (qV fun m5 => P (m5.1 3 1) m5))) ∧ (¬ (x7 = 0) → (P (-1) m4))))))))) ∧ (¬ (¬ x2 = 0) → (P (-2) m1)))))) :
    mm_sp (d + 1) sn kX10_choose [.ref 1, .int v1, .int v2] m (qI P) := by
  have hb := mb_115
  refine wp_in (la := [some (.ref 1), some (.int v1), some (.int v2)]) ⟨⟨Nat.le_of_ble_eq_true rfl, by decide, by decide⟩, rfl⟩ ?_
  refine wp_iload_n hb rfl dX10_choose_0 ?_
  refine wp_iconst hb (x := nI 1) rfl dX10_choose_1 ?_
  refine wp_icmp_lt hb (t := 16) ⟨rfl, rfl⟩ dX10_choose_2 ⟨fun c1 => ?_, fun c1 => ?_⟩
  · have hv := hv.1 c1
    refine wp_bipush hb (x := (-2)) rfl dX10_choose_16 ?_
    exact wp_retI hb rfl dX10_choose_18 hv
  · have hv := hv.2 c1
    refine wp_aload_n hb rfl dX10_choose_5 ?_
    refine wp_getR hb ko_115 lf_10_12 (by decide) m0_1 r0_1_0 dX10_choose_6 ?_
    refine wp_iload_n hb rfl dX10_choose_9 ?_
    refine wp_callV hb (k' := 63) ko_115 lm_10_158 rfl m0_2 (by decide) (Nat.le_of_ble_eq_true rfl) dX10_choose_10 (sp_cI (hv.I (Nat.le_refl _) ?_))
    intro x2 m1 hv
    refine wp_if_ne hb (y := 0) (t := 19) ⟨rfl, rfl⟩ dX10_choose_13 ⟨fun c3 => ?_, fun c3 => ?_⟩
    · have hv := hv.1 c3
      refine wp_aload_n hb rfl dX10_choose_19 ?_
      refine wp_getR hb ko_115 lf_10_42 (by decide) m0_1 r0_1_5 dX10_choose_20 ?_
      refine wp_aload_n hb rfl dX10_choose_23 ?_
      refine wp_getR hb ko_115 lf_10_12 (by decide) m0_1 r0_1_0 dX10_choose_24 ?_
      refine wp_callV hb (k' := 48) ko_115 lm_10_161 rfl m0_59 (by decide) (Nat.le_of_ble_eq_true rfl) dX10_choose_27 (sp_cV (hv.V (Nat.le_refl _) ?_))
      intro m2 hv
      refine wp_iload_n hb rfl dX10_choose_30 ?_
      refine wp_if_lt hb (y := 0) (t := 49) ⟨rfl, rfl⟩ dX10_choose_31 ⟨fun c5 => ?_, fun c5 => ?_⟩
      · have hv := hv.1 c5
        refine wp_iconst hb (x := (-1)) rfl dX10_choose_49 ?_
        exact wp_retI hb rfl dX10_choose_50 hv
      · have hv := hv.2 c5
        refine wp_iload_n hb rfl dX10_choose_34 ?_
        refine wp_aload_n hb rfl dX10_choose_35 ?_
        refine wp_getR hb ko_115 lf_10_42 (by decide) m0_1 r0_1_5 dX10_choose_36 ?_
        refine wp_iload_n hb rfl dX10_choose_39 ?_
        refine wp_callV hb (k' := 51) ko_115 lm_10_165 rfl m0_59 (by decide) (Nat.le_of_ble_eq_true rfl) dX10_choose_40 (sp_cI (hv.I (Nat.le_refl _) ?_))
        intro x6 m3 hv
        refine wp_callS hb (k' := 141) ko_115 lm_10_212 (by decide) rfl (Nat.le_of_ble_eq_true rfl) dX10_choose_43 (sp_cI (hv.I (Nat.le_refl _) ?_))
        intro x7 m4 hv
        refine wp_if_eq hb (y := 0) (t := 51) ⟨rfl, rfl⟩ dX10_choose_46 ⟨fun c8 => ?_, fun c8 => ?_⟩
        · have hv := hv.1 c8
          refine wp_aload_n hb rfl dX10_choose_51 ?_
          refine wp_getR hb ko_115 lf_10_12 (by decide) m0_1 r0_1_0 dX10_choose_52 ?_
          refine wp_getR hb ko_115 lf_10_129 (by decide) m0_2 r0_2_3 dX10_choose_55 ?_
          refine wp_aload_n hb rfl dX10_choose_58 ?_
          refine wp_getR hb ko_115 lf_10_42 (by decide) m0_1 r0_1_5 dX10_choose_59 ?_
          refine wp_iload_n hb rfl dX10_choose_62 ?_
          refine wp_iload_n hb rfl dX10_choose_63 ?_
          refine wp_callV hb (k' := 3) ko_115 lm_10_215 rfl m0_3 (by decide) (Nat.le_of_ble_eq_true rfl) dX10_choose_64 (sp_cV (hv.V (Nat.le_refl _) ?_))
          intro m5 hv
          refine wp_aload_n hb rfl dX10_choose_67 ?_
          refine wp_getR hb ko_115 lf_10_12 (by decide) m0_1 r0_1_0 dX10_choose_68 ?_
          refine wp_getR hb ko_115 lf_10_129 (by decide) m0_2 r0_2_3 dX10_choose_71 ?_
          refine wp_getI hb ko_115 lf_10_219 (by decide) m0_3 dX10_choose_74 ?_
          exact wp_retI hb rfl dX10_choose_77 hv
        · have hv := hv.2 c8
          refine wp_iconst hb (x := (-1)) rfl dX10_choose_49 ?_
          exact wp_retI hb rfl dX10_choose_50 hv
    · have hv := hv.2 c3
      refine wp_bipush hb (x := (-2)) rfl dX10_choose_16 ?_
      exact wp_retI hb rfl dX10_choose_18 hv
set_option maxRecDepth 100000 in
theorem v_X10_block {d sn : Nat} {v1 : Int32} {m : mm_Mem} {P : Int32 → mm_Mem → Prop} 
    (hv : mm_sp d sn kX6_isSet [.ref 2, .int v1] m (qI fun x1 m1 => ((x1 = 0) → (P (-1) m1)) ∧ (¬ (x1 = 0) → (mm_sp d sn kJ6_bitCount_0f7a4 [.int v1] m1 (qI fun x3 m2 => ((x3 = m2.1 3 0) → (mm_sp d sn kX0_has [.ref 3, .int v1] m2 (qI fun x5 m3 => ((¬ x5 = 0) → (mm_sp d sn kX0_put [.ref 3, .int v1, .int (nI 0)] m3 (qV fun m4 => P (m4.1 3 1) m4))) ∧ (¬ (¬ x5 = 0) → (mm_sp d sn kX0_put [.ref 3, .int v1, .int (nI 1)] m3 (qV fun m5 => P (m5.1 3 1) m5)))))) ∧ (¬ (x3 = m2.1 3 0) → (P (-1) m2))))))) :
    mm_sp (d + 1) sn kX10_block [.ref 1, .int v1] m (qI P) := by
  have hb := mb_116
  refine wp_in (la := [some (.ref 1), some (.int v1)]) ⟨⟨Nat.le_of_ble_eq_true rfl, by decide, by decide⟩, rfl⟩ ?_
  refine wp_aload_n hb rfl dX10_block_0 ?_
  refine wp_getR hb ko_116 lf_10_12 (by decide) m0_1 r0_1_0 dX10_block_1 ?_
  refine wp_iload_n hb rfl dX10_block_4 ?_
  refine wp_callV hb (k' := 64) ko_116 lm_10_148 rfl m0_2 (by decide) (Nat.le_of_ble_eq_true rfl) dX10_block_5 (sp_cI (hv.I (Nat.le_refl _) ?_))
  intro x1 m1 hv
  refine wp_if_eq hb (y := 0) (t := 28) ⟨rfl, rfl⟩ dX10_block_8 ⟨fun c2 => ?_, fun c2 => ?_⟩
  · have hv := hv.1 c2
    refine wp_iconst hb (x := (-1)) rfl dX10_block_28 ?_
    exact wp_retI hb rfl dX10_block_29 hv
  · have hv := hv.2 c2
    refine wp_iload_n hb rfl dX10_block_11 ?_
    refine wp_callS hb (k' := 227) ko_116 lm_10_222 (by decide) rfl (Nat.le_of_ble_eq_true rfl) dX10_block_12 (sp_cI (hv.I (Nat.le_refl _) ?_))
    intro x3 m2 hv
    refine wp_aload_n hb rfl dX10_block_15 ?_
    refine wp_getR hb ko_116 lf_10_12 (by decide) m0_1 r0_1_0 dX10_block_16 ?_
    refine wp_getR hb ko_116 lf_10_129 (by decide) m0_2 r0_2_3 dX10_block_19 ?_
    refine wp_getI hb ko_116 lf_10_227 (by decide) m0_3 dX10_block_22 ?_
    refine wp_icmp_eq hb (t := 30) ⟨rfl, rfl⟩ dX10_block_25 ⟨fun c4 => ?_, fun c4 => ?_⟩
    · have hv := hv.1 c4
      refine wp_aload_n hb rfl dX10_block_30 ?_
      refine wp_getR hb ko_116 lf_10_12 (by decide) m0_1 r0_1_0 dX10_block_31 ?_
      refine wp_getR hb ko_116 lf_10_129 (by decide) m0_2 r0_2_3 dX10_block_34 ?_
      refine wp_iload_n hb rfl dX10_block_37 ?_
      refine wp_aload_n hb rfl dX10_block_38 ?_
      refine wp_getR hb ko_116 lf_10_12 (by decide) m0_1 r0_1_0 dX10_block_39 ?_
      refine wp_getR hb ko_116 lf_10_129 (by decide) m0_2 r0_2_3 dX10_block_42 ?_
      refine wp_iload_n hb rfl dX10_block_45 ?_
      refine wp_callV hb (k' := 5) ko_116 lm_10_230 rfl m0_3 (by decide) (Nat.le_of_ble_eq_true rfl) dX10_block_46 (sp_cI (hv.I (Nat.le_refl _) ?_))
      intro x5 m3 hv
      refine wp_if_ne hb (y := 0) (t := 56) ⟨rfl, rfl⟩ dX10_block_49 ⟨fun c6 => ?_, fun c6 => ?_⟩
      · have hv := hv.1 c6
        refine wp_iconst hb (x := nI 0) rfl dX10_block_56 ?_
        refine wp_callV hb (k' := 6) ko_116 lm_10_233 rfl m0_3 (by decide) (Nat.le_of_ble_eq_true rfl) dX10_block_57 (sp_cV (hv.V (Nat.le_refl _) ?_))
        intro m4 hv
        refine wp_aload_n hb rfl dX10_block_60 ?_
        refine wp_getR hb ko_116 lf_10_12 (by decide) m0_1 r0_1_0 dX10_block_61 ?_
        refine wp_getR hb ko_116 lf_10_129 (by decide) m0_2 r0_2_3 dX10_block_64 ?_
        refine wp_getI hb ko_116 lf_10_219 (by decide) m0_3 dX10_block_67 ?_
        exact wp_retI hb rfl dX10_block_70 hv
      · have hv := hv.2 c6
        refine wp_iconst hb (x := nI 1) rfl dX10_block_52 ?_
        refine wp_goto hb (t := 57) ⟨rfl, rfl⟩ dX10_block_53 ?_
        refine wp_callV hb (k' := 6) ko_116 lm_10_233 rfl m0_3 (by decide) (Nat.le_of_ble_eq_true rfl) dX10_block_57 (sp_cV (hv.V (Nat.le_refl _) ?_))
        intro m5 hv
        refine wp_aload_n hb rfl dX10_block_60 ?_
        refine wp_getR hb ko_116 lf_10_12 (by decide) m0_1 r0_1_0 dX10_block_61 ?_
        refine wp_getR hb ko_116 lf_10_129 (by decide) m0_2 r0_2_3 dX10_block_64 ?_
        refine wp_getI hb ko_116 lf_10_219 (by decide) m0_3 dX10_block_67 ?_
        exact wp_retI hb rfl dX10_block_70 hv
    · have hv := hv.2 c4
      refine wp_iconst hb (x := (-1)) rfl dX10_block_28 ?_
      exact wp_retI hb rfl dX10_block_29 hv
set_option maxRecDepth 100000 in
theorem v_X10_blockOf {d sn : Nat} {v1 : Int32} {m : mm_Mem} {P : Int32 → mm_Mem → Prop} 
    (hv : ((0 ≤ v1) → (mm_sp d sn kX0_setAt [.ref 3, .int v1] m (qI fun x2 m1 => P x2 m1))) ∧ (¬ (0 ≤ v1) → (P (-1) m))) :
    mm_sp (d + 1) sn kX10_blockOf [.ref 1, .int v1] m (qI P) := by
  have hb := mb_117
  refine wp_in (la := [some (.ref 1), some (.int v1)]) ⟨⟨Nat.le_of_ble_eq_true rfl, by decide, by decide⟩, rfl⟩ ?_
  refine wp_iload_n hb rfl dX10_blockOf_0 ?_
  refine wp_if_ge hb (y := 0) (t := 6) ⟨rfl, rfl⟩ dX10_blockOf_1 ⟨fun c1 => ?_, fun c1 => ?_⟩
  · have hv := hv.1 c1
    refine wp_aload_n hb rfl dX10_blockOf_6 ?_
    refine wp_getR hb ko_117 lf_10_12 (by decide) m0_1 r0_1_0 dX10_blockOf_7 ?_
    refine wp_getR hb ko_117 lf_10_129 (by decide) m0_2 r0_2_3 dX10_blockOf_10 ?_
    refine wp_iload_n hb rfl dX10_blockOf_13 ?_
    refine wp_callV hb (k' := 7) ko_117 lm_10_237 rfl m0_3 (by decide) (Nat.le_of_ble_eq_true rfl) dX10_blockOf_14 (sp_cI (hv.I (Nat.le_refl _) ?_))
    intro x2 m1 hv
    exact wp_retI hb rfl dX10_blockOf_17 hv
  · have hv := hv.2 c1
    refine wp_iconst hb (x := (-1)) rfl dX10_blockOf_4 ?_
    exact wp_retI hb rfl dX10_blockOf_5 hv
set_option maxRecDepth 100000 in
theorem v_X10_blocks {d sn : Nat} {v1 : Int32} {m : mm_Mem} {P : Int32 → mm_Mem → Prop} 
    (hv : (v1 = nI 0 → (P (m.1 3 0) m)) ∧ (v1 = nI 1 → (P (m.1 3 1) m)) ∧ (v1 = nI 2 → (mm_sp d sn kX6_whole [.ref 2] m (qI fun x4 m1 => mm_sp d sn kX0_strengthOn [.ref 3, .int x4] m1 (qI fun x5 m2 => P x5 m2)))) ∧ (v1 = nI 3 → (mm_sp d sn kX0_union [.ref 3] m (qI fun x7 m3 => mm_sp d sn kJ6_bitCount_0f7a4 [.int x7] m3 (qI fun x8 m4 => P x8 m4)))) ∧ (¬ v1 = nI 0 → ¬ v1 = nI 1 → ¬ v1 = nI 2 → ¬ v1 = nI 3 → (P (-1) m))) :
    mm_sp (d + 1) sn kX10_blocks [.ref 1, .int v1] m (qI P) := by
  have hb := mb_118
  refine wp_in (la := [some (.ref 1), some (.int v1)]) ⟨⟨Nat.le_of_ble_eq_true rfl, by decide, by decide⟩, rfl⟩ ?_
  refine wp_iload_n hb rfl dX10_blocks_0 ?_
  by_cases hc : v1.toInt < 0 ∨ 3 < v1.toInt
  · refine wp_tabO hb hc (t := 86) ⟨rfl, rfl⟩ dX10_blocks_1 ?_
    have hv := hv.2.2.2.2 (mm_out hc (by decide) (by decide)) (mm_out hc (by decide) (by decide)) (mm_out hc (by decide) (by decide)) (mm_out hc (by decide) (by decide))
    refine wp_iconst hb (x := (-1)) rfl dX10_blocks_86 ?_
    exact wp_retI hb rfl dX10_blocks_87 hv
  · have hx := mm_tabc (n := 4) (lo := 0) (by decide) hc (by decide)
    obtain ⟨j, hj, hx⟩ := hx
    by_cases g0 : j = 0
    · subst g0
      have hv := hv.1 hx
      have hc9 := hc
      rw [hx] at hc9 ⊢
      refine wp_tabI hb (off := 31) hc9 rfl (t := 32) ⟨rfl, rfl⟩ dX10_blocks_1 ?_
      refine wp_aload_n hb rfl dX10_blocks_32 ?_
      refine wp_getR hb ko_118 lf_10_12 (by decide) m0_1 r0_1_0 dX10_blocks_33 ?_
      refine wp_getR hb ko_118 lf_10_129 (by decide) m0_2 r0_2_3 dX10_blocks_36 ?_
      refine wp_getI hb ko_118 lf_10_227 (by decide) m0_3 dX10_blocks_39 ?_
      exact wp_retI hb rfl dX10_blocks_42 hv
    by_cases g1 : j = 1
    · subst g1
      have hv := hv.2.1 hx
      have hc9 := hc
      rw [hx] at hc9 ⊢
      refine wp_tabI hb (off := 42) hc9 rfl (t := 43) ⟨rfl, rfl⟩ dX10_blocks_1 ?_
      refine wp_aload_n hb rfl dX10_blocks_43 ?_
      refine wp_getR hb ko_118 lf_10_12 (by decide) m0_1 r0_1_0 dX10_blocks_44 ?_
      refine wp_getR hb ko_118 lf_10_129 (by decide) m0_2 r0_2_3 dX10_blocks_47 ?_
      refine wp_getI hb ko_118 lf_10_219 (by decide) m0_3 dX10_blocks_50 ?_
      exact wp_retI hb rfl dX10_blocks_53 hv
    by_cases g2 : j = 2
    · subst g2
      have hv := hv.2.2.1 hx
      have hc9 := hc
      rw [hx] at hc9 ⊢
      refine wp_tabI hb (off := 53) hc9 rfl (t := 54) ⟨rfl, rfl⟩ dX10_blocks_1 ?_
      refine wp_aload_n hb rfl dX10_blocks_54 ?_
      refine wp_getR hb ko_118 lf_10_12 (by decide) m0_1 r0_1_0 dX10_blocks_55 ?_
      refine wp_getR hb ko_118 lf_10_129 (by decide) m0_2 r0_2_3 dX10_blocks_58 ?_
      refine wp_aload_n hb rfl dX10_blocks_61 ?_
      refine wp_getR hb ko_118 lf_10_12 (by decide) m0_1 r0_1_0 dX10_blocks_62 ?_
      refine wp_callV hb (k' := 65) ko_118 lm_10_239 rfl m0_2 (by decide) (Nat.le_of_ble_eq_true rfl) dX10_blocks_65 (sp_cI (hv.I (Nat.le_refl _) ?_))
      intro x4 m1 hv
      refine wp_callV hb (k' := 13) ko_118 lm_10_242 rfl m0_3 (by decide) (Nat.le_of_ble_eq_true rfl) dX10_blocks_68 (sp_cI (hv.I (Nat.le_refl _) ?_))
      intro x5 m2 hv
      exact wp_retI hb rfl dX10_blocks_71 hv
    by_cases g3 : j = 3
    · subst g3
      have hv := hv.2.2.2.1 hx
      have hc9 := hc
      rw [hx] at hc9 ⊢
      refine wp_tabI hb (off := 71) hc9 rfl (t := 72) ⟨rfl, rfl⟩ dX10_blocks_1 ?_
      refine wp_aload_n hb rfl dX10_blocks_72 ?_
      refine wp_getR hb ko_118 lf_10_12 (by decide) m0_1 r0_1_0 dX10_blocks_73 ?_
      refine wp_getR hb ko_118 lf_10_129 (by decide) m0_2 r0_2_3 dX10_blocks_76 ?_
      refine wp_callV hb (k' := 8) ko_118 lm_10_245 rfl m0_3 (by decide) (Nat.le_of_ble_eq_true rfl) dX10_blocks_79 (sp_cI (hv.I (Nat.le_refl _) ?_))
      intro x7 m3 hv
      refine wp_callS hb (k' := 227) ko_118 lm_10_222 (by decide) rfl (Nat.le_of_ble_eq_true rfl) dX10_blocks_82 (sp_cI (hv.I (Nat.le_refl _) ?_))
      intro x8 m4 hv
      exact wp_retI hb rfl dX10_blocks_85 hv
    omega
set_option maxRecDepth 100000 in
theorem v_X10_share {d sn : Nat} {v1 : Int32} {m : mm_Mem} {P : Int32 → mm_Mem → Prop} 
    (hv : ((v1 < 0) → (P (-2) m)) ∧ (¬ (v1 < 0) → (((v1 ≤ m.1 3 0) → (mm_sp d sn kX6_whole [.ref 2] m (qI fun x3 m1 => mm_sp d sn kX0_shareOn [.ref 3, .int x3, .int v1] m1 (qI fun x4 m2 => P x4 m2)))) ∧ (¬ (v1 ≤ m.1 3 0) → (P (-2) m))))) :
    mm_sp (d + 1) sn kX10_share [.ref 1, .int v1] m (qI P) := by
  have hb := mb_119
  refine wp_in (la := [some (.ref 1), some (.int v1)]) ⟨⟨Nat.le_of_ble_eq_true rfl, by decide, by decide⟩, rfl⟩ ?_
  refine wp_iload_n hb rfl dX10_share_0 ?_
  refine wp_if_lt hb (y := 0) (t := 18) ⟨rfl, rfl⟩ dX10_share_1 ⟨fun c1 => ?_, fun c1 => ?_⟩
  · have hv := hv.1 c1
    refine wp_bipush hb (x := (-2)) rfl dX10_share_18 ?_
    exact wp_retI hb rfl dX10_share_20 hv
  · have hv := hv.2 c1
    refine wp_iload_n hb rfl dX10_share_4 ?_
    refine wp_aload_n hb rfl dX10_share_5 ?_
    refine wp_getR hb ko_119 lf_10_12 (by decide) m0_1 r0_1_0 dX10_share_6 ?_
    refine wp_getR hb ko_119 lf_10_129 (by decide) m0_2 r0_2_3 dX10_share_9 ?_
    refine wp_getI hb ko_119 lf_10_227 (by decide) m0_3 dX10_share_12 ?_
    refine wp_icmp_le hb (t := 21) ⟨rfl, rfl⟩ dX10_share_15 ⟨fun c2 => ?_, fun c2 => ?_⟩
    · have hv := hv.1 c2
      refine wp_aload_n hb rfl dX10_share_21 ?_
      refine wp_getR hb ko_119 lf_10_12 (by decide) m0_1 r0_1_0 dX10_share_22 ?_
      refine wp_getR hb ko_119 lf_10_129 (by decide) m0_2 r0_2_3 dX10_share_25 ?_
      refine wp_aload_n hb rfl dX10_share_28 ?_
      refine wp_getR hb ko_119 lf_10_12 (by decide) m0_1 r0_1_0 dX10_share_29 ?_
      refine wp_callV hb (k' := 65) ko_119 lm_10_239 rfl m0_2 (by decide) (Nat.le_of_ble_eq_true rfl) dX10_share_32 (sp_cI (hv.I (Nat.le_refl _) ?_))
      intro x3 m1 hv
      refine wp_iload_n hb rfl dX10_share_35 ?_
      refine wp_callV hb (k' := 12) ko_119 lm_10_248 rfl m0_3 (by decide) (Nat.le_of_ble_eq_true rfl) dX10_share_36 (sp_cI (hv.I (Nat.le_refl _) ?_))
      intro x4 m2 hv
      exact wp_retI hb rfl dX10_share_39 hv
    · have hv := hv.2 c2
      refine wp_bipush hb (x := (-2)) rfl dX10_share_18 ?_
      exact wp_retI hb rfl dX10_share_20 hv
set_option maxRecDepth 100000 in
theorem v_X10_meets {d sn : Nat} {v1 : Int32} {v2 : Int32} {m : mm_Mem} {P : Int32 → mm_Mem → Prop} 
    (hv : mm_sp d sn kX6_isSet [.ref 2, .int v1] m (qI fun x1 m1 => ((¬ x1 = 0) → (((v2 < 0) → (P (-2) m1)) ∧ (¬ (v2 < 0) → (((v2 ≤ nI 8) → (mm_sp d sn kX0_meeting [.ref 3, .int v1, .int v2] m1 (qI fun x5 m2 => P x5 m2))) ∧ (¬ (v2 ≤ nI 8) → (P (-2) m1)))))) ∧ (¬ (¬ x1 = 0) → (P (-1) m1)))) :
    mm_sp (d + 1) sn kX10_meets [.ref 1, .int v1, .int v2] m (qI P) := by
  have hb := mb_120
  refine wp_in (la := [some (.ref 1), some (.int v1), some (.int v2)]) ⟨⟨Nat.le_of_ble_eq_true rfl, by decide, by decide⟩, rfl⟩ ?_
  refine wp_aload_n hb rfl dX10_meets_0 ?_
  refine wp_getR hb ko_120 lf_10_12 (by decide) m0_1 r0_1_0 dX10_meets_1 ?_
  refine wp_iload_n hb rfl dX10_meets_4 ?_
  refine wp_callV hb (k' := 64) ko_120 lm_10_148 rfl m0_2 (by decide) (Nat.le_of_ble_eq_true rfl) dX10_meets_5 (sp_cI (hv.I (Nat.le_refl _) ?_))
  intro x1 m1 hv
  refine wp_if_ne hb (y := 0) (t := 13) ⟨rfl, rfl⟩ dX10_meets_8 ⟨fun c2 => ?_, fun c2 => ?_⟩
  · have hv := hv.1 c2
    refine wp_iload_n hb rfl dX10_meets_13 ?_
    refine wp_if_lt hb (y := 0) (t := 23) ⟨rfl, rfl⟩ dX10_meets_14 ⟨fun c3 => ?_, fun c3 => ?_⟩
    · have hv := hv.1 c3
      refine wp_bipush hb (x := (-2)) rfl dX10_meets_23 ?_
      exact wp_retI hb rfl dX10_meets_25 hv
    · have hv := hv.2 c3
      refine wp_iload_n hb rfl dX10_meets_17 ?_
      refine wp_bipush hb (x := nI 8) rfl dX10_meets_18 ?_
      refine wp_icmp_le hb (t := 26) ⟨rfl, rfl⟩ dX10_meets_20 ⟨fun c4 => ?_, fun c4 => ?_⟩
      · have hv := hv.1 c4
        refine wp_aload_n hb rfl dX10_meets_26 ?_
        refine wp_getR hb ko_120 lf_10_12 (by decide) m0_1 r0_1_0 dX10_meets_27 ?_
        refine wp_getR hb ko_120 lf_10_129 (by decide) m0_2 r0_2_3 dX10_meets_30 ?_
        refine wp_iload_n hb rfl dX10_meets_33 ?_
        refine wp_iload_n hb rfl dX10_meets_34 ?_
        refine wp_callV hb (k' := 10) ko_120 lm_10_251 rfl m0_3 (by decide) (Nat.le_of_ble_eq_true rfl) dX10_meets_35 (sp_cI (hv.I (Nat.le_refl _) ?_))
        intro x5 m2 hv
        exact wp_retI hb rfl dX10_meets_38 hv
      · have hv := hv.2 c4
        refine wp_bipush hb (x := (-2)) rfl dX10_meets_23 ?_
        exact wp_retI hb rfl dX10_meets_25 hv
  · have hv := hv.2 c2
    refine wp_iconst hb (x := (-1)) rfl dX10_meets_11 ?_
    exact wp_retI hb rfl dX10_meets_12 hv
set_option maxRecDepth 100000 in
theorem v_X10_turned {d sn : Nat} {m : mm_Mem} {P : Int32 → mm_Mem → Prop} 
    (hv : ((¬ m.1 3 0 = m.1 2 0) → (mm_sp d sn kX0_turn [.ref 3, .int (m.1 2 0)] m (qV fun m1 => P (m1.1 3 1) m1))) ∧ (¬ (¬ m.1 3 0 = m.1 2 0) → (P (-3) m))) :
    mm_sp (d + 1) sn kX10_turned [.ref 1] m (qI P) := by
  have hb := mb_121
  refine wp_in (la := [some (.ref 1)]) ⟨⟨Nat.le_of_ble_eq_true rfl, by decide, by decide⟩, rfl⟩ ?_
  refine wp_aload_n hb rfl dX10_turned_0 ?_
  refine wp_getR hb ko_121 lf_10_12 (by decide) m0_1 r0_1_0 dX10_turned_1 ?_
  refine wp_getR hb ko_121 lf_10_129 (by decide) m0_2 r0_2_3 dX10_turned_4 ?_
  refine wp_getI hb ko_121 lf_10_227 (by decide) m0_3 dX10_turned_7 ?_
  refine wp_aload_n hb rfl dX10_turned_10 ?_
  refine wp_getR hb ko_121 lf_10_12 (by decide) m0_1 r0_1_0 dX10_turned_11 ?_
  refine wp_getI hb ko_121 lf_10_84 (by decide) m0_2 dX10_turned_14 ?_
  refine wp_icmp_ne hb (t := 23) ⟨rfl, rfl⟩ dX10_turned_17 ⟨fun c1 => ?_, fun c1 => ?_⟩
  · have hv := hv.1 c1
    refine wp_aload_n hb rfl dX10_turned_23 ?_
    refine wp_getR hb ko_121 lf_10_12 (by decide) m0_1 r0_1_0 dX10_turned_24 ?_
    refine wp_getR hb ko_121 lf_10_129 (by decide) m0_2 r0_2_3 dX10_turned_27 ?_
    refine wp_aload_n hb rfl dX10_turned_30 ?_
    refine wp_getR hb ko_121 lf_10_12 (by decide) m0_1 r0_1_0 dX10_turned_31 ?_
    refine wp_getI hb ko_121 lf_10_84 (by decide) m0_2 dX10_turned_34 ?_
    refine wp_callV hb (k' := 14) ko_121 lm_10_254 rfl m0_3 (by decide) (Nat.le_of_ble_eq_true rfl) dX10_turned_37 (sp_cV (hv.V (Nat.le_refl _) ?_))
    intro m1 hv
    refine wp_aload_n hb rfl dX10_turned_40 ?_
    refine wp_getR hb ko_121 lf_10_12 (by decide) m0_1 r0_1_0 dX10_turned_41 ?_
    refine wp_getR hb ko_121 lf_10_129 (by decide) m0_2 r0_2_3 dX10_turned_44 ?_
    refine wp_getI hb ko_121 lf_10_219 (by decide) m0_3 dX10_turned_47 ?_
    exact wp_retI hb rfl dX10_turned_50 hv
  · have hv := hv.2 c1
    refine wp_bipush hb (x := (-3)) rfl dX10_turned_20 ?_
    exact wp_retI hb rfl dX10_turned_22 hv
set_option maxRecDepth 100000 in
theorem v_X10_parted {d sn : Nat} {v1 : Int32} {v2 : Int32} {m : mm_Mem} {P : Int32 → mm_Mem → Prop} 
    (hv : mm_sp d sn kX6_isPoint [.ref 2, .int v1] m (qI fun x1 m1 => ((x1 = 0) → (P (-1) m1)) ∧ (¬ (x1 = 0) → (((v2 < 0) → (P (-1) m1)) ∧ (¬ (v2 < 0) → (((v2 ≤ nI 2) → (((nI 2 ≤ v2) → (mm_sp d sn kX0_becomePart [.ref 78, .ref 3, .int (mm_shl (nI 1) v1), .int (nI 0)] m1 (qV fun m2 => ((¬ v2 = 0) → (((¬ m2.1 78 1 = 0) → (mm_sp d sn kX6_whole [.ref 2] m2 (qI fun x9 m3 => mm_sp d sn kX0_strengthOn [.ref 78, .int (x9 &&& ((mm_shl (nI 1) v1) ^^^ (-1)))] m3 (qI fun x10 m4 => P x10 m4)))) ∧ (¬ (¬ m2.1 78 1 = 0) → (P (-5) m2)))) ∧ (¬ (¬ v2 = 0) → (P (m2.1 78 1) m2))))) ∧ (¬ (nI 2 ≤ v2) → (mm_sp d sn kX0_becomePart [.ref 78, .ref 3, .int (mm_shl (nI 1) v1), .int (nI 1)] m1 (qV fun m5 => ((¬ v2 = 0) → (((¬ m5.1 78 1 = 0) → (mm_sp d sn kX6_whole [.ref 2] m5 (qI fun x14 m6 => mm_sp d sn kX0_strengthOn [.ref 78, .int (x14 &&& ((mm_shl (nI 1) v1) ^^^ (-1)))] m6 (qI fun x15 m7 => P x15 m7)))) ∧ (¬ (¬ m5.1 78 1 = 0) → (P (-5) m5)))) ∧ (¬ (¬ v2 = 0) → (P (m5.1 78 1) m5))))))) ∧ (¬ (v2 ≤ nI 2) → (P (-1) m1)))))))) :
    mm_sp (d + 1) sn kX10_parted [.ref 1, .int v1, .int v2] m (qI P) := by
  have hb := mb_122
  refine wp_in (la := [some (.ref 1), some (.int v1), some (.int v2)]) ⟨⟨Nat.le_of_ble_eq_true rfl, by decide, by decide⟩, rfl⟩ ?_
  refine wp_aload_n hb rfl dX10_parted_0 ?_
  refine wp_getR hb ko_122 lf_10_12 (by decide) m0_1 r0_1_0 dX10_parted_1 ?_
  refine wp_iload_n hb rfl dX10_parted_4 ?_
  refine wp_callV hb (k' := 62) ko_122 lm_10_140 rfl m0_2 (by decide) (Nat.le_of_ble_eq_true rfl) dX10_parted_5 (sp_cI (hv.I (Nat.le_refl _) ?_))
  intro x1 m1 hv
  refine wp_if_eq hb (y := 0) (t := 20) ⟨rfl, rfl⟩ dX10_parted_8 ⟨fun c2 => ?_, fun c2 => ?_⟩
  · have hv := hv.1 c2
    refine wp_iconst hb (x := (-1)) rfl dX10_parted_20 ?_
    exact wp_retI hb rfl dX10_parted_21 hv
  · have hv := hv.2 c2
    refine wp_iload_n hb rfl dX10_parted_11 ?_
    refine wp_if_lt hb (y := 0) (t := 20) ⟨rfl, rfl⟩ dX10_parted_12 ⟨fun c3 => ?_, fun c3 => ?_⟩
    · have hv := hv.1 c3
      refine wp_iconst hb (x := (-1)) rfl dX10_parted_20 ?_
      exact wp_retI hb rfl dX10_parted_21 hv
    · have hv := hv.2 c3
      refine wp_iload_n hb rfl dX10_parted_15 ?_
      refine wp_iconst hb (x := nI 2) rfl dX10_parted_16 ?_
      refine wp_icmp_le hb (t := 22) ⟨rfl, rfl⟩ dX10_parted_17 ⟨fun c4 => ?_, fun c4 => ?_⟩
      · have hv := hv.1 c4
        refine wp_aload_n hb rfl dX10_parted_22 ?_
        refine wp_getR hb ko_122 lf_10_77 (by decide) m0_1 r0_1_10 dX10_parted_23 ?_
        refine wp_aload_n hb rfl dX10_parted_26 ?_
        refine wp_getR hb ko_122 lf_10_12 (by decide) m0_1 r0_1_0 dX10_parted_27 ?_
        refine wp_getR hb ko_122 lf_10_129 (by decide) m0_2 r0_2_3 dX10_parted_30 ?_
        refine wp_iconst hb (x := nI 1) rfl dX10_parted_33 ?_
        refine wp_iload_n hb rfl dX10_parted_34 ?_
        refine wp_ishl hb dX10_parted_35 ?_
        refine wp_iload_n hb rfl dX10_parted_36 ?_
        refine wp_iconst hb (x := nI 2) rfl dX10_parted_37 ?_
        refine wp_icmp_ge hb (t := 45) ⟨rfl, rfl⟩ dX10_parted_38 ⟨fun c5 => ?_, fun c5 => ?_⟩
        · have hv := hv.1 c5
          refine wp_iconst hb (x := nI 0) rfl dX10_parted_45 ?_
          refine wp_callV hb (k' := 4) ko_122 lm_10_257 rfl m0_78 (by decide) (Nat.le_of_ble_eq_true rfl) dX10_parted_46 (sp_cV (hv.V (Nat.le_refl _) ?_))
          intro m2 hv
          refine wp_iload_n hb rfl dX10_parted_49 ?_
          refine wp_if_ne hb (y := 0) (t := 61) ⟨rfl, rfl⟩ dX10_parted_50 ⟨fun c7 => ?_, fun c7 => ?_⟩
          · have hv := hv.1 c7
            refine wp_aload_n hb rfl dX10_parted_61 ?_
            refine wp_getR hb ko_122 lf_10_77 (by decide) m0_1 r0_1_10 dX10_parted_62 ?_
            refine wp_getI hb ko_122 lf_10_219 (by decide) m0_78 dX10_parted_65 ?_
            refine wp_if_ne hb (y := 0) (t := 74) ⟨rfl, rfl⟩ dX10_parted_68 ⟨fun c8 => ?_, fun c8 => ?_⟩
            · have hv := hv.1 c8
              refine wp_aload_n hb rfl dX10_parted_74 ?_
              refine wp_getR hb ko_122 lf_10_77 (by decide) m0_1 r0_1_10 dX10_parted_75 ?_
              refine wp_aload_n hb rfl dX10_parted_78 ?_
              refine wp_getR hb ko_122 lf_10_12 (by decide) m0_1 r0_1_0 dX10_parted_79 ?_
              refine wp_callV hb (k' := 65) ko_122 lm_10_239 rfl m0_2 (by decide) (Nat.le_of_ble_eq_true rfl) dX10_parted_82 (sp_cI (hv.I (Nat.le_refl _) ?_))
              intro x9 m3 hv
              refine wp_iconst hb (x := nI 1) rfl dX10_parted_85 ?_
              refine wp_iload_n hb rfl dX10_parted_86 ?_
              refine wp_ishl hb dX10_parted_87 ?_
              refine wp_iconst hb (x := (-1)) rfl dX10_parted_88 ?_
              refine wp_ixor hb dX10_parted_89 ?_
              refine wp_iand hb dX10_parted_90 ?_
              refine wp_callV hb (k' := 13) ko_122 lm_10_242 rfl m0_78 (by decide) (Nat.le_of_ble_eq_true rfl) dX10_parted_91 (sp_cI (hv.I (Nat.le_refl _) ?_))
              intro x10 m4 hv
              exact wp_retI hb rfl dX10_parted_94 hv
            · have hv := hv.2 c8
              refine wp_bipush hb (x := (-5)) rfl dX10_parted_71 ?_
              exact wp_retI hb rfl dX10_parted_73 hv
          · have hv := hv.2 c7
            refine wp_aload_n hb rfl dX10_parted_53 ?_
            refine wp_getR hb ko_122 lf_10_77 (by decide) m0_1 r0_1_10 dX10_parted_54 ?_
            refine wp_getI hb ko_122 lf_10_219 (by decide) m0_78 dX10_parted_57 ?_
            exact wp_retI hb rfl dX10_parted_60 hv
        · have hv := hv.2 c5
          refine wp_iconst hb (x := nI 1) rfl dX10_parted_41 ?_
          refine wp_goto hb (t := 46) ⟨rfl, rfl⟩ dX10_parted_42 ?_
          refine wp_callV hb (k' := 4) ko_122 lm_10_257 rfl m0_78 (by decide) (Nat.le_of_ble_eq_true rfl) dX10_parted_46 (sp_cV (hv.V (Nat.le_refl _) ?_))
          intro m5 hv
          refine wp_iload_n hb rfl dX10_parted_49 ?_
          refine wp_if_ne hb (y := 0) (t := 61) ⟨rfl, rfl⟩ dX10_parted_50 ⟨fun c12 => ?_, fun c12 => ?_⟩
          · have hv := hv.1 c12
            refine wp_aload_n hb rfl dX10_parted_61 ?_
            refine wp_getR hb ko_122 lf_10_77 (by decide) m0_1 r0_1_10 dX10_parted_62 ?_
            refine wp_getI hb ko_122 lf_10_219 (by decide) m0_78 dX10_parted_65 ?_
            refine wp_if_ne hb (y := 0) (t := 74) ⟨rfl, rfl⟩ dX10_parted_68 ⟨fun c13 => ?_, fun c13 => ?_⟩
            · have hv := hv.1 c13
              refine wp_aload_n hb rfl dX10_parted_74 ?_
              refine wp_getR hb ko_122 lf_10_77 (by decide) m0_1 r0_1_10 dX10_parted_75 ?_
              refine wp_aload_n hb rfl dX10_parted_78 ?_
              refine wp_getR hb ko_122 lf_10_12 (by decide) m0_1 r0_1_0 dX10_parted_79 ?_
              refine wp_callV hb (k' := 65) ko_122 lm_10_239 rfl m0_2 (by decide) (Nat.le_of_ble_eq_true rfl) dX10_parted_82 (sp_cI (hv.I (Nat.le_refl _) ?_))
              intro x14 m6 hv
              refine wp_iconst hb (x := nI 1) rfl dX10_parted_85 ?_
              refine wp_iload_n hb rfl dX10_parted_86 ?_
              refine wp_ishl hb dX10_parted_87 ?_
              refine wp_iconst hb (x := (-1)) rfl dX10_parted_88 ?_
              refine wp_ixor hb dX10_parted_89 ?_
              refine wp_iand hb dX10_parted_90 ?_
              refine wp_callV hb (k' := 13) ko_122 lm_10_242 rfl m0_78 (by decide) (Nat.le_of_ble_eq_true rfl) dX10_parted_91 (sp_cI (hv.I (Nat.le_refl _) ?_))
              intro x15 m7 hv
              exact wp_retI hb rfl dX10_parted_94 hv
            · have hv := hv.2 c13
              refine wp_bipush hb (x := (-5)) rfl dX10_parted_71 ?_
              exact wp_retI hb rfl dX10_parted_73 hv
          · have hv := hv.2 c12
            refine wp_aload_n hb rfl dX10_parted_53 ?_
            refine wp_getR hb ko_122 lf_10_77 (by decide) m0_1 r0_1_10 dX10_parted_54 ?_
            refine wp_getI hb ko_122 lf_10_219 (by decide) m0_78 dX10_parted_57 ?_
            exact wp_retI hb rfl dX10_parted_60 hv
      · have hv := hv.2 c4
        refine wp_iconst hb (x := (-1)) rfl dX10_parted_20 ?_
        exact wp_retI hb rfl dX10_parted_21 hv
set_option maxRecDepth 100000 in
theorem v_X10_keep {d sn : Nat} {m : mm_Mem} {P : Int32 → mm_Mem → Prop} 
    (hv : mm_sp d sn kX6_spareDesign [.ref 2] m (qR fun x1 m1 => (x1 = none → (P (-4) m1)) ∧ (∀ a2, x1 = some a2 → shB a2 ∧ (mm_sp d sn kX0_copyFrom [.ref a2, .ref 3] m1 (qV fun m2 => ∀ m3 : mm_Mem, m3 = (mm_u2 m2.1 2 2 ((m2.1 2 2) + (nI 1)), m2.2) → (P (m2.1 2 2) m3)))))) :
    mm_sp (d + 1) sn kX10_keep [.ref 1] m (qI P) := by
  have hb := mb_123
  refine wp_in (la := [some (.ref 1), none]) ⟨⟨Nat.le_of_ble_eq_true rfl, by decide, by decide⟩, rfl⟩ ?_
  refine wp_aload_n hb rfl dX10_keep_0 ?_
  refine wp_getR hb ko_123 lf_10_12 (by decide) m0_1 r0_1_0 dX10_keep_1 ?_
  refine wp_callV hb (k' := 70) ko_123 lm_10_261 rfl m0_2 (by decide) (Nat.le_of_ble_eq_true rfl) dX10_keep_4 (sp_cR (hv.R (Nat.le_refl _) ?_))
  intro x1 m1 hv
  refine ⟨fun e9 => ?_, fun a9 e9 => ?_⟩
  · have hv := hv.1 e9
    refine wp_astore_nN hb rfl dX10_keep_7 ?_
    refine wp_aload_nN hb rfl dX10_keep_8 ?_
    refine wp_ifnonnullN hb dX10_keep_9 ?_
    refine wp_bipush hb (x := (-4)) rfl dX10_keep_12 ?_
    exact wp_retI hb rfl dX10_keep_14 hv
  · obtain ⟨ha2, hv⟩ := hv.2 a9 e9
    revert hv ha2
    generalize a9 = a2
    intro ha2 hv
    refine wp_astore_n hb rfl dX10_keep_7 ?_
    refine wp_aload_n hb rfl dX10_keep_8 ?_
    refine wp_ifnonnull hb (t := 15) ⟨rfl, rfl⟩ dX10_keep_9 ?_
    refine wp_aload_n hb rfl dX10_keep_15 ?_
    refine wp_aload_n hb rfl dX10_keep_16 ?_
    refine wp_getR hb ko_123 lf_10_12 (by decide) m0_1 r0_1_0 dX10_keep_17 ?_
    refine wp_getR hb ko_123 lf_10_129 (by decide) m0_2 r0_2_3 dX10_keep_20 ?_
    refine wp_callV hb (k' := 2) ko_123 lm_10_265 rfl (ha2.2.1 _) (by decide) (Nat.le_of_ble_eq_true rfl) dX10_keep_23 (sp_cV (hv.V (Nat.le_refl _) ?_))
    intro m2 hv
    refine wp_aload_n hb rfl dX10_keep_26 ?_
    refine wp_getR hb ko_123 lf_10_12 (by decide) m0_1 r0_1_0 dX10_keep_27 ?_
    refine wp_dupR hb dX10_keep_30 ?_
    refine wp_getI hb ko_123 lf_10_269 (by decide) m0_2 dX10_keep_31 ?_
    refine wp_dup_x1 hb dX10_keep_34 ?_
    refine wp_iconst hb (x := nI 1) rfl dX10_keep_35 ?_
    refine wp_iadd hb dX10_keep_36 ?_
    refine wp_putI hb ko_123 lf_10_269 (by decide) m0_2 dX10_keep_37 ?_
    have hv := hv _ rfl
    generalize (mm_u2 m2.1 2 2 ((m2.1 2 2) + (nI 1)), m2.2) = m3 at hv ⊢
    exact wp_retI hb rfl dX10_keep_40 hv
set_option maxRecDepth 100000 in
theorem v_X10_design {d sn : Nat} {v1 : Int32} {v2 : Int32} {m : mm_Mem} {P : Int32 → mm_Mem → Prop} 
    (hv : mm_sp d sn kX6_designAt [.ref 2, .int v1] m (qR fun x1 m1 => (x1 = none → (P (-1) m1)) ∧ (∀ a2, x1 = some a2 → shB a2 ∧ ((v2 = nI 0 → (P (m1.1 a2 0) m1)) ∧ (v2 = nI 1 → (P (m1.1 a2 1) m1)) ∧ (¬ v2 = nI 0 → ¬ v2 = nI 1 → (P (-1) m1)))))) :
    mm_sp (d + 1) sn kX10_design [.ref 1, .int v1, .int v2] m (qI P) := by
  have hb := mb_124
  refine wp_in (la := [some (.ref 1), some (.int v1), some (.int v2), none]) ⟨⟨Nat.le_of_ble_eq_true rfl, by decide, by decide⟩, rfl⟩ ?_
  refine wp_aload_n hb rfl dX10_design_0 ?_
  refine wp_getR hb ko_124 lf_10_12 (by decide) m0_1 r0_1_0 dX10_design_1 ?_
  refine wp_iload_n hb rfl dX10_design_4 ?_
  refine wp_callV hb (k' := 69) ko_124 lm_10_272 rfl m0_2 (by decide) (Nat.le_of_ble_eq_true rfl) dX10_design_5 (sp_cR (hv.R (Nat.le_refl _) ?_))
  intro x1 m1 hv
  refine ⟨fun e9 => ?_, fun a9 e9 => ?_⟩
  · have hv := hv.1 e9
    refine wp_astore_nN hb rfl dX10_design_8 ?_
    refine wp_aload_nN hb rfl dX10_design_9 ?_
    refine wp_ifnonnullN hb dX10_design_10 ?_
    refine wp_iconst hb (x := (-1)) rfl dX10_design_13 ?_
    exact wp_retI hb rfl dX10_design_14 hv
  · obtain ⟨ha2, hv⟩ := hv.2 a9 e9
    revert hv ha2
    generalize a9 = a2
    intro ha2 hv
    refine wp_astore_n hb rfl dX10_design_8 ?_
    refine wp_aload_n hb rfl dX10_design_9 ?_
    refine wp_ifnonnull hb (t := 15) ⟨rfl, rfl⟩ dX10_design_10 ?_
    refine wp_iload_n hb rfl dX10_design_15 ?_
    by_cases g0 : v2 = nI 0
    · have hv := hv.1 g0
      rw [g0]
      refine wp_lsw hb (off := 28) (by decide) (by decide +kernel) (t := 44) ⟨rfl, rfl⟩ dX10_design_16 ?_
      refine wp_aload_n hb rfl dX10_design_44 ?_
      refine wp_getI hb ko_124 lf_10_227 (by decide) (ha2.2.1 _) dX10_design_45 ?_
      exact wp_retI hb rfl dX10_design_48 hv
    by_cases g1 : v2 = nI 1
    · have hv := hv.2.1 g1
      rw [g1]
      refine wp_lsw hb (off := 33) (by decide) (by decide +kernel) (t := 49) ⟨rfl, rfl⟩ dX10_design_16 ?_
      refine wp_aload_n hb rfl dX10_design_49 ?_
      refine wp_getI hb ko_124 lf_10_219 (by decide) (ha2.2.1 _) dX10_design_50 ?_
      exact wp_retI hb rfl dX10_design_53 hv
    refine wp_lsw hb (off := 38) (by decide) (by rw [lv_osw g0 (by decide)]; rw [lv_osw g1 (by decide)]; rfl) (t := 54) ⟨rfl, rfl⟩ dX10_design_16 ?_
    have hv := hv.2.2 g0 g1
    refine wp_iconst hb (x := (-1)) rfl dX10_design_54 ?_
    exact wp_retI hb rfl dX10_design_55 hv
set_option maxRecDepth 100000 in
theorem v_X10_alike {d sn : Nat} {v1 : Int32} {v2 : Int32} {m : mm_Mem} {P : Int32 → mm_Mem → Prop} 
    (hv : mm_sp d sn kX6_designAt [.ref 2, .int v1] m (qR fun x1 m1 => (x1 = none → (mm_sp d sn kX6_designAt [.ref 2, .int v2] m1 (qR fun x2 m2 => (x2 = none → (P (-1) m2)) ∧ (∀ a3, x2 = some a3 → shB a3 ∧ (P (-1) m2))))) ∧ (∀ a4, x1 = some a4 → shB a4 ∧ (mm_sp d sn kX6_designAt [.ref 2, .int v2] m1 (qR fun x5 m3 => (x5 = none → (P (-1) m3)) ∧ (∀ a6, x5 = some a6 → shB a6 ∧ (((m3.1 2 0 ≤ nI 7) → (mm_sp d sn kX4_areAlike [.ref 73, .ref a4, .ref a6, .int (m3.1 2 0)] m3 (qI fun x8 m4 => ((x8 = 0) → (P (nI 0) m4)) ∧ (¬ (x8 = 0) → (P (nI 1) m4))))) ∧ (¬ (m3.1 2 0 ≤ nI 7) → (P (-3) m3))))))))) :
    mm_sp (d + 1) sn kX10_alike [.ref 1, .int v1, .int v2] m (qI P) := by
  have hb := mb_125
  refine wp_in (la := [some (.ref 1), some (.int v1), some (.int v2), none, none]) ⟨⟨Nat.le_of_ble_eq_true rfl, by decide, by decide⟩, rfl⟩ ?_
  refine wp_aload_n hb rfl dX10_alike_0 ?_
  refine wp_getR hb ko_125 lf_10_12 (by decide) m0_1 r0_1_0 dX10_alike_1 ?_
  refine wp_iload_n hb rfl dX10_alike_4 ?_
  refine wp_callV hb (k' := 69) ko_125 lm_10_272 rfl m0_2 (by decide) (Nat.le_of_ble_eq_true rfl) dX10_alike_5 (sp_cR (hv.R (Nat.le_refl _) ?_))
  intro x1 m1 hv
  refine ⟨fun e9 => ?_, fun a9 e9 => ?_⟩
  · have hv := hv.1 e9
    refine wp_astore_nN hb rfl dX10_alike_8 ?_
    refine wp_aload_n hb rfl dX10_alike_9 ?_
    refine wp_getR hb ko_125 lf_10_12 (by decide) m0_1 r0_1_0 dX10_alike_10 ?_
    refine wp_iload_n hb rfl dX10_alike_13 ?_
    refine wp_callV hb (k' := 69) ko_125 lm_10_272 rfl m0_2 (by decide) (Nat.le_of_ble_eq_true rfl) dX10_alike_14 (sp_cR (hv.R (Nat.le_refl _) ?_))
    intro x2 m2 hv
    refine ⟨fun e9 => ?_, fun a9 e9 => ?_⟩
    · have hv := hv.1 e9
      refine wp_astoreN hb rfl dX10_alike_17 ?_
      refine wp_aload_nN hb rfl dX10_alike_19 ?_
      refine wp_ifnullN hb (t := 28) ⟨rfl, rfl⟩ dX10_alike_20 ?_
      refine wp_iconst hb (x := (-1)) rfl dX10_alike_28 ?_
      exact wp_retI hb rfl dX10_alike_29 hv
    · obtain ⟨ha3, hv⟩ := hv.2 a9 e9
      revert hv ha3
      generalize a9 = a3
      intro ha3 hv
      refine wp_astore hb rfl dX10_alike_17 ?_
      refine wp_aload_nN hb rfl dX10_alike_19 ?_
      refine wp_ifnullN hb (t := 28) ⟨rfl, rfl⟩ dX10_alike_20 ?_
      refine wp_iconst hb (x := (-1)) rfl dX10_alike_28 ?_
      exact wp_retI hb rfl dX10_alike_29 hv
  · obtain ⟨ha4, hv⟩ := hv.2 a9 e9
    revert hv ha4
    generalize a9 = a4
    intro ha4 hv
    refine wp_astore_n hb rfl dX10_alike_8 ?_
    refine wp_aload_n hb rfl dX10_alike_9 ?_
    refine wp_getR hb ko_125 lf_10_12 (by decide) m0_1 r0_1_0 dX10_alike_10 ?_
    refine wp_iload_n hb rfl dX10_alike_13 ?_
    refine wp_callV hb (k' := 69) ko_125 lm_10_272 rfl m0_2 (by decide) (Nat.le_of_ble_eq_true rfl) dX10_alike_14 (sp_cR (hv.R (Nat.le_refl _) ?_))
    intro x5 m3 hv
    refine ⟨fun e9 => ?_, fun a9 e9 => ?_⟩
    · have hv := hv.1 e9
      refine wp_astoreN hb rfl dX10_alike_17 ?_
      refine wp_aload_n hb rfl dX10_alike_19 ?_
      refine wp_ifnull hb dX10_alike_20 ?_
      refine wp_aloadN hb rfl dX10_alike_23 ?_
      refine wp_ifnonnullN hb dX10_alike_25 ?_
      refine wp_iconst hb (x := (-1)) rfl dX10_alike_28 ?_
      exact wp_retI hb rfl dX10_alike_29 hv
    · obtain ⟨ha6, hv⟩ := hv.2 a9 e9
      revert hv ha6
      generalize a9 = a6
      intro ha6 hv
      refine wp_astore hb rfl dX10_alike_17 ?_
      refine wp_aload_n hb rfl dX10_alike_19 ?_
      refine wp_ifnull hb dX10_alike_20 ?_
      refine wp_aload hb rfl dX10_alike_23 ?_
      refine wp_ifnonnull hb (t := 30) ⟨rfl, rfl⟩ dX10_alike_25 ?_
      refine wp_aload_n hb rfl dX10_alike_30 ?_
      refine wp_getR hb ko_125 lf_10_12 (by decide) m0_1 r0_1_0 dX10_alike_31 ?_
      refine wp_getI hb ko_125 lf_10_84 (by decide) m0_2 dX10_alike_34 ?_
      refine wp_bipush hb (x := nI 7) rfl dX10_alike_37 ?_
      refine wp_icmp_le hb (t := 45) ⟨rfl, rfl⟩ dX10_alike_39 ⟨fun c7 => ?_, fun c7 => ?_⟩
      · have hv := hv.1 c7
        refine wp_aload_n hb rfl dX10_alike_45 ?_
        refine wp_getR hb ko_125 lf_10_63 (by decide) m0_1 r0_1_8 dX10_alike_46 ?_
        refine wp_aload_n hb rfl dX10_alike_49 ?_
        refine wp_aload hb rfl dX10_alike_50 ?_
        refine wp_aload_n hb rfl dX10_alike_52 ?_
        refine wp_getR hb ko_125 lf_10_12 (by decide) m0_1 r0_1_0 dX10_alike_53 ?_
        refine wp_getI hb ko_125 lf_10_84 (by decide) m0_2 dX10_alike_56 ?_
        refine wp_callV hb (k' := 43) ko_125 lm_10_276 rfl m0_73 (by decide) (Nat.le_of_ble_eq_true rfl) dX10_alike_59 (sp_cI (hv.I (Nat.le_refl _) ?_))
        intro x8 m4 hv
        refine wp_if_eq hb (y := 0) (t := 69) ⟨rfl, rfl⟩ dX10_alike_62 ⟨fun c9 => ?_, fun c9 => ?_⟩
        · have hv := hv.1 c9
          refine wp_iconst hb (x := nI 0) rfl dX10_alike_69 ?_
          exact wp_retI hb rfl dX10_alike_70 hv
        · have hv := hv.2 c9
          refine wp_iconst hb (x := nI 1) rfl dX10_alike_65 ?_
          refine wp_goto hb (t := 70) ⟨rfl, rfl⟩ dX10_alike_66 ?_
          exact wp_retI hb rfl dX10_alike_70 hv
      · have hv := hv.2 c7
        refine wp_bipush hb (x := (-3)) rfl dX10_alike_42 ?_
        exact wp_retI hb rfl dX10_alike_44 hv
