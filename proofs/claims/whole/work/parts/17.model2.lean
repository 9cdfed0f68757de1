set_option maxRecDepth 100000 in
theorem v_X11_member {d sn : Nat} {v1 : Int32} {v2 : Int32} {v3 : Int32} {m : mm_Mem} {P : Int32 → mm_Mem → Prop} 
    (hv : mm_sp d sn kX11_isSize [.ref 82, .int v1] m (qI fun x1 m1 => ((¬ x1 = 0) → (mm_sp d sn kX11_finds [.ref 82] m1 (qV fun m2 => vp_in v1 9 ∧ (mm_sp d sn kX11_in [.long v2.toInt64, .long (lN 0), .long (((m2.1 100 v1.toNatClampNeg) - (nI 1)).toInt64)] m2 (qI fun x5 m3 => ((x5 = 0) → (P (-1) m3)) ∧ (¬ (x5 = 0) → (((0 ≤ v3) → (mm_wp d sn kX11_member 45 [some (.ref 82), some (.int v1), some (.int v2), none, some (.int v3), some (.int (nI 0))] [] m3 (qI P))) ∧ (¬ (0 ≤ v3) → (P (-1) m3))))))))) ∧ (¬ (¬ x1 = 0) → (P (-2) m1)))) :
    mm_sp (d + 1) sn kX11_member [.ref 82, .int v1, .int v2, .int v3] m (qI P) := by
  have hb := mb_179
  refine wp_in (la := [some (.ref 82), some (.int v1), some (.int v2), some (.int v3), none, none]) ⟨⟨Nat.le_of_ble_eq_true rfl, by decide, by decide⟩, rfl⟩ ?_
  refine wp_aload_n hb rfl dX11_member_0 ?_
  refine wp_iload_n hb rfl dX11_member_1 ?_
  refine wp_callV hb (k' := 174) ko_179 lm_11_131 rfl m0_82 (by decide) (Nat.le_of_ble_eq_true rfl) dX11_member_2 (sp_cI (hv.I (Nat.le_refl _) ?_))
  intro x1 m1 hv
  refine wp_if_ne hb (y := 0) (t := 11) ⟨rfl, rfl⟩ dX11_member_5 ⟨fun c2 => ?_, fun c2 => ?_⟩
  · have hv := hv.1 c2
    refine wp_aload_n hb rfl dX11_member_11 ?_
    refine wp_callV hb (k' := 173) ko_179 lm_11_134 rfl m0_82 (by decide) (Nat.le_of_ble_eq_true rfl) dX11_member_12 (sp_cV (hv.V (Nat.le_refl _) ?_))
    intro m2 hv
    refine wp_iload_n hb rfl dX11_member_15 ?_
    refine wp_i2l hb dX11_member_16 ?_
    refine wp_lconst hb (x := lN 0) rfl dX11_member_17 ?_
    refine wp_aload_n hb rfl dX11_member_18 ?_
    refine wp_getR hb ko_179 lf_11_35 (by decide) m0_82 r0_82_8 dX11_member_19 ?_
    refine wp_iload_n hb rfl dX11_member_22 ?_
    obtain ⟨q4, hv⟩ := hv
    refine wp_iaload hb rfl m0_100 q4 dX11_member_23 ?_
    refine wp_iconst hb (x := nI 1) rfl dX11_member_24 ?_
    refine wp_isub hb dX11_member_25 ?_
    refine wp_i2l hb dX11_member_26 ?_
    refine wp_callS hb (k' := 152) ko_179 lm_11_85 (by decide) rfl (Nat.le_of_ble_eq_true rfl) dX11_member_27 (sp_cI (hv.I (Nat.le_refl _) ?_))
    intro x5 m3 hv
    refine wp_if_eq hb (y := 0) (t := 37) ⟨rfl, rfl⟩ dX11_member_30 ⟨fun c6 => ?_, fun c6 => ?_⟩
    · have hv := hv.1 c6
      refine wp_iconst hb (x := (-1)) rfl dX11_member_37 ?_
      exact wp_retI hb rfl dX11_member_38 hv
    · have hv := hv.2 c6
      refine wp_iload_n hb rfl dX11_member_33 ?_
      refine wp_if_ge hb (y := 0) (t := 39) ⟨rfl, rfl⟩ dX11_member_34 ⟨fun c7 => ?_, fun c7 => ?_⟩
      · have hv := hv.1 c7
        refine wp_iload_n hb rfl dX11_member_39 ?_
        refine wp_istore hb rfl dX11_member_40 ?_
        refine wp_iconst hb (x := nI 0) rfl dX11_member_42 ?_
        refine wp_istore hb rfl dX11_member_43 ?_
        exact wp_for (mm_ls_k (mm_ls_k (mm_ls_k (mm_ls_f (mm_ls_k (mm_ls_k mm_ls_nil)))))) hv
      · have hv := hv.2 c7
        refine wp_iconst hb (x := (-1)) rfl dX11_member_37 ?_
        exact wp_retI hb rfl dX11_member_38 hv
  · have hv := hv.2 c2
    refine wp_bipush hb (x := (-2)) rfl dX11_member_8 ?_
    exact wp_retI hb rfl dX11_member_10 hv
set_option maxRecDepth 100000 in
theorem v_X11_member_45 {d sn : Nat} {v1 : Int32} {v2 : Int32} {v4 : Int32} {v5 : Int32} {m : mm_Mem} {P : Int32 → mm_Mem → Prop} 
    (hv : mm_sp d sn kX11_whole [.ref 82] m (qI fun x1 m1 => ((x1 < v5) → (P (-5) m1)) ∧ (¬ (x1 < v5) → (mm_sp d sn kX11_isIn [.ref 82, .int v5, .int v1, .int v2] m1 (qI fun x3 m2 => ((x3 = 0) → (mm_wp d sn kX11_member 45 [some (.ref 82), some (.int v1), some (.int v2), none, some (.int v4), some (.int (v5 + nI 1))] [] m2 (qI P))) ∧ (¬ (x3 = 0) → (((¬ v4 = 0) → (mm_wp d sn kX11_member 45 [some (.ref 82), some (.int v1), some (.int v2), none, some (.int (v4 + (-1))), some (.int (v5 + nI 1))] [] m2 (qI P))) ∧ (¬ (¬ v4 = 0) → (P v5 m2))))))))) :
    mm_wp d sn kX11_member 45 [some (.ref 82), some (.int v1), some (.int v2), none, some (.int v4), some (.int v5)] [] m (qI P) := by
  have hb := mb_179
  refine wp_iload hb rfl dX11_member_45 ?_
  refine wp_aload_n hb rfl dX11_member_47 ?_
  refine wp_callV hb (k' := 155) ko_179 lm_11_81 rfl m0_82 (by decide) (Nat.le_of_ble_eq_true rfl) dX11_member_48 (sp_cI (hv.I (Nat.le_refl _) ?_))
  intro x1 m1 hv
  refine wp_icmp_gt hb (t := 82) ⟨rfl, rfl⟩ dX11_member_51 ⟨fun c2 => ?_, fun c2 => ?_⟩
  · have hv := hv.1 c2
    refine wp_bipush hb (x := (-5)) rfl dX11_member_82 ?_
    exact wp_retI hb rfl dX11_member_84 hv
  · have hv := hv.2 c2
    refine wp_aload_n hb rfl dX11_member_54 ?_
    refine wp_iload hb rfl dX11_member_55 ?_
    refine wp_iload_n hb rfl dX11_member_57 ?_
    refine wp_iload_n hb rfl dX11_member_58 ?_
    refine wp_callV hb (k' := 176) ko_179 lm_11_137 rfl m0_82 (by decide) (Nat.le_of_ble_eq_true rfl) dX11_member_59 (sp_cI (hv.I (Nat.le_refl _) ?_))
    intro x3 m2 hv
    refine wp_if_eq hb (y := 0) (t := 76) ⟨rfl, rfl⟩ dX11_member_62 ⟨fun c4 => ?_, fun c4 => ?_⟩
    · have hv := hv.1 c4
      refine wp_iinc hb rfl (y := v5 + nI 1) rfl rfl dX11_member_76 ?_
      refine wp_goto hb (t := 45) ⟨rfl, rfl⟩ dX11_member_79 ?_
      exact wp_for (mm_ls_k (mm_ls_k (mm_ls_k (mm_ls_k (mm_ls_k (mm_ls_k mm_ls_nil)))))) hv
    · have hv := hv.2 c4
      refine wp_iload hb rfl dX11_member_65 ?_
      refine wp_if_ne hb (y := 0) (t := 73) ⟨rfl, rfl⟩ dX11_member_67 ⟨fun c5 => ?_, fun c5 => ?_⟩
      · have hv := hv.1 c5
        refine wp_iinc hb rfl (y := v4 + (-1)) (congrArg (fun z => v4 + z) (by decide : Int32.ofInt (-1) = (-1))) rfl dX11_member_73 ?_
        refine wp_iinc hb rfl (y := v5 + nI 1) rfl rfl dX11_member_76 ?_
        refine wp_goto hb (t := 45) ⟨rfl, rfl⟩ dX11_member_79 ?_
        exact wp_for (mm_ls_k (mm_ls_k (mm_ls_k (mm_ls_k (mm_ls_k (mm_ls_k mm_ls_nil)))))) hv
      · have hv := hv.2 c5
        refine wp_iload hb rfl dX11_member_70 ?_
        exact wp_retI hb rfl dX11_member_72 hv
set_option maxRecDepth 100000 in
theorem v_X11_orbitOf {d sn : Nat} {v1 : Int32} {m : mm_Mem} {P : Int32 → mm_Mem → Prop} 
    (hv : mm_sp d sn kX11_isSet [.ref 82, .int v1] m (qI fun x1 m1 => ((¬ x1 = 0) → (mm_sp d sn kX11_finds [.ref 82] m1 (qV fun m2 => vp_in v1 256 ∧ (P (m2.1 99 v1.toNatClampNeg) m2)))) ∧ (¬ (¬ x1 = 0) → (P (-1) m1)))) :
    mm_sp (d + 1) sn kX11_orbitOf [.ref 82, .int v1] m (qI P) := by
  have hb := mb_180
  refine wp_in (la := [some (.ref 82), some (.int v1)]) ⟨⟨Nat.le_of_ble_eq_true rfl, by decide, by decide⟩, rfl⟩ ?_
  refine wp_aload_n hb rfl dX11_orbitOf_0 ?_
  refine wp_iload_n hb rfl dX11_orbitOf_1 ?_
  refine wp_callV hb (k' := 156) ko_180 lm_11_125 rfl m0_82 (by decide) (Nat.le_of_ble_eq_true rfl) dX11_orbitOf_2 (sp_cI (hv.I (Nat.le_refl _) ?_))
  intro x1 m1 hv
  refine wp_if_ne hb (y := 0) (t := 10) ⟨rfl, rfl⟩ dX11_orbitOf_5 ⟨fun c2 => ?_, fun c2 => ?_⟩
  · have hv := hv.1 c2
    refine wp_aload_n hb rfl dX11_orbitOf_10 ?_
    refine wp_callV hb (k' := 173) ko_180 lm_11_134 rfl m0_82 (by decide) (Nat.le_of_ble_eq_true rfl) dX11_orbitOf_11 (sp_cV (hv.V (Nat.le_refl _) ?_))
    intro m2 hv
    refine wp_aload_n hb rfl dX11_orbitOf_14 ?_
    refine wp_getR hb ko_180 lf_11_32 (by decide) m0_82 r0_82_7 dX11_orbitOf_15 ?_
    refine wp_iload_n hb rfl dX11_orbitOf_18 ?_
    obtain ⟨q4, hv⟩ := hv
    refine wp_iaload hb rfl m0_99 q4 dX11_orbitOf_19 ?_
    exact wp_retI hb rfl dX11_orbitOf_20 hv
  · have hv := hv.2 c2
    refine wp_iconst hb (x := (-1)) rfl dX11_orbitOf_8 ?_
    exact wp_retI hb rfl dX11_orbitOf_9 hv
set_option maxRecDepth 100000 in
theorem v_X11_areSizes {d sn : Nat} {v1 : Int32} {v2 : Int32} {m : mm_Mem} {P : Int32 → mm_Mem → Prop} 
    (hv : mm_sp d sn kX11_isSize [.ref 82, .int v1] m (qI fun x1 m1 => ((x1 = 0) → (P (nI 0) m1)) ∧ (¬ (x1 = 0) → (mm_sp d sn kX11_isSize [.ref 82, .int v2] m1 (qI fun x3 m2 => ((x3 = 0) → (P (nI 0) m2)) ∧ (¬ (x3 = 0) → (((v2 < v1) → (P (nI 0) m2)) ∧ (¬ (v2 < v1) → (P (nI 1) m2))))))))) :
    mm_sp (d + 1) sn kX11_areSizes [.ref 82, .int v1, .int v2] m (qI P) := by
  have hb := mb_181
  refine wp_in (la := [some (.ref 82), some (.int v1), some (.int v2)]) ⟨⟨Nat.le_of_ble_eq_true rfl, by decide, by decide⟩, rfl⟩ ?_
  refine wp_aload_n hb rfl dX11_areSizes_0 ?_
  refine wp_iload_n hb rfl dX11_areSizes_1 ?_
  refine wp_callV hb (k' := 174) ko_181 lm_11_131 rfl m0_82 (by decide) (Nat.le_of_ble_eq_true rfl) dX11_areSizes_2 (sp_cI (hv.I (Nat.le_refl _) ?_))
  intro x1 m1 hv
  refine wp_if_eq hb (y := 0) (t := 25) ⟨rfl, rfl⟩ dX11_areSizes_5 ⟨fun c2 => ?_, fun c2 => ?_⟩
  · have hv := hv.1 c2
    refine wp_iconst hb (x := nI 0) rfl dX11_areSizes_25 ?_
    exact wp_retZ hb rfl (by decide) dX11_areSizes_26 hv
  · have hv := hv.2 c2
    refine wp_aload_n hb rfl dX11_areSizes_8 ?_
    refine wp_iload_n hb rfl dX11_areSizes_9 ?_
    refine wp_callV hb (k' := 174) ko_181 lm_11_131 rfl m0_82 (by decide) (Nat.le_of_ble_eq_true rfl) dX11_areSizes_10 (sp_cI (hv.I (Nat.le_refl _) ?_))
    intro x3 m2 hv
    refine wp_if_eq hb (y := 0) (t := 25) ⟨rfl, rfl⟩ dX11_areSizes_13 ⟨fun c4 => ?_, fun c4 => ?_⟩
    · have hv := hv.1 c4
      refine wp_iconst hb (x := nI 0) rfl dX11_areSizes_25 ?_
      exact wp_retZ hb rfl (by decide) dX11_areSizes_26 hv
    · have hv := hv.2 c4
      refine wp_iload_n hb rfl dX11_areSizes_16 ?_
      refine wp_iload_n hb rfl dX11_areSizes_17 ?_
      refine wp_icmp_gt hb (t := 25) ⟨rfl, rfl⟩ dX11_areSizes_18 ⟨fun c5 => ?_, fun c5 => ?_⟩
      · have hv := hv.1 c5
        refine wp_iconst hb (x := nI 0) rfl dX11_areSizes_25 ?_
        exact wp_retZ hb rfl (by decide) dX11_areSizes_26 hv
      · have hv := hv.2 c5
        refine wp_iconst hb (x := nI 1) rfl dX11_areSizes_21 ?_
        refine wp_goto hb (t := 26) ⟨rfl, rfl⟩ dX11_areSizes_22 ?_
        exact wp_retZ hb rfl (by decide) dX11_areSizes_26 hv
set_option maxRecDepth 100000 in
theorem v_X11_tables {d sn : Nat} {v1 : Int32} {v2 : Int32} {m : mm_Mem} {P : mm_Mem → Prop} 
    (hv : mm_sp d sn kX11_finds [.ref 82] m (qV fun m1 => mm_wp d sn kX11_tables 6 [some (.ref 82), some (.int v1), some (.int v2), some (.int (nI 0)), none, none] [] m1 (qV P))) :
    mm_sp (d + 1) sn kX11_tables [.ref 82, .int v1, .int v2] m (qV P) := by
  have hb := mb_182
  refine wp_in (la := [some (.ref 82), some (.int v1), some (.int v2), none, none, none]) ⟨⟨Nat.le_of_ble_eq_true rfl, by decide, by decide⟩, rfl⟩ ?_
  refine wp_aload_n hb rfl dX11_tables_0 ?_
  refine wp_callV hb (k' := 173) ko_182 lm_11_134 rfl m0_82 (by decide) (Nat.le_of_ble_eq_true rfl) dX11_tables_1 (sp_cV (hv.V (Nat.le_refl _) ?_))
  intro m1 hv
  refine wp_iconst hb (x := nI 0) rfl dX11_tables_4 ?_
  refine wp_istore_n hb rfl dX11_tables_5 ?_
  exact wp_for (mm_ls_k (mm_ls_k (mm_ls_k (mm_ls_k (mm_ls_k (mm_ls_k mm_ls_nil)))))) hv
set_option maxRecDepth 100000 in
theorem v_X11_tables_6 {d sn : Nat} {v1 : Int32} {v2 : Int32} {v3 : Int32} {m : mm_Mem} {P : mm_Mem → Prop} 
    (hv : vp_in v1 9 ∧ (((m.1 100 v1.toNatClampNeg ≤ v3) → (P m)) ∧ (¬ (m.1 100 v1.toNatClampNeg ≤ v3) → (mm_sp d sn kX11_least [.ref 82, .int v1, .int v3] m (qI fun x3 m1 => mm_wp d sn kX11_tables 27 [some (.ref 82), some (.int v1), some (.int v2), some (.int v3), some (.int x3), some (.int (nI 0))] [] m1 (qV P)))))) :
    mm_wp d sn kX11_tables 6 [some (.ref 82), some (.int v1), some (.int v2), some (.int v3), none, none] [] m (qV P) := by
  have hb := mb_182
  refine wp_iload_n hb rfl dX11_tables_6 ?_
  refine wp_aload_n hb rfl dX11_tables_7 ?_
  refine wp_getR hb ko_182 lf_11_35 (by decide) m0_82 r0_82_8 dX11_tables_8 ?_
  refine wp_iload_n hb rfl dX11_tables_11 ?_
  obtain ⟨q1, hv⟩ := hv
  refine wp_iaload hb rfl m0_100 q1 dX11_tables_12 ?_
  refine wp_icmp_ge hb (t := 143) ⟨rfl, rfl⟩ dX11_tables_13 ⟨fun c2 => ?_, fun c2 => ?_⟩
  · have hv := hv.1 c2
    exact wp_retV hb rfl dX11_tables_143 hv
  · have hv := hv.2 c2
    refine wp_aload_n hb rfl dX11_tables_16 ?_
    refine wp_iload_n hb rfl dX11_tables_17 ?_
    refine wp_iload_n hb rfl dX11_tables_18 ?_
    refine wp_callV hb (k' := 177) ko_182 lm_11_143 rfl m0_82 (by decide) (Nat.le_of_ble_eq_true rfl) dX11_tables_19 (sp_cI (hv.I (Nat.le_refl _) ?_))
    intro x3 m1 hv
    refine wp_istore hb rfl dX11_tables_22 ?_
    refine wp_iconst hb (x := nI 0) rfl dX11_tables_24 ?_
    refine wp_istore hb rfl dX11_tables_25 ?_
    exact wp_for (mm_ls_k (mm_ls_k (mm_ls_k (mm_ls_k (mm_ls_k (mm_ls_k mm_ls_nil)))))) hv
set_option maxRecDepth 100000 in
theorem v_X11_tables_27 {d sn : Nat} {v1 : Int32} {v2 : Int32} {v3 : Int32} {v4 : Int32} {v5 : Int32} {m : mm_Mem} {P : mm_Mem → Prop} 
    (hv : vp_in v2 9 ∧ (((m.1 100 v2.toNatClampNeg ≤ v5) → (mm_wp d sn kX11_tables 65 [some (.ref 82), some (.int v1), some (.int v2), some (.int v3), some (.int v4), some (.int (nI 0))] [] m (qV P))) ∧ (¬ (m.1 100 v2.toNatClampNeg ≤ v5) → (∃ i3 : Nat, i3 < 70 ∧ v3 = nI i3 ∧ (vp_in v5 70 ∧ (∀ m1 : mm_Mem, m1 = (mm_u2 m.1 (103 + i3) v5.toNatClampNeg (nI 0), m.2) → (vp_in v5 70 ∧ (∀ m2 : mm_Mem, m2 = (mm_u2 m1.1 173 v5.toNatClampNeg (nI 0), m1.2) → (mm_wp d sn kX11_tables 27 [some (.ref 82), some (.int v1), some (.int v2), some (.int v3), some (.int v4), some (.int (v5 + nI 1))] [] m2 (qV P)))))))))) :
    mm_wp d sn kX11_tables 27 [some (.ref 82), some (.int v1), some (.int v2), some (.int v3), some (.int v4), some (.int v5)] [] m (qV P) := by
  have hb := mb_182
  refine wp_iload hb rfl dX11_tables_27 ?_
  refine wp_aload_n hb rfl dX11_tables_29 ?_
  refine wp_getR hb ko_182 lf_11_35 (by decide) m0_82 r0_82_8 dX11_tables_30 ?_
  refine wp_iload_n hb rfl dX11_tables_33 ?_
  obtain ⟨q1, hv⟩ := hv
  refine wp_iaload hb rfl m0_100 q1 dX11_tables_34 ?_
  refine wp_icmp_ge hb (t := 62) ⟨rfl, rfl⟩ dX11_tables_35 ⟨fun c2 => ?_, fun c2 => ?_⟩
  · have hv := hv.1 c2
    refine wp_iconst hb (x := nI 0) rfl dX11_tables_62 ?_
    refine wp_istore hb rfl dX11_tables_63 ?_
    exact wp_for (mm_ls_k (mm_ls_k (mm_ls_k (mm_ls_k (mm_ls_k (mm_ls_k mm_ls_nil)))))) hv
  · have hv := hv.2 c2
    refine wp_aload_n hb rfl dX11_tables_38 ?_
    refine wp_getR hb ko_182 lf_11_43 (by decide) m0_82 r0_82_10 dX11_tables_39 ?_
    refine wp_iload_n hb rfl dX11_tables_42 ?_
    obtain ⟨i3, hi3, hx3, hv⟩ := hv
    refine wp_aaload hb m0_102 (by decide) (mm_inx hx3 hi3 (by decide)) (mm_rx hx3 (by omega) (mm_meet _ hi3).1) dX11_tables_43 ?_
    refine wp_iload hb rfl dX11_tables_44 ?_
    refine wp_iconst hb (x := nI 0) rfl dX11_tables_46 ?_
    obtain ⟨q4, hv⟩ := hv
    refine wp_iastore hb rfl ((mm_meet _ hi3).2 _) (by omega) q4 dX11_tables_47 ?_
    have hv := hv _ rfl
    generalize (mm_u2 m.1 (103 + i3) v5.toNatClampNeg (nI 0), m.2) = m1 at hv ⊢
    refine wp_aload_n hb rfl dX11_tables_48 ?_
    refine wp_getR hb ko_182 lf_11_46 (by decide) m0_82 r0_82_11 dX11_tables_49 ?_
    refine wp_iload hb rfl dX11_tables_52 ?_
    refine wp_iconst hb (x := nI 0) rfl dX11_tables_54 ?_
    obtain ⟨q5, hv⟩ := hv
    refine wp_iastore hb rfl m0_173 (by decide) q5 dX11_tables_55 ?_
    have hv := hv _ rfl
    generalize (mm_u2 m1.1 173 v5.toNatClampNeg (nI 0), m1.2) = m2 at hv ⊢
    refine wp_iinc hb rfl (y := v5 + nI 1) rfl rfl dX11_tables_56 ?_
    refine wp_goto hb (t := 27) ⟨rfl, rfl⟩ dX11_tables_59 ?_
    exact wp_for (mm_ls_k (mm_ls_k (mm_ls_k (mm_ls_k (mm_ls_k (mm_ls_k mm_ls_nil)))))) hv
set_option maxRecDepth 100000 in
theorem v_X11_tables_65 {d sn : Nat} {v1 : Int32} {v2 : Int32} {v3 : Int32} {v4 : Int32} {v5 : Int32} {m : mm_Mem} {P : mm_Mem → Prop} 
    (hv : mm_sp d sn kX11_whole [.ref 82] m (qI fun x1 m1 => ((x1 < v5) → (mm_wp d sn kX11_tables 6 [some (.ref 82), some (.int v1), some (.int v2), some (.int (v3 + nI 1)), none, none] [] m1 (qV P))) ∧ (¬ (x1 < v5) → (mm_sp d sn kX11_size [.int v5] m1 (qI fun x3 m2 => ((¬ x3 = v2) → (mm_wp d sn kX11_tables 65 [some (.ref 82), some (.int v1), some (.int v2), some (.int v3), some (.int v4), some (.int (v5 + nI 1))] [] m2 (qV P))) ∧ (¬ (¬ x3 = v2) → (vp_in v5 256 ∧ (vp_in (m2.1 99 v5.toNatClampNeg) 70 ∧ (vp_in (m2.1 99 v5.toNatClampNeg) 70 ∧ (∀ m3 : mm_Mem, m3 = (mm_u2 m2.1 173 (m2.1 99 v5.toNatClampNeg).toNatClampNeg ((m2.1 173 (m2.1 99 v5.toNatClampNeg).toNatClampNeg) + (nI 1)), m2.2) → (∃ i8 : Nat, i8 < 70 ∧ v3 = nI i8 ∧ (vp_in v5 256 ∧ (vp_in (m3.1 99 v5.toNatClampNeg) 70 ∧ (((¬ v4 &&& (v5 ^^^ (-1)) = 0) → (vp_in (m3.1 99 v5.toNatClampNeg) 70 ∧ (∀ m4 : mm_Mem, m4 = (mm_u2 m3.1 (103 + i8) (m3.1 99 v5.toNatClampNeg).toNatClampNeg ((m3.1 (103 + i8) (m3.1 99 v5.toNatClampNeg).toNatClampNeg) + (nI 0)), m3.2) → (mm_wp d sn kX11_tables 65 [some (.ref 82), some (.int v1), some (.int v2), some (.int v3), some (.int v4), some (.int (v5 + nI 1))] [] m4 (qV P))))) ∧ (¬ (¬ v4 &&& (v5 ^^^ (-1)) = 0) → (vp_in (m3.1 99 v5.toNatClampNeg) 70 ∧ (∀ m5 : mm_Mem, m5 = (mm_u2 m3.1 (103 + i8) (m3.1 99 v5.toNatClampNeg).toNatClampNeg ((m3.1 (103 + i8) (m3.1 99 v5.toNatClampNeg).toNatClampNeg) + (nI 1)), m3.2) → (mm_wp d sn kX11_tables 65 [some (.ref 82), some (.int v1), some (.int v2), some (.int v3), some (.int v4), some (.int (v5 + nI 1))] [] m5 (qV P))))))))))))))))))) :
    mm_wp d sn kX11_tables 65 [some (.ref 82), some (.int v1), some (.int v2), some (.int v3), some (.int v4), some (.int v5)] [] m (qV P) := by
  have hb := mb_182
  refine wp_iload hb rfl dX11_tables_65 ?_
  refine wp_aload_n hb rfl dX11_tables_67 ?_
  refine wp_callV hb (k' := 155) ko_182 lm_11_81 rfl m0_82 (by decide) (Nat.le_of_ble_eq_true rfl) dX11_tables_68 (sp_cI (hv.I (Nat.le_refl _) ?_))
  intro x1 m1 hv
  refine wp_icmp_gt hb (t := 137) ⟨rfl, rfl⟩ dX11_tables_71 ⟨fun c2 => ?_, fun c2 => ?_⟩
  · have hv := hv.1 c2
    refine wp_iinc hb rfl (y := v3 + nI 1) rfl rfl dX11_tables_137 ?_
    refine wp_goto hb (t := 6) ⟨rfl, rfl⟩ dX11_tables_140 ?_
    exact wp_for (mm_ls_k (mm_ls_k (mm_ls_k (mm_ls_k (mm_ls_f (mm_ls_f mm_ls_nil)))))) hv
  · have hv := hv.2 c2
    refine wp_iload hb rfl dX11_tables_74 ?_
    refine wp_callS hb (k' := 154) ko_182 lm_11_128 (by decide) rfl (Nat.le_of_ble_eq_true rfl) dX11_tables_76 (sp_cI (hv.I (Nat.le_refl _) ?_))
    intro x3 m2 hv
    refine wp_iload_n hb rfl dX11_tables_79 ?_
    refine wp_icmp_ne hb (t := 131) ⟨rfl, rfl⟩ dX11_tables_80 ⟨fun c4 => ?_, fun c4 => ?_⟩
    · have hv := hv.1 c4
      refine wp_iinc hb rfl (y := v5 + nI 1) rfl rfl dX11_tables_131 ?_
      refine wp_goto hb (t := 65) ⟨rfl, rfl⟩ dX11_tables_134 ?_
      exact wp_for (mm_ls_k (mm_ls_k (mm_ls_k (mm_ls_k (mm_ls_k (mm_ls_k mm_ls_nil)))))) hv
    · have hv := hv.2 c4
      refine wp_aload_n hb rfl dX11_tables_83 ?_
      refine wp_getR hb ko_182 lf_11_46 (by decide) m0_82 r0_82_11 dX11_tables_84 ?_
      refine wp_aload_n hb rfl dX11_tables_87 ?_
      refine wp_getR hb ko_182 lf_11_32 (by decide) m0_82 r0_82_7 dX11_tables_88 ?_
      refine wp_iload hb rfl dX11_tables_91 ?_
      obtain ⟨q5, hv⟩ := hv
      refine wp_iaload hb rfl m0_99 q5 dX11_tables_93 ?_
      refine wp_dup2 hb dX11_tables_94 ?_
      obtain ⟨q6, hv⟩ := hv
      refine wp_iaload hb rfl m0_173 q6 dX11_tables_95 ?_
      refine wp_iconst hb (x := nI 1) rfl dX11_tables_96 ?_
      refine wp_iadd hb dX11_tables_97 ?_
      obtain ⟨q7, hv⟩ := hv
      refine wp_iastore hb rfl m0_173 (by decide) q7 dX11_tables_98 ?_
      have hv := hv _ rfl
      generalize (mm_u2 m2.1 173 (m2.1 99 v5.toNatClampNeg).toNatClampNeg ((m2.1 173 (m2.1 99 v5.toNatClampNeg).toNatClampNeg) + (nI 1)), m2.2) = m3 at hv ⊢
      refine wp_aload_n hb rfl dX11_tables_99 ?_
      refine wp_getR hb ko_182 lf_11_43 (by decide) m0_82 r0_82_10 dX11_tables_100 ?_
      refine wp_iload_n hb rfl dX11_tables_103 ?_
      obtain ⟨i8, hi8, hx8, hv⟩ := hv
      refine wp_aaload hb m0_102 (by decide) (mm_inx hx8 hi8 (by decide)) (mm_rx hx8 (by omega) (mm_meet _ hi8).1) dX11_tables_104 ?_
      refine wp_aload_n hb rfl dX11_tables_105 ?_
      refine wp_getR hb ko_182 lf_11_32 (by decide) m0_82 r0_82_7 dX11_tables_106 ?_
      refine wp_iload hb rfl dX11_tables_109 ?_
      obtain ⟨q9, hv⟩ := hv
      refine wp_iaload hb rfl m0_99 q9 dX11_tables_111 ?_
      refine wp_dup2 hb dX11_tables_112 ?_
      obtain ⟨q10, hv⟩ := hv
      refine wp_iaload hb rfl ((mm_meet _ hi8).2 _) q10 dX11_tables_113 ?_
      refine wp_iload hb rfl dX11_tables_114 ?_
      refine wp_iload hb rfl dX11_tables_116 ?_
      refine wp_iconst hb (x := (-1)) rfl dX11_tables_118 ?_
      refine wp_ixor hb dX11_tables_119 ?_
      refine wp_iand hb dX11_tables_120 ?_
      refine wp_if_ne hb (y := 0) (t := 128) ⟨rfl, rfl⟩ dX11_tables_121 ⟨fun c11 => ?_, fun c11 => ?_⟩
      · have hv := hv.1 c11
        refine wp_iconst hb (x := nI 0) rfl dX11_tables_128 ?_
        refine wp_iadd hb dX11_tables_129 ?_
        obtain ⟨q12, hv⟩ := hv
        refine wp_iastore hb rfl ((mm_meet _ hi8).2 _) (by omega) q12 dX11_tables_130 ?_
        have hv := hv _ rfl
        generalize (mm_u2 m3.1 (103 + i8) (m3.1 99 v5.toNatClampNeg).toNatClampNeg ((m3.1 (103 + i8) (m3.1 99 v5.toNatClampNeg).toNatClampNeg) + (nI 0)), m3.2) = m4 at hv ⊢
        refine wp_iinc hb rfl (y := v5 + nI 1) rfl rfl dX11_tables_131 ?_
        refine wp_goto hb (t := 65) ⟨rfl, rfl⟩ dX11_tables_134 ?_
        exact wp_for (mm_ls_k (mm_ls_k (mm_ls_k (mm_ls_k (mm_ls_k (mm_ls_k mm_ls_nil)))))) hv
      · have hv := hv.2 c11
        refine wp_iconst hb (x := nI 1) rfl dX11_tables_124 ?_
        refine wp_goto hb (t := 129) ⟨rfl, rfl⟩ dX11_tables_125 ?_
        refine wp_iadd hb dX11_tables_129 ?_
        obtain ⟨q13, hv⟩ := hv
        refine wp_iastore hb rfl ((mm_meet _ hi8).2 _) (by omega) q13 dX11_tables_130 ?_
        have hv := hv _ rfl
        generalize (mm_u2 m3.1 (103 + i8) (m3.1 99 v5.toNatClampNeg).toNatClampNeg ((m3.1 (103 + i8) (m3.1 99 v5.toNatClampNeg).toNatClampNeg) + (nI 1)), m3.2) = m5 at hv ⊢
        refine wp_iinc hb rfl (y := v5 + nI 1) rfl rfl dX11_tables_131 ?_
        refine wp_goto hb (t := 65) ⟨rfl, rfl⟩ dX11_tables_134 ?_
        exact wp_for (mm_ls_k (mm_ls_k (mm_ls_k (mm_ls_k (mm_ls_k (mm_ls_k mm_ls_nil)))))) hv
set_option maxRecDepth 100000 in
theorem v_X11_table {d sn : Nat} {v1 : Int32} {v2 : Int32} {v3 : Int32} {v4 : Int32} {m : mm_Mem} {P : Int32 → mm_Mem → Prop} 
    (hv : mm_sp d sn kX11_areSizes [.ref 82, .int v1, .int v2] m (qI fun x1 m1 => ((¬ x1 = 0) → (mm_sp d sn kX11_tables [.ref 82, .int v1, .int v2] m1 (qV fun m2 => vp_in v1 9 ∧ (mm_sp d sn kX11_in [.long v3.toInt64, .long (lN 0), .long (((m2.1 100 v1.toNatClampNeg) - (nI 1)).toInt64)] m2 (qI fun x5 m3 => ((x5 = 0) → (P (-1) m3)) ∧ (¬ (x5 = 0) → (vp_in v2 9 ∧ (mm_sp d sn kX11_in [.long v4.toInt64, .long (lN 0), .long (((m3.1 100 v2.toNatClampNeg) - (nI 1)).toInt64)] m3 (qI fun x8 m4 => ((x8 = 0) → (P (-1) m4)) ∧ (¬ (x8 = 0) → (∃ i10 : Nat, i10 < 70 ∧ v3 = nI i10 ∧ (vp_in v4 70 ∧ (P (m4.1 (103 + i10) v4.toNatClampNeg) m4))))))))))))) ∧ (¬ (¬ x1 = 0) → (P (-2) m1)))) :
    mm_sp (d + 1) sn kX11_table [.ref 82, .int v1, .int v2, .int v3, .int v4] m (qI P) := by
  have hb := mb_183
  refine wp_in (la := [some (.ref 82), some (.int v1), some (.int v2), some (.int v3), some (.int v4)]) ⟨⟨Nat.le_of_ble_eq_true rfl, by decide, by decide⟩, rfl⟩ ?_
  refine wp_aload_n hb rfl dX11_table_0 ?_
  refine wp_iload_n hb rfl dX11_table_1 ?_
  refine wp_iload_n hb rfl dX11_table_2 ?_
  refine wp_callV hb (k' := 181) ko_183 lm_11_146 rfl m0_82 (by decide) (Nat.le_of_ble_eq_true rfl) dX11_table_3 (sp_cI (hv.I (Nat.le_refl _) ?_))
  intro x1 m1 hv
  refine wp_if_ne hb (y := 0) (t := 12) ⟨rfl, rfl⟩ dX11_table_6 ⟨fun c2 => ?_, fun c2 => ?_⟩
  · have hv := hv.1 c2
    refine wp_aload_n hb rfl dX11_table_12 ?_
    refine wp_iload_n hb rfl dX11_table_13 ?_
    refine wp_iload_n hb rfl dX11_table_14 ?_
    refine wp_callV hb (k' := 182) ko_183 lm_11_150 rfl m0_82 (by decide) (Nat.le_of_ble_eq_true rfl) dX11_table_15 (sp_cV (hv.V (Nat.le_refl _) ?_))
    intro m2 hv
    refine wp_iload_n hb rfl dX11_table_18 ?_
    refine wp_i2l hb dX11_table_19 ?_
    refine wp_lconst hb (x := lN 0) rfl dX11_table_20 ?_
    refine wp_aload_n hb rfl dX11_table_21 ?_
    refine wp_getR hb ko_183 lf_11_35 (by decide) m0_82 r0_82_8 dX11_table_22 ?_
    refine wp_iload_n hb rfl dX11_table_25 ?_
    obtain ⟨q4, hv⟩ := hv
    refine wp_iaload hb rfl m0_100 q4 dX11_table_26 ?_
    refine wp_iconst hb (x := nI 1) rfl dX11_table_27 ?_
    refine wp_isub hb dX11_table_28 ?_
    refine wp_i2l hb dX11_table_29 ?_
    refine wp_callS hb (k' := 152) ko_183 lm_11_85 (by decide) rfl (Nat.le_of_ble_eq_true rfl) dX11_table_30 (sp_cI (hv.I (Nat.le_refl _) ?_))
    intro x5 m3 hv
    refine wp_if_eq hb (y := 0) (t := 67) ⟨rfl, rfl⟩ dX11_table_33 ⟨fun c6 => ?_, fun c6 => ?_⟩
    · have hv := hv.1 c6
      refine wp_iconst hb (x := (-1)) rfl dX11_table_67 ?_
      exact wp_retI hb rfl dX11_table_68 hv
    · have hv := hv.2 c6
      refine wp_iload hb rfl dX11_table_36 ?_
      refine wp_i2l hb dX11_table_38 ?_
      refine wp_lconst hb (x := lN 0) rfl dX11_table_39 ?_
      refine wp_aload_n hb rfl dX11_table_40 ?_
      refine wp_getR hb ko_183 lf_11_35 (by decide) m0_82 r0_82_8 dX11_table_41 ?_
      refine wp_iload_n hb rfl dX11_table_44 ?_
      obtain ⟨q7, hv⟩ := hv
      refine wp_iaload hb rfl m0_100 q7 dX11_table_45 ?_
      refine wp_iconst hb (x := nI 1) rfl dX11_table_46 ?_
      refine wp_isub hb dX11_table_47 ?_
      refine wp_i2l hb dX11_table_48 ?_
      refine wp_callS hb (k' := 152) ko_183 lm_11_85 (by decide) rfl (Nat.le_of_ble_eq_true rfl) dX11_table_49 (sp_cI (hv.I (Nat.le_refl _) ?_))
      intro x8 m4 hv
      refine wp_if_eq hb (y := 0) (t := 67) ⟨rfl, rfl⟩ dX11_table_52 ⟨fun c9 => ?_, fun c9 => ?_⟩
      · have hv := hv.1 c9
        refine wp_iconst hb (x := (-1)) rfl dX11_table_67 ?_
        exact wp_retI hb rfl dX11_table_68 hv
      · have hv := hv.2 c9
        refine wp_aload_n hb rfl dX11_table_55 ?_
        refine wp_getR hb ko_183 lf_11_43 (by decide) m0_82 r0_82_10 dX11_table_56 ?_
        refine wp_iload_n hb rfl dX11_table_59 ?_
        obtain ⟨i10, hi10, hx10, hv⟩ := hv
        refine wp_aaload hb m0_102 (by decide) (mm_inx hx10 hi10 (by decide)) (mm_rx hx10 (by omega) (mm_meet _ hi10).1) dX11_table_60 ?_
        refine wp_iload hb rfl dX11_table_61 ?_
        obtain ⟨q11, hv⟩ := hv
        refine wp_iaload hb rfl ((mm_meet _ hi10).2 _) q11 dX11_table_63 ?_
        refine wp_goto hb (t := 68) ⟨rfl, rfl⟩ dX11_table_64 ?_
        exact wp_retI hb rfl dX11_table_68 hv
  · have hv := hv.2 c2
    refine wp_bipush hb (x := (-2)) rfl dX11_table_9 ?_
    exact wp_retI hb rfl dX11_table_11 hv
set_option maxRecDepth 100000 in
theorem v_X11_sum {d sn : Nat} {v1 : Int32} {v2 : Int32} {v3 : Int32} {m : mm_Mem} {P : Int32 → mm_Mem → Prop} 
    (hv : mm_wp d sn kX11_sum 6 [some (.ref 82), some (.int v1), some (.int v2), some (.int v3), some (.int (nI 0)), some (.int (nI 0))] [] m (qI P)) :
    mm_sp (d + 1) sn kX11_sum [.ref 82, .int v1, .int v2, .int v3] m (qI P) := by
  have hb := mb_184
  refine wp_in (la := [some (.ref 82), some (.int v1), some (.int v2), some (.int v3), none, none]) ⟨⟨Nat.le_of_ble_eq_true rfl, by decide, by decide⟩, rfl⟩ ?_
  refine wp_iconst hb (x := nI 0) rfl dX11_sum_0 ?_
  refine wp_istore hb rfl dX11_sum_1 ?_
  refine wp_iconst hb (x := nI 0) rfl dX11_sum_3 ?_
  refine wp_istore hb rfl dX11_sum_4 ?_
  exact wp_for (mm_ls_k (mm_ls_k (mm_ls_k (mm_ls_k (mm_ls_k (mm_ls_k mm_ls_nil)))))) hv
set_option maxRecDepth 100000 in
theorem v_X11_sum_6 {d sn : Nat} {v1 : Int32} {v2 : Int32} {v3 : Int32} {v4 : Int32} {v5 : Int32} {m : mm_Mem} {P : Int32 → mm_Mem → Prop} 
    (hv : vp_in v2 9 ∧ (((m.1 100 v2.toNatClampNeg ≤ v5) → (P v4 m)) ∧ (¬ (m.1 100 v2.toNatClampNeg ≤ v5) → (((¬ (mm_shr v3 v5) &&& (nI 1) = nI 1) → (mm_wp d sn kX11_sum 6 [some (.ref 82), some (.int v1), some (.int v2), some (.int v3), some (.int (v4 + (nI 0))), some (.int (v5 + nI 1))] [] m (qI P))) ∧ (¬ (¬ (mm_shr v3 v5) &&& (nI 1) = nI 1) → (∃ i4 : Nat, i4 < 70 ∧ v1 = nI i4 ∧ (vp_in v5 70 ∧ (mm_wp d sn kX11_sum 6 [some (.ref 82), some (.int v1), some (.int v2), some (.int v3), some (.int (v4 + (m.1 (103 + i4) v5.toNatClampNeg))), some (.int (v5 + nI 1))] [] m (qI P))))))))) :
    mm_wp d sn kX11_sum 6 [some (.ref 82), some (.int v1), some (.int v2), some (.int v3), some (.int v4), some (.int v5)] [] m (qI P) := by
  have hb := mb_184
  refine wp_iload hb rfl dX11_sum_6 ?_
  refine wp_aload_n hb rfl dX11_sum_8 ?_
  refine wp_getR hb ko_184 lf_11_35 (by decide) m0_82 r0_82_8 dX11_sum_9 ?_
  refine wp_iload_n hb rfl dX11_sum_12 ?_
  obtain ⟨q1, hv⟩ := hv
  refine wp_iaload hb rfl m0_100 q1 dX11_sum_13 ?_
  refine wp_icmp_ge hb (t := 51) ⟨rfl, rfl⟩ dX11_sum_14 ⟨fun c2 => ?_, fun c2 => ?_⟩
  · have hv := hv.1 c2
    refine wp_iload hb rfl dX11_sum_51 ?_
    exact wp_retI hb rfl dX11_sum_53 hv
  · have hv := hv.2 c2
    refine wp_iload hb rfl dX11_sum_17 ?_
    refine wp_iload_n hb rfl dX11_sum_19 ?_
    refine wp_iload hb rfl dX11_sum_20 ?_
    refine wp_ishr hb dX11_sum_22 ?_
    refine wp_iconst hb (x := nI 1) rfl dX11_sum_23 ?_
    refine wp_iand hb dX11_sum_24 ?_
    refine wp_iconst hb (x := nI 1) rfl dX11_sum_25 ?_
    refine wp_icmp_ne hb (t := 41) ⟨rfl, rfl⟩ dX11_sum_26 ⟨fun c3 => ?_, fun c3 => ?_⟩
    · have hv := hv.1 c3
      refine wp_iconst hb (x := nI 0) rfl dX11_sum_41 ?_
      refine wp_iadd hb dX11_sum_42 ?_
      refine wp_istore hb rfl dX11_sum_43 ?_
      refine wp_iinc hb rfl (y := v5 + nI 1) rfl rfl dX11_sum_45 ?_
      refine wp_goto hb (t := 6) ⟨rfl, rfl⟩ dX11_sum_48 ?_
      exact wp_for (mm_ls_k (mm_ls_k (mm_ls_k (mm_ls_k (mm_ls_k (mm_ls_k mm_ls_nil)))))) hv
    · have hv := hv.2 c3
      refine wp_aload_n hb rfl dX11_sum_29 ?_
      refine wp_getR hb ko_184 lf_11_43 (by decide) m0_82 r0_82_10 dX11_sum_30 ?_
      refine wp_iload_n hb rfl dX11_sum_33 ?_
      obtain ⟨i4, hi4, hx4, hv⟩ := hv
      refine wp_aaload hb m0_102 (by decide) (mm_inx hx4 hi4 (by decide)) (mm_rx hx4 (by omega) (mm_meet _ hi4).1) dX11_sum_34 ?_
      refine wp_iload hb rfl dX11_sum_35 ?_
      obtain ⟨q5, hv⟩ := hv
      refine wp_iaload hb rfl ((mm_meet _ hi4).2 _) q5 dX11_sum_37 ?_
      refine wp_goto hb (t := 42) ⟨rfl, rfl⟩ dX11_sum_38 ?_
      refine wp_iadd hb dX11_sum_42 ?_
      refine wp_istore hb rfl dX11_sum_43 ?_
      refine wp_iinc hb rfl (y := v5 + nI 1) rfl rfl dX11_sum_45 ?_
      refine wp_goto hb (t := 6) ⟨rfl, rfl⟩ dX11_sum_48 ?_
      exact wp_for (mm_ls_k (mm_ls_k (mm_ls_k (mm_ls_k (mm_ls_k (mm_ls_k mm_ls_nil)))))) hv
set_option maxRecDepth 100000 in
theorem v_X11_solves {d sn : Nat} {v1 : Int32} {v2 : Int32} {v3 : Int32} {v4 : Int32} {m : mm_Mem} {P : Int32 → mm_Mem → Prop} 
    (hv : mm_wp d sn kX11_solves 3 [some (.ref 82), some (.int v1), some (.int v2), some (.int v3), some (.int v4), some (.int (nI 0))] [] m (qI P)) :
    mm_sp (d + 1) sn kX11_solves [.ref 82, .int v1, .int v2, .int v3, .int v4] m (qI P) := by
  have hb := mb_185
  refine wp_in (la := [some (.ref 82), some (.int v1), some (.int v2), some (.int v3), some (.int v4), none]) ⟨⟨Nat.le_of_ble_eq_true rfl, by decide, by decide⟩, rfl⟩ ?_
  refine wp_iconst hb (x := nI 0) rfl dX11_solves_0 ?_
  refine wp_istore hb rfl dX11_solves_1 ?_
  exact wp_for (mm_ls_k (mm_ls_k (mm_ls_k (mm_ls_k (mm_ls_k (mm_ls_k mm_ls_nil)))))) hv
set_option maxRecDepth 100000 in
theorem v_X11_solves_3 {d sn : Nat} {v1 : Int32} {v2 : Int32} {v3 : Int32} {v4 : Int32} {v5 : Int32} {m : mm_Mem} {P : Int32 → mm_Mem → Prop} 
    (hv : vp_in v1 9 ∧ (((m.1 100 v1.toNatClampNeg ≤ v5) → (P (nI 1) m)) ∧ (¬ (m.1 100 v1.toNatClampNeg ≤ v5) → (mm_sp d sn kX11_sum [.ref 82, .int v5, .int v2, .int v4] m (qI fun x3 m1 => ((x3 = v3) → (mm_wp d sn kX11_solves 3 [some (.ref 82), some (.int v1), some (.int v2), some (.int v3), some (.int v4), some (.int (v5 + nI 1))] [] m1 (qI P))) ∧ (¬ (x3 = v3) → (P (nI 0) m1))))))) :
    mm_wp d sn kX11_solves 3 [some (.ref 82), some (.int v1), some (.int v2), some (.int v3), some (.int v4), some (.int v5)] [] m (qI P) := by
  have hb := mb_185
  refine wp_iload hb rfl dX11_solves_3 ?_
  refine wp_aload_n hb rfl dX11_solves_5 ?_
  refine wp_getR hb ko_185 lf_11_35 (by decide) m0_82 r0_82_8 dX11_solves_6 ?_
  refine wp_iload_n hb rfl dX11_solves_9 ?_
  obtain ⟨q1, hv⟩ := hv
  refine wp_iaload hb rfl m0_100 q1 dX11_solves_10 ?_
  refine wp_icmp_ge hb (t := 35) ⟨rfl, rfl⟩ dX11_solves_11 ⟨fun c2 => ?_, fun c2 => ?_⟩
  · have hv := hv.1 c2
    refine wp_iconst hb (x := nI 1) rfl dX11_solves_35 ?_
    exact wp_retZ hb rfl (by decide) dX11_solves_36 hv
  · have hv := hv.2 c2
    refine wp_aload_n hb rfl dX11_solves_14 ?_
    refine wp_iload hb rfl dX11_solves_15 ?_
    refine wp_iload_n hb rfl dX11_solves_17 ?_
    refine wp_iload hb rfl dX11_solves_18 ?_
    refine wp_callV hb (k' := 184) ko_185 lm_11_154 rfl m0_82 (by decide) (Nat.le_of_ble_eq_true rfl) dX11_solves_20 (sp_cI (hv.I (Nat.le_refl _) ?_))
    intro x3 m1 hv
    refine wp_iload_n hb rfl dX11_solves_23 ?_
    refine wp_icmp_eq hb (t := 29) ⟨rfl, rfl⟩ dX11_solves_24 ⟨fun c4 => ?_, fun c4 => ?_⟩
    · have hv := hv.1 c4
      refine wp_iinc hb rfl (y := v5 + nI 1) rfl rfl dX11_solves_29 ?_
      refine wp_goto hb (t := 3) ⟨rfl, rfl⟩ dX11_solves_32 ?_
      exact wp_for (mm_ls_k (mm_ls_k (mm_ls_k (mm_ls_k (mm_ls_k (mm_ls_k mm_ls_nil)))))) hv
    · have hv := hv.2 c4
      refine wp_iconst hb (x := nI 0) rfl dX11_solves_27 ?_
      exact wp_retZ hb rfl (by decide) dX11_solves_28 hv
set_option maxRecDepth 100000 in
theorem v_X11_nth {d sn : Nat} {v1 : Int32} {v2 : Int32} {v3 : Int32} {v4 : Int32} {m : mm_Mem} {P : Int32 → mm_Mem → Prop} 
    (hv : mm_wp d sn kX11_nth 6 [some (.ref 82), some (.int v1), some (.int v2), some (.int v3), some (.int v4), some (.int (nI 0)), some (.int (nI 0))] [] m (qI P)) :
    mm_sp (d + 1) sn kX11_nth [.ref 82, .int v1, .int v2, .int v3, .int v4] m (qI P) := by
  have hb := mb_186
  refine wp_in (la := [some (.ref 82), some (.int v1), some (.int v2), some (.int v3), some (.int v4), none, none]) ⟨⟨Nat.le_of_ble_eq_true rfl, by decide, by decide⟩, rfl⟩ ?_
  refine wp_iconst hb (x := nI 0) rfl dX11_nth_0 ?_
  refine wp_istore hb rfl dX11_nth_1 ?_
  refine wp_iconst hb (x := nI 0) rfl dX11_nth_3 ?_
  refine wp_istore hb rfl dX11_nth_4 ?_
  exact wp_for (mm_ls_k (mm_ls_k (mm_ls_k (mm_ls_k (mm_ls_k (mm_ls_k (mm_ls_k mm_ls_nil))))))) hv
set_option maxRecDepth 100000 in
theorem v_X11_nth_6 {d sn : Nat} {v1 : Int32} {v2 : Int32} {v3 : Int32} {v4 : Int32} {v5 : Int32} {v6 : Int32} {m : mm_Mem} {P : Int32 → mm_Mem → Prop} 
    (hv : vp_in v2 9 ∧ (((mm_shl (nI 1) (m.1 100 v2.toNatClampNeg) ≤ v6) → (((0 ≤ v4) → (P (-5) m)) ∧ (¬ (0 ≤ v4) → (P v5 m)))) ∧ (¬ (mm_shl (nI 1) (m.1 100 v2.toNatClampNeg) ≤ v6) → (mm_sp d sn kX11_solves [.ref 82, .int v1, .int v2, .int v3, .int v6] m (qI fun x4 m1 => ((x4 = 0) → (mm_wp d sn kX11_nth 6 [some (.ref 82), some (.int v1), some (.int v2), some (.int v3), some (.int v4), some (.int v5), some (.int (v6 + nI 1))] [] m1 (qI P))) ∧ (¬ (x4 = 0) → (((¬ v5 = v4) → (mm_wp d sn kX11_nth 6 [some (.ref 82), some (.int v1), some (.int v2), some (.int v3), some (.int v4), some (.int (v5 + nI 1)), some (.int (v6 + nI 1))] [] m1 (qI P))) ∧ (¬ (¬ v5 = v4) → (P v6 m1))))))))) :
    mm_wp d sn kX11_nth 6 [some (.ref 82), some (.int v1), some (.int v2), some (.int v3), some (.int v4), some (.int v5), some (.int v6)] [] m (qI P) := by
  have hb := mb_186
  refine wp_iload hb rfl dX11_nth_6 ?_
  refine wp_iconst hb (x := nI 1) rfl dX11_nth_8 ?_
  refine wp_aload_n hb rfl dX11_nth_9 ?_
  refine wp_getR hb ko_186 lf_11_35 (by decide) m0_82 r0_82_8 dX11_nth_10 ?_
  refine wp_iload_n hb rfl dX11_nth_13 ?_
  obtain ⟨q1, hv⟩ := hv
  refine wp_iaload hb rfl m0_100 q1 dX11_nth_14 ?_
  refine wp_ishl hb dX11_nth_15 ?_
  refine wp_icmp_ge hb (t := 50) ⟨rfl, rfl⟩ dX11_nth_16 ⟨fun c2 => ?_, fun c2 => ?_⟩
  · have hv := hv.1 c2
    refine wp_iload hb rfl dX11_nth_50 ?_
    refine wp_if_ge hb (y := 0) (t := 60) ⟨rfl, rfl⟩ dX11_nth_52 ⟨fun c3 => ?_, fun c3 => ?_⟩
    · have hv := hv.1 c3
      refine wp_bipush hb (x := (-5)) rfl dX11_nth_60 ?_
      exact wp_retI hb rfl dX11_nth_62 hv
    · have hv := hv.2 c3
      refine wp_iload hb rfl dX11_nth_55 ?_
      refine wp_goto hb (t := 62) ⟨rfl, rfl⟩ dX11_nth_57 ?_
      exact wp_retI hb rfl dX11_nth_62 hv
  · have hv := hv.2 c2
    refine wp_aload_n hb rfl dX11_nth_19 ?_
    refine wp_iload_n hb rfl dX11_nth_20 ?_
    refine wp_iload_n hb rfl dX11_nth_21 ?_
    refine wp_iload_n hb rfl dX11_nth_22 ?_
    refine wp_iload hb rfl dX11_nth_23 ?_
    refine wp_callV hb (k' := 185) ko_186 lm_11_157 rfl m0_82 (by decide) (Nat.le_of_ble_eq_true rfl) dX11_nth_25 (sp_cI (hv.I (Nat.le_refl _) ?_))
    intro x4 m1 hv
    refine wp_if_eq hb (y := 0) (t := 44) ⟨rfl, rfl⟩ dX11_nth_28 ⟨fun c5 => ?_, fun c5 => ?_⟩
    · have hv := hv.1 c5
      refine wp_iinc hb rfl (y := v6 + nI 1) rfl rfl dX11_nth_44 ?_
      refine wp_goto hb (t := 6) ⟨rfl, rfl⟩ dX11_nth_47 ?_
      exact wp_for (mm_ls_k (mm_ls_k (mm_ls_k (mm_ls_k (mm_ls_k (mm_ls_k (mm_ls_k mm_ls_nil))))))) hv
    · have hv := hv.2 c5
      refine wp_iload hb rfl dX11_nth_31 ?_
      refine wp_iload hb rfl dX11_nth_33 ?_
      refine wp_icmp_ne hb (t := 41) ⟨rfl, rfl⟩ dX11_nth_35 ⟨fun c6 => ?_, fun c6 => ?_⟩
      · have hv := hv.1 c6
        refine wp_iinc hb rfl (y := v5 + nI 1) rfl rfl dX11_nth_41 ?_
        refine wp_iinc hb rfl (y := v6 + nI 1) rfl rfl dX11_nth_44 ?_
        refine wp_goto hb (t := 6) ⟨rfl, rfl⟩ dX11_nth_47 ?_
        exact wp_for (mm_ls_k (mm_ls_k (mm_ls_k (mm_ls_k (mm_ls_k (mm_ls_k (mm_ls_k mm_ls_nil))))))) hv
      · have hv := hv.2 c6
        refine wp_iload hb rfl dX11_nth_38 ?_
        exact wp_retI hb rfl dX11_nth_40 hv
set_option maxRecDepth 100000 in
theorem v_X11_solved {d sn : Nat} {v1 : Int32} {v2 : Int32} {v3 : Int32} {v4 : Int32} {m : mm_Mem} {P : Int32 → mm_Mem → Prop} 
    (hv : mm_sp d sn kX11_areSizes [.ref 82, .int v1, .int v2] m (qI fun x1 m1 => ((x1 = 0) → (P (-2) m1)) ∧ (¬ (x1 = 0) → (mm_sp d sn kX11_in [.long v3.toInt64, .long (lN 1), .long (lN 70)] m1 (qI fun x3 m2 => ((¬ x3 = 0) → (mm_sp d sn kX11_in [.long v4.toInt64, .long (lN 0), .long (lN 1)] m2 (qI fun x5 m3 => ((¬ x5 = 0) → (mm_sp d sn kX11_tables [.ref 82, .int v1, .int v2] m3 (qV fun m4 => vp_in v2 9 ∧ (((m4.1 100 v2.toNatClampNeg ≤ nI 14) → (((¬ v4 = 0) → (mm_sp d sn kX11_nth [.ref 82, .int v1, .int v2, .int v3, .int (nI 0)] m4 (qI fun x11 m5 => P x11 m5))) ∧ (¬ (¬ v4 = 0) → (mm_sp d sn kX11_nth [.ref 82, .int v1, .int v2, .int v3, .int (-1)] m4 (qI fun x12 m6 => P x12 m6))))) ∧ (¬ (m4.1 100 v2.toNatClampNeg ≤ nI 14) → (P (-3) m4)))))) ∧ (¬ (¬ x5 = 0) → (P (-1) m3))))) ∧ (¬ (¬ x3 = 0) → (P (-2) m2))))))) :
    mm_sp (d + 1) sn kX11_solved [.ref 82, .int v1, .int v2, .int v3, .int v4] m (qI P) := by
  have hb := mb_187
  refine wp_in (la := [some (.ref 82), some (.int v1), some (.int v2), some (.int v3), some (.int v4)]) ⟨⟨Nat.le_of_ble_eq_true rfl, by decide, by decide⟩, rfl⟩ ?_
  refine wp_aload_n hb rfl dX11_solved_0 ?_
  refine wp_iload_n hb rfl dX11_solved_1 ?_
  refine wp_iload_n hb rfl dX11_solved_2 ?_
  refine wp_callV hb (k' := 181) ko_187 lm_11_146 rfl m0_82 (by decide) (Nat.le_of_ble_eq_true rfl) dX11_solved_3 (sp_cI (hv.I (Nat.le_refl _) ?_))
  intro x1 m1 hv
  refine wp_if_eq hb (y := 0) (t := 21) ⟨rfl, rfl⟩ dX11_solved_6 ⟨fun c2 => ?_, fun c2 => ?_⟩
  · have hv := hv.1 c2
    refine wp_bipush hb (x := (-2)) rfl dX11_solved_21 ?_
    exact wp_retI hb rfl dX11_solved_23 hv
  · have hv := hv.2 c2
    refine wp_iload_n hb rfl dX11_solved_9 ?_
    refine wp_i2l hb dX11_solved_10 ?_
    refine wp_lconst hb (x := lN 1) rfl dX11_solved_11 ?_
    refine wp_ldc2 hb (ko_187) (kl_11_161) dX11_solved_12 ?_
    refine wp_callS hb (k' := 152) ko_187 lm_11_85 (by decide) rfl (Nat.le_of_ble_eq_true rfl) dX11_solved_15 (sp_cI (hv.I (Nat.le_refl _) ?_))
    intro x3 m2 hv
    refine wp_if_ne hb (y := 0) (t := 24) ⟨rfl, rfl⟩ dX11_solved_18 ⟨fun c4 => ?_, fun c4 => ?_⟩
    · have hv := hv.1 c4
      refine wp_iload hb rfl dX11_solved_24 ?_
      refine wp_i2l hb dX11_solved_26 ?_
      refine wp_lconst hb (x := lN 0) rfl dX11_solved_27 ?_
      refine wp_lconst hb (x := lN 1) rfl dX11_solved_28 ?_
      refine wp_callS hb (k' := 152) ko_187 lm_11_85 (by decide) rfl (Nat.le_of_ble_eq_true rfl) dX11_solved_29 (sp_cI (hv.I (Nat.le_refl _) ?_))
      intro x5 m3 hv
      refine wp_if_ne hb (y := 0) (t := 37) ⟨rfl, rfl⟩ dX11_solved_32 ⟨fun c6 => ?_, fun c6 => ?_⟩
      · have hv := hv.1 c6
        refine wp_aload_n hb rfl dX11_solved_37 ?_
        refine wp_iload_n hb rfl dX11_solved_38 ?_
        refine wp_iload_n hb rfl dX11_solved_39 ?_
        refine wp_callV hb (k' := 182) ko_187 lm_11_150 rfl m0_82 (by decide) (Nat.le_of_ble_eq_true rfl) dX11_solved_40 (sp_cV (hv.V (Nat.le_refl _) ?_))
        intro m4 hv
        refine wp_aload_n hb rfl dX11_solved_43 ?_
        refine wp_getR hb ko_187 lf_11_35 (by decide) m0_82 r0_82_8 dX11_solved_44 ?_
        refine wp_iload_n hb rfl dX11_solved_47 ?_
        obtain ⟨q8, hv⟩ := hv
        refine wp_iaload hb rfl m0_100 q8 dX11_solved_48 ?_
        refine wp_bipush hb (x := nI 14) rfl dX11_solved_49 ?_
        refine wp_icmp_le hb (t := 59) ⟨rfl, rfl⟩ dX11_solved_51 ⟨fun c9 => ?_, fun c9 => ?_⟩
        · have hv := hv.1 c9
          refine wp_aload_n hb rfl dX11_solved_59 ?_
          refine wp_iload_n hb rfl dX11_solved_60 ?_
          refine wp_iload_n hb rfl dX11_solved_61 ?_
          refine wp_iload_n hb rfl dX11_solved_62 ?_
          refine wp_iload hb rfl dX11_solved_63 ?_
          refine wp_if_ne hb (y := 0) (t := 72) ⟨rfl, rfl⟩ dX11_solved_65 ⟨fun c10 => ?_, fun c10 => ?_⟩
          · have hv := hv.1 c10
            refine wp_iconst hb (x := nI 0) rfl dX11_solved_72 ?_
            refine wp_callV hb (k' := 186) ko_187 lm_11_163 rfl m0_82 (by decide) (Nat.le_of_ble_eq_true rfl) dX11_solved_73 (sp_cI (hv.I (Nat.le_refl _) ?_))
            intro x11 m5 hv
            exact wp_retI hb rfl dX11_solved_76 hv
          · have hv := hv.2 c10
            refine wp_iconst hb (x := (-1)) rfl dX11_solved_68 ?_
            refine wp_goto hb (t := 73) ⟨rfl, rfl⟩ dX11_solved_69 ?_
            refine wp_callV hb (k' := 186) ko_187 lm_11_163 rfl m0_82 (by decide) (Nat.le_of_ble_eq_true rfl) dX11_solved_73 (sp_cI (hv.I (Nat.le_refl _) ?_))
            intro x12 m6 hv
            exact wp_retI hb rfl dX11_solved_76 hv
        · have hv := hv.2 c9
          refine wp_bipush hb (x := (-3)) rfl dX11_solved_54 ?_
          refine wp_goto hb (t := 76) ⟨rfl, rfl⟩ dX11_solved_56 ?_
          exact wp_retI hb rfl dX11_solved_76 hv
      · have hv := hv.2 c6
        refine wp_iconst hb (x := (-1)) rfl dX11_solved_35 ?_
        exact wp_retI hb rfl dX11_solved_36 hv
    · have hv := hv.2 c4
      refine wp_bipush hb (x := (-2)) rfl dX11_solved_21 ?_
      exact wp_retI hb rfl dX11_solved_23 hv
set_option maxRecDepth 100000 in
theorem v_X11_solution {d sn : Nat} {v1 : Int32} {v2 : Int32} {v3 : Int32} {v4 : Int32} {m : mm_Mem} {P : Int32 → mm_Mem → Prop} 
    (hv : mm_sp d sn kX11_areSizes [.ref 82, .int v1, .int v2] m (qI fun x1 m1 => ((x1 = 0) → (P (-2) m1)) ∧ (¬ (x1 = 0) → (mm_sp d sn kX11_in [.long v3.toInt64, .long (lN 1), .long (lN 70)] m1 (qI fun x3 m2 => ((¬ x3 = 0) → (((0 ≤ v4) → (mm_sp d sn kX11_tables [.ref 82, .int v1, .int v2] m2 (qV fun m3 => vp_in v2 9 ∧ (((m3.1 100 v2.toNatClampNeg ≤ nI 14) → (mm_sp d sn kX11_nth [.ref 82, .int v1, .int v2, .int v3, .int v4] m3 (qI fun x9 m4 => P x9 m4))) ∧ (¬ (m3.1 100 v2.toNatClampNeg ≤ nI 14) → (P (-3) m3)))))) ∧ (¬ (0 ≤ v4) → (P (-1) m2)))) ∧ (¬ (¬ x3 = 0) → (P (-2) m2))))))) :
    mm_sp (d + 1) sn kX11_solution [.ref 82, .int v1, .int v2, .int v3, .int v4] m (qI P) := by
  have hb := mb_188
  refine wp_in (la := [some (.ref 82), some (.int v1), some (.int v2), some (.int v3), some (.int v4)]) ⟨⟨Nat.le_of_ble_eq_true rfl, by decide, by decide⟩, rfl⟩ ?_
  refine wp_aload_n hb rfl dX11_solution_0 ?_
  refine wp_iload_n hb rfl dX11_solution_1 ?_
  refine wp_iload_n hb rfl dX11_solution_2 ?_
  refine wp_callV hb (k' := 181) ko_188 lm_11_146 rfl m0_82 (by decide) (Nat.le_of_ble_eq_true rfl) dX11_solution_3 (sp_cI (hv.I (Nat.le_refl _) ?_))
  intro x1 m1 hv
  refine wp_if_eq hb (y := 0) (t := 21) ⟨rfl, rfl⟩ dX11_solution_6 ⟨fun c2 => ?_, fun c2 => ?_⟩
  · have hv := hv.1 c2
    refine wp_bipush hb (x := (-2)) rfl dX11_solution_21 ?_
    exact wp_retI hb rfl dX11_solution_23 hv
  · have hv := hv.2 c2
    refine wp_iload_n hb rfl dX11_solution_9 ?_
    refine wp_i2l hb dX11_solution_10 ?_
    refine wp_lconst hb (x := lN 1) rfl dX11_solution_11 ?_
    refine wp_ldc2 hb (ko_188) (kl_11_161) dX11_solution_12 ?_
    refine wp_callS hb (k' := 152) ko_188 lm_11_85 (by decide) rfl (Nat.le_of_ble_eq_true rfl) dX11_solution_15 (sp_cI (hv.I (Nat.le_refl _) ?_))
    intro x3 m2 hv
    refine wp_if_ne hb (y := 0) (t := 24) ⟨rfl, rfl⟩ dX11_solution_18 ⟨fun c4 => ?_, fun c4 => ?_⟩
    · have hv := hv.1 c4
      refine wp_iload hb rfl dX11_solution_24 ?_
      refine wp_if_ge hb (y := 0) (t := 31) ⟨rfl, rfl⟩ dX11_solution_26 ⟨fun c5 => ?_, fun c5 => ?_⟩
      · have hv := hv.1 c5
        refine wp_aload_n hb rfl dX11_solution_31 ?_
        refine wp_iload_n hb rfl dX11_solution_32 ?_
        refine wp_iload_n hb rfl dX11_solution_33 ?_
        refine wp_callV hb (k' := 182) ko_188 lm_11_150 rfl m0_82 (by decide) (Nat.le_of_ble_eq_true rfl) dX11_solution_34 (sp_cV (hv.V (Nat.le_refl _) ?_))
        intro m3 hv
        refine wp_aload_n hb rfl dX11_solution_37 ?_
        refine wp_getR hb ko_188 lf_11_35 (by decide) m0_82 r0_82_8 dX11_solution_38 ?_
        refine wp_iload_n hb rfl dX11_solution_41 ?_
        obtain ⟨q7, hv⟩ := hv
        refine wp_iaload hb rfl m0_100 q7 dX11_solution_42 ?_
        refine wp_bipush hb (x := nI 14) rfl dX11_solution_43 ?_
        refine wp_icmp_le hb (t := 53) ⟨rfl, rfl⟩ dX11_solution_45 ⟨fun c8 => ?_, fun c8 => ?_⟩
        · have hv := hv.1 c8
          refine wp_aload_n hb rfl dX11_solution_53 ?_
          refine wp_iload_n hb rfl dX11_solution_54 ?_
          refine wp_iload_n hb rfl dX11_solution_55 ?_
          refine wp_iload_n hb rfl dX11_solution_56 ?_
          refine wp_iload hb rfl dX11_solution_57 ?_
          refine wp_callV hb (k' := 186) ko_188 lm_11_163 rfl m0_82 (by decide) (Nat.le_of_ble_eq_true rfl) dX11_solution_59 (sp_cI (hv.I (Nat.le_refl _) ?_))
          intro x9 m4 hv
          exact wp_retI hb rfl dX11_solution_62 hv
        · have hv := hv.2 c8
          refine wp_bipush hb (x := (-3)) rfl dX11_solution_48 ?_
          refine wp_goto hb (t := 62) ⟨rfl, rfl⟩ dX11_solution_50 ?_
          exact wp_retI hb rfl dX11_solution_62 hv
      · have hv := hv.2 c5
        refine wp_iconst hb (x := (-1)) rfl dX11_solution_29 ?_
        exact wp_retI hb rfl dX11_solution_30 hv
    · have hv := hv.2 c4
      refine wp_bipush hb (x := (-2)) rfl dX11_solution_21 ?_
      exact wp_retI hb rfl dX11_solution_23 hv
set_option maxRecDepth 100000 in
theorem v_X11_covers {d sn : Nat} {v1 : Int32} {v2 : Int32} {v3 : Int32} {m : mm_Mem} {P : Int32 → mm_Mem → Prop} 
    (hv : mm_wp d sn kX11_covers 3 [some (.ref 82), some (.int v1), some (.int v2), some (.int v3), some (.int (nI 0))] [] m (qI P)) :
    mm_sp (d + 1) sn kX11_covers [.ref 82, .int v1, .int v2, .int v3] m (qI P) := by
  have hb := mb_189
  refine wp_in (la := [some (.ref 82), some (.int v1), some (.int v2), some (.int v3), none]) ⟨⟨Nat.le_of_ble_eq_true rfl, by decide, by decide⟩, rfl⟩ ?_
  refine wp_iconst hb (x := nI 0) rfl dX11_covers_0 ?_
  refine wp_istore hb rfl dX11_covers_1 ?_
  exact wp_for (mm_ls_k (mm_ls_k (mm_ls_k (mm_ls_k (mm_ls_k mm_ls_nil))))) hv
set_option maxRecDepth 100000 in
theorem v_X11_covers_3 {d sn : Nat} {v1 : Int32} {v2 : Int32} {v3 : Int32} {v4 : Int32} {m : mm_Mem} {P : Int32 → mm_Mem → Prop} 
    (hv : vp_in v1 9 ∧ (((m.1 100 v1.toNatClampNeg ≤ v4) → (P (nI 1) m)) ∧ (¬ (m.1 100 v1.toNatClampNeg ≤ v4) → (mm_sp d sn kX11_sum [.ref 82, .int v4, .int v2, .int v3] m (qI fun x3 m1 => ((¬ x3 = 0) → (mm_wp d sn kX11_covers 3 [some (.ref 82), some (.int v1), some (.int v2), some (.int v3), some (.int (v4 + nI 1))] [] m1 (qI P))) ∧ (¬ (¬ x3 = 0) → (P (nI 0) m1))))))) :
    mm_wp d sn kX11_covers 3 [some (.ref 82), some (.int v1), some (.int v2), some (.int v3), some (.int v4)] [] m (qI P) := by
  have hb := mb_189
  refine wp_iload hb rfl dX11_covers_3 ?_
  refine wp_aload_n hb rfl dX11_covers_5 ?_
  refine wp_getR hb ko_189 lf_11_35 (by decide) m0_82 r0_82_8 dX11_covers_6 ?_
  refine wp_iload_n hb rfl dX11_covers_9 ?_
  obtain ⟨q1, hv⟩ := hv
  refine wp_iaload hb rfl m0_100 q1 dX11_covers_10 ?_
  refine wp_icmp_ge hb (t := 33) ⟨rfl, rfl⟩ dX11_covers_11 ⟨fun c2 => ?_, fun c2 => ?_⟩
  · have hv := hv.1 c2
    refine wp_iconst hb (x := nI 1) rfl dX11_covers_33 ?_
    exact wp_retZ hb rfl (by decide) dX11_covers_34 hv
  · have hv := hv.2 c2
    refine wp_aload_n hb rfl dX11_covers_14 ?_
    refine wp_iload hb rfl dX11_covers_15 ?_
    refine wp_iload_n hb rfl dX11_covers_17 ?_
    refine wp_iload_n hb rfl dX11_covers_18 ?_
    refine wp_callV hb (k' := 184) ko_189 lm_11_154 rfl m0_82 (by decide) (Nat.le_of_ble_eq_true rfl) dX11_covers_19 (sp_cI (hv.I (Nat.le_refl _) ?_))
    intro x3 m1 hv
    refine wp_if_ne hb (y := 0) (t := 27) ⟨rfl, rfl⟩ dX11_covers_22 ⟨fun c4 => ?_, fun c4 => ?_⟩
    · have hv := hv.1 c4
      refine wp_iinc hb rfl (y := v4 + nI 1) rfl rfl dX11_covers_27 ?_
      refine wp_goto hb (t := 3) ⟨rfl, rfl⟩ dX11_covers_30 ?_
      exact wp_for (mm_ls_k (mm_ls_k (mm_ls_k (mm_ls_k (mm_ls_k mm_ls_nil))))) hv
    · have hv := hv.2 c4
      refine wp_iconst hb (x := nI 0) rfl dX11_covers_25 ?_
      exact wp_retZ hb rfl (by decide) dX11_covers_26 hv
set_option maxRecDepth 100000 in
theorem v_X11_cover {d sn : Nat} {v1 : Int32} {v2 : Int32} {v3 : Int32} {m : mm_Mem} {P : Int32 → mm_Mem → Prop} 
    (hv : mm_sp d sn kX11_areSizes [.ref 82, .int v1, .int v2] m (qI fun x1 m1 => ((¬ x1 = 0) → (mm_sp d sn kX11_in [.long v3.toInt64, .long (lN 0), .long (lN 1)] m1 (qI fun x3 m2 => ((¬ x3 = 0) → (mm_sp d sn kX11_tables [.ref 82, .int v1, .int v2] m2 (qV fun m3 => vp_in v2 9 ∧ (((m3.1 100 v2.toNatClampNeg ≤ nI 14) → (mm_wp d sn kX11_cover 55 [some (.ref 82), some (.int v1), some (.int v2), some (.int v3), some (.int (-5)), some (.int (-5)), some (.int (nI 0)), none, none] [] m3 (qI P))) ∧ (¬ (m3.1 100 v2.toNatClampNeg ≤ nI 14) → (P (-3) m3)))))) ∧ (¬ (¬ x3 = 0) → (P (-1) m2))))) ∧ (¬ (¬ x1 = 0) → (P (-2) m1)))) :
    mm_sp (d + 1) sn kX11_cover [.ref 82, .int v1, .int v2, .int v3] m (qI P) := by
  have hb := mb_190
  refine wp_in (la := [some (.ref 82), some (.int v1), some (.int v2), some (.int v3), none, none, none, none, none]) ⟨⟨Nat.le_of_ble_eq_true rfl, by decide, by decide⟩, rfl⟩ ?_
  refine wp_aload_n hb rfl dX11_cover_0 ?_
  refine wp_iload_n hb rfl dX11_cover_1 ?_
  refine wp_iload_n hb rfl dX11_cover_2 ?_
  refine wp_callV hb (k' := 181) ko_190 lm_11_146 rfl m0_82 (by decide) (Nat.le_of_ble_eq_true rfl) dX11_cover_3 (sp_cI (hv.I (Nat.le_refl _) ?_))
  intro x1 m1 hv
  refine wp_if_ne hb (y := 0) (t := 12) ⟨rfl, rfl⟩ dX11_cover_6 ⟨fun c2 => ?_, fun c2 => ?_⟩
  · have hv := hv.1 c2
    refine wp_iload_n hb rfl dX11_cover_12 ?_
    refine wp_i2l hb dX11_cover_13 ?_
    refine wp_lconst hb (x := lN 0) rfl dX11_cover_14 ?_
    refine wp_lconst hb (x := lN 1) rfl dX11_cover_15 ?_
    refine wp_callS hb (k' := 152) ko_190 lm_11_85 (by decide) rfl (Nat.le_of_ble_eq_true rfl) dX11_cover_16 (sp_cI (hv.I (Nat.le_refl _) ?_))
    intro x3 m2 hv
    refine wp_if_ne hb (y := 0) (t := 24) ⟨rfl, rfl⟩ dX11_cover_19 ⟨fun c4 => ?_, fun c4 => ?_⟩
    · have hv := hv.1 c4
      refine wp_aload_n hb rfl dX11_cover_24 ?_
      refine wp_iload_n hb rfl dX11_cover_25 ?_
      refine wp_iload_n hb rfl dX11_cover_26 ?_
      refine wp_callV hb (k' := 182) ko_190 lm_11_150 rfl m0_82 (by decide) (Nat.le_of_ble_eq_true rfl) dX11_cover_27 (sp_cV (hv.V (Nat.le_refl _) ?_))
      intro m3 hv
      refine wp_aload_n hb rfl dX11_cover_30 ?_
      refine wp_getR hb ko_190 lf_11_35 (by decide) m0_82 r0_82_8 dX11_cover_31 ?_
      refine wp_iload_n hb rfl dX11_cover_34 ?_
      obtain ⟨q6, hv⟩ := hv
      refine wp_iaload hb rfl m0_100 q6 dX11_cover_35 ?_
      refine wp_bipush hb (x := nI 14) rfl dX11_cover_36 ?_
      refine wp_icmp_le hb (t := 44) ⟨rfl, rfl⟩ dX11_cover_38 ⟨fun c7 => ?_, fun c7 => ?_⟩
      · have hv := hv.1 c7
        refine wp_bipush hb (x := (-5)) rfl dX11_cover_44 ?_
        refine wp_istore hb rfl dX11_cover_46 ?_
        refine wp_bipush hb (x := (-5)) rfl dX11_cover_48 ?_
        refine wp_istore hb rfl dX11_cover_50 ?_
        refine wp_iconst hb (x := nI 0) rfl dX11_cover_52 ?_
        refine wp_istore hb rfl dX11_cover_53 ?_
        exact wp_for (mm_ls_k (mm_ls_k (mm_ls_k (mm_ls_k (mm_ls_k (mm_ls_k (mm_ls_k (mm_ls_k (mm_ls_k mm_ls_nil))))))))) hv
      · have hv := hv.2 c7
        refine wp_bipush hb (x := (-3)) rfl dX11_cover_41 ?_
        exact wp_retI hb rfl dX11_cover_43 hv
    · have hv := hv.2 c4
      refine wp_iconst hb (x := (-1)) rfl dX11_cover_22 ?_
      exact wp_retI hb rfl dX11_cover_23 hv
  · have hv := hv.2 c2
    refine wp_bipush hb (x := (-2)) rfl dX11_cover_9 ?_
    exact wp_retI hb rfl dX11_cover_11 hv
set_option maxRecDepth 100000 in
theorem v_X11_cover_55 {d sn : Nat} {v1 : Int32} {v2 : Int32} {v3 : Int32} {v4 : Int32} {v5 : Int32} {v6 : Int32} {m : mm_Mem} {P : Int32 → mm_Mem → Prop} 
    (hv : vp_in v2 9 ∧ (((mm_shl (nI 1) (m.1 100 v2.toNatClampNeg) ≤ v6) → (((¬ v3 = 0) → (P v4 m)) ∧ (¬ (¬ v3 = 0) → (P v5 m)))) ∧ (¬ (mm_shl (nI 1) (m.1 100 v2.toNatClampNeg) ≤ v6) → (mm_wp d sn kX11_cover 74 [some (.ref 82), some (.int v1), some (.int v2), some (.int v3), some (.int v4), some (.int v5), some (.int v6), some (.int (nI 0)), some (.int (nI 0))] [] m (qI P))))) :
    mm_wp d sn kX11_cover 55 [some (.ref 82), some (.int v1), some (.int v2), some (.int v3), some (.int v4), some (.int v5), some (.int v6), none, none] [] m (qI P) := by
  have hb := mb_190
  refine wp_iload hb rfl dX11_cover_55 ?_
  refine wp_iconst hb (x := nI 1) rfl dX11_cover_57 ?_
  refine wp_aload_n hb rfl dX11_cover_58 ?_
  refine wp_getR hb ko_190 lf_11_35 (by decide) m0_82 r0_82_8 dX11_cover_59 ?_
  refine wp_iload_n hb rfl dX11_cover_62 ?_
  obtain ⟨q1, hv⟩ := hv
  refine wp_iaload hb rfl m0_100 q1 dX11_cover_63 ?_
  refine wp_ishl hb dX11_cover_64 ?_
  refine wp_icmp_ge hb (t := 157) ⟨rfl, rfl⟩ dX11_cover_65 ⟨fun c2 => ?_, fun c2 => ?_⟩
  · have hv := hv.1 c2
    refine wp_iload_n hb rfl dX11_cover_157 ?_
    refine wp_if_ne hb (y := 0) (t := 166) ⟨rfl, rfl⟩ dX11_cover_158 ⟨fun c3 => ?_, fun c3 => ?_⟩
    · have hv := hv.1 c3
      refine wp_iload hb rfl dX11_cover_166 ?_
      exact wp_retI hb rfl dX11_cover_168 hv
    · have hv := hv.2 c3
      refine wp_iload hb rfl dX11_cover_161 ?_
      refine wp_goto hb (t := 168) ⟨rfl, rfl⟩ dX11_cover_163 ?_
      exact wp_retI hb rfl dX11_cover_168 hv
  · have hv := hv.2 c2
    refine wp_iconst hb (x := nI 0) rfl dX11_cover_68 ?_
    refine wp_istore hb rfl dX11_cover_69 ?_
    refine wp_iconst hb (x := nI 0) rfl dX11_cover_71 ?_
    refine wp_istore hb rfl dX11_cover_72 ?_
    exact wp_for (mm_ls_k (mm_ls_k (mm_ls_k (mm_ls_k (mm_ls_k (mm_ls_k (mm_ls_k (mm_ls_k (mm_ls_k mm_ls_nil))))))))) hv
set_option maxRecDepth 100000 in
theorem v_X11_cover_74 {d sn : Nat} {v1 : Int32} {v2 : Int32} {v3 : Int32} {v4 : Int32} {v5 : Int32} {v6 : Int32} {v7 : Int32} {v8 : Int32} {m : mm_Mem} {P : Int32 → mm_Mem → Prop} 
    (hv : vp_in v2 9 ∧ (((m.1 100 v2.toNatClampNeg ≤ v8) → (((v4 = (-5)) → (mm_sp d sn kX11_covers [.ref 82, .int v1, .int v2, .int v6] m (qI fun x4 m1 => ((x4 = 0) → (mm_wp d sn kX11_cover 55 [some (.ref 82), some (.int v1), some (.int v2), some (.int v3), some (.int v4), some (.int v5), some (.int (v6 + nI 1)), none, none] [] m1 (qI P))) ∧ (¬ (x4 = 0) → (mm_wp d sn kX11_cover 55 [some (.ref 82), some (.int v1), some (.int v2), some (.int v3), some (.int v6), some (.int v7), some (.int (v6 + nI 1)), none, none] [] m1 (qI P)))))) ∧ (¬ (v4 = (-5)) → (((v5 ≤ v7) → (mm_wp d sn kX11_cover 55 [some (.ref 82), some (.int v1), some (.int v2), some (.int v3), some (.int v4), some (.int v5), some (.int (v6 + nI 1)), none, none] [] m (qI P))) ∧ (¬ (v5 ≤ v7) → (mm_sp d sn kX11_covers [.ref 82, .int v1, .int v2, .int v6] m (qI fun x7 m2 => ((x7 = 0) → (mm_wp d sn kX11_cover 55 [some (.ref 82), some (.int v1), some (.int v2), some (.int v3), some (.int v4), some (.int v5), some (.int (v6 + nI 1)), none, none] [] m2 (qI P))) ∧ (¬ (x7 = 0) → (mm_wp d sn kX11_cover 55 [some (.ref 82), some (.int v1), some (.int v2), some (.int v3), some (.int v6), some (.int v7), some (.int (v6 + nI 1)), none, none] [] m2 (qI P)))))))))) ∧ (¬ (m.1 100 v2.toNatClampNeg ≤ v8) → (((¬ (mm_shr v6 v8) &&& (nI 1) = nI 1) → (mm_wp d sn kX11_cover 74 [some (.ref 82), some (.int v1), some (.int v2), some (.int v3), some (.int v4), some (.int v5), some (.int v6), some (.int (v7 + (nI 0))), some (.int (v8 + nI 1))] [] m (qI P))) ∧ (¬ (¬ (mm_shr v6 v8) &&& (nI 1) = nI 1) → (vp_in v8 70 ∧ (mm_wp d sn kX11_cover 74 [some (.ref 82), some (.int v1), some (.int v2), some (.int v3), some (.int v4), some (.int v5), some (.int v6), some (.int (v7 + (m.1 173 v8.toNatClampNeg))), some (.int (v8 + nI 1))] [] m (qI P)))))))) :
    mm_wp d sn kX11_cover 74 [some (.ref 82), some (.int v1), some (.int v2), some (.int v3), some (.int v4), some (.int v5), some (.int v6), some (.int v7), some (.int v8)] [] m (qI P) := by
  have hb := mb_190
  refine wp_iload hb rfl dX11_cover_74 ?_
  refine wp_aload_n hb rfl dX11_cover_76 ?_
  refine wp_getR hb ko_190 lf_11_35 (by decide) m0_82 r0_82_8 dX11_cover_77 ?_
  refine wp_iload_n hb rfl dX11_cover_80 ?_
  obtain ⟨q1, hv⟩ := hv
  refine wp_iaload hb rfl m0_100 q1 dX11_cover_81 ?_
  refine wp_icmp_ge hb (t := 118) ⟨rfl, rfl⟩ dX11_cover_82 ⟨fun c2 => ?_, fun c2 => ?_⟩
  · have hv := hv.1 c2
    refine wp_iload hb rfl dX11_cover_118 ?_
    refine wp_bipush hb (x := (-5)) rfl dX11_cover_120 ?_
    refine wp_icmp_eq hb (t := 132) ⟨rfl, rfl⟩ dX11_cover_122 ⟨fun c3 => ?_, fun c3 => ?_⟩
    · have hv := hv.1 c3
      refine wp_aload_n hb rfl dX11_cover_132 ?_
      refine wp_iload_n hb rfl dX11_cover_133 ?_
      refine wp_iload_n hb rfl dX11_cover_134 ?_
      refine wp_iload hb rfl dX11_cover_135 ?_
      refine wp_callV hb (k' := 189) ko_190 lm_11_167 rfl m0_82 (by decide) (Nat.le_of_ble_eq_true rfl) dX11_cover_137 (sp_cI (hv.I (Nat.le_refl _) ?_))
      intro x4 m1 hv
      refine wp_if_eq hb (y := 0) (t := 151) ⟨rfl, rfl⟩ dX11_cover_140 ⟨fun c5 => ?_, fun c5 => ?_⟩
      · have hv := hv.1 c5
        refine wp_iinc hb rfl (y := v6 + nI 1) rfl rfl dX11_cover_151 ?_
        refine wp_goto hb (t := 55) ⟨rfl, rfl⟩ dX11_cover_154 ?_
        exact wp_for (mm_ls_k (mm_ls_k (mm_ls_k (mm_ls_k (mm_ls_k (mm_ls_k (mm_ls_k (mm_ls_f (mm_ls_f mm_ls_nil))))))))) hv
      · have hv := hv.2 c5
        refine wp_iload hb rfl dX11_cover_143 ?_
        refine wp_istore hb rfl dX11_cover_145 ?_
        refine wp_iload hb rfl dX11_cover_147 ?_
        refine wp_istore hb rfl dX11_cover_149 ?_
        refine wp_iinc hb rfl (y := v6 + nI 1) rfl rfl dX11_cover_151 ?_
        refine wp_goto hb (t := 55) ⟨rfl, rfl⟩ dX11_cover_154 ?_
        exact wp_for (mm_ls_k (mm_ls_k (mm_ls_k (mm_ls_k (mm_ls_k (mm_ls_k (mm_ls_k (mm_ls_f (mm_ls_f mm_ls_nil))))))))) hv
    · have hv := hv.2 c3
      refine wp_iload hb rfl dX11_cover_125 ?_
      refine wp_iload hb rfl dX11_cover_127 ?_
      refine wp_icmp_ge hb (t := 151) ⟨rfl, rfl⟩ dX11_cover_129 ⟨fun c6 => ?_, fun c6 => ?_⟩
      · have hv := hv.1 c6
        refine wp_iinc hb rfl (y := v6 + nI 1) rfl rfl dX11_cover_151 ?_
        refine wp_goto hb (t := 55) ⟨rfl, rfl⟩ dX11_cover_154 ?_
        exact wp_for (mm_ls_k (mm_ls_k (mm_ls_k (mm_ls_k (mm_ls_k (mm_ls_k (mm_ls_k (mm_ls_f (mm_ls_f mm_ls_nil))))))))) hv
      · have hv := hv.2 c6
        refine wp_aload_n hb rfl dX11_cover_132 ?_
        refine wp_iload_n hb rfl dX11_cover_133 ?_
        refine wp_iload_n hb rfl dX11_cover_134 ?_
        refine wp_iload hb rfl dX11_cover_135 ?_
        refine wp_callV hb (k' := 189) ko_190 lm_11_167 rfl m0_82 (by decide) (Nat.le_of_ble_eq_true rfl) dX11_cover_137 (sp_cI (hv.I (Nat.le_refl _) ?_))
        intro x7 m2 hv
        refine wp_if_eq hb (y := 0) (t := 151) ⟨rfl, rfl⟩ dX11_cover_140 ⟨fun c8 => ?_, fun c8 => ?_⟩
        · have hv := hv.1 c8
          refine wp_iinc hb rfl (y := v6 + nI 1) rfl rfl dX11_cover_151 ?_
          refine wp_goto hb (t := 55) ⟨rfl, rfl⟩ dX11_cover_154 ?_
          exact wp_for (mm_ls_k (mm_ls_k (mm_ls_k (mm_ls_k (mm_ls_k (mm_ls_k (mm_ls_k (mm_ls_f (mm_ls_f mm_ls_nil))))))))) hv
        · have hv := hv.2 c8
          refine wp_iload hb rfl dX11_cover_143 ?_
          refine wp_istore hb rfl dX11_cover_145 ?_
          refine wp_iload hb rfl dX11_cover_147 ?_
          refine wp_istore hb rfl dX11_cover_149 ?_
          refine wp_iinc hb rfl (y := v6 + nI 1) rfl rfl dX11_cover_151 ?_
          refine wp_goto hb (t := 55) ⟨rfl, rfl⟩ dX11_cover_154 ?_
          exact wp_for (mm_ls_k (mm_ls_k (mm_ls_k (mm_ls_k (mm_ls_k (mm_ls_k (mm_ls_k (mm_ls_f (mm_ls_f mm_ls_nil))))))))) hv
  · have hv := hv.2 c2
    refine wp_iload hb rfl dX11_cover_85 ?_
    refine wp_iload hb rfl dX11_cover_87 ?_
    refine wp_iload hb rfl dX11_cover_89 ?_
    refine wp_ishr hb dX11_cover_91 ?_
    refine wp_iconst hb (x := nI 1) rfl dX11_cover_92 ?_
    refine wp_iand hb dX11_cover_93 ?_
    refine wp_iconst hb (x := nI 1) rfl dX11_cover_94 ?_
    refine wp_icmp_ne hb (t := 108) ⟨rfl, rfl⟩ dX11_cover_95 ⟨fun c9 => ?_, fun c9 => ?_⟩
    · have hv := hv.1 c9
      refine wp_iconst hb (x := nI 0) rfl dX11_cover_108 ?_
      refine wp_iadd hb dX11_cover_109 ?_
      refine wp_istore hb rfl dX11_cover_110 ?_
      refine wp_iinc hb rfl (y := v8 + nI 1) rfl rfl dX11_cover_112 ?_
      refine wp_goto hb (t := 74) ⟨rfl, rfl⟩ dX11_cover_115 ?_
      exact wp_for (mm_ls_k (mm_ls_k (mm_ls_k (mm_ls_k (mm_ls_k (mm_ls_k (mm_ls_k (mm_ls_k (mm_ls_k mm_ls_nil))))))))) hv
    · have hv := hv.2 c9
      refine wp_aload_n hb rfl dX11_cover_98 ?_
      refine wp_getR hb ko_190 lf_11_46 (by decide) m0_82 r0_82_11 dX11_cover_99 ?_
      refine wp_iload hb rfl dX11_cover_102 ?_
      obtain ⟨q10, hv⟩ := hv
      refine wp_iaload hb rfl m0_173 q10 dX11_cover_104 ?_
      refine wp_goto hb (t := 109) ⟨rfl, rfl⟩ dX11_cover_105 ?_
      refine wp_iadd hb dX11_cover_109 ?_
      refine wp_istore hb rfl dX11_cover_110 ?_
      refine wp_iinc hb rfl (y := v8 + nI 1) rfl rfl dX11_cover_112 ?_
      refine wp_goto hb (t := 74) ⟨rfl, rfl⟩ dX11_cover_115 ?_
      exact wp_for (mm_ls_k (mm_ls_k (mm_ls_k (mm_ls_k (mm_ls_k (mm_ls_k (mm_ls_k (mm_ls_k (mm_ls_k mm_ls_nil))))))))) hv
set_option maxRecDepth 100000 in
theorem v_X11_many {d sn : Nat} {a0 : Nat} {m : mm_Mem} {P : Int32 → mm_Mem → Prop} (ha0 : shZ a0) 
    (hv : mm_wp d sn kX11_many 4 [some (.ref a0), some (.int (nI 0)), some (.int (nI 0))] [] m (qI P)) :
    mm_sp (d + 1) sn kX11_many [.ref a0] m (qI P) := by
  have hb := mb_191
  refine wp_in (la := [some (.ref a0), none, none]) ⟨⟨Nat.le_of_ble_eq_true rfl, by decide, by decide⟩, rfl⟩ ?_
  refine wp_iconst hb (x := nI 0) rfl dX11_many_0 ?_
  refine wp_istore_n hb rfl dX11_many_1 ?_
  refine wp_iconst hb (x := nI 0) rfl dX11_many_2 ?_
  refine wp_istore_n hb rfl dX11_many_3 ?_
  exact wp_for (mm_ls_k (mm_ls_k (mm_ls_k mm_ls_nil))) hv
set_option maxRecDepth 100000 in
theorem v_X11_many_4 {d sn : Nat} {a0 : Nat} {v1 : Int32} {v2 : Int32} {m : mm_Mem} {P : Int32 → mm_Mem → Prop} (ha0 : shZ a0) 
    (hv : ((nI 256 ≤ v2) → (P v1 m)) ∧ (¬ (nI 256 ≤ v2) → (vp_in v2 256 ∧ (((m.1 a0 v2.toNatClampNeg = 0) → (mm_wp d sn kX11_many 4 [some (.ref a0), some (.int (v1 + (nI 0))), some (.int (v2 + nI 1))] [] m (qI P))) ∧ (¬ (m.1 a0 v2.toNatClampNeg = 0) → (mm_wp d sn kX11_many 4 [some (.ref a0), some (.int (v1 + (nI 1))), some (.int (v2 + nI 1))] [] m (qI P))))))) :
    mm_wp d sn kX11_many 4 [some (.ref a0), some (.int v1), some (.int v2)] [] m (qI P) := by
  have hb := mb_191
  refine wp_iload_n hb rfl dX11_many_4 ?_
  refine wp_sipush hb (x := nI 256) rfl dX11_many_5 ?_
  refine wp_icmp_ge hb (t := 31) ⟨rfl, rfl⟩ dX11_many_8 ⟨fun c1 => ?_, fun c1 => ?_⟩
  · have hv := hv.1 c1
    refine wp_iload_n hb rfl dX11_many_31 ?_
    exact wp_retI hb rfl dX11_many_32 hv
  · have hv := hv.2 c1
    refine wp_iload_n hb rfl dX11_many_11 ?_
    refine wp_aload_n hb rfl dX11_many_12 ?_
    refine wp_iload_n hb rfl dX11_many_13 ?_
    obtain ⟨q2, hv⟩ := hv
    refine wp_baload hb rfl (ha0.2 _) q2 dX11_many_14 ?_
    refine wp_if_eq hb (y := 0) (t := 22) ⟨rfl, rfl⟩ dX11_many_15 ⟨fun c3 => ?_, fun c3 => ?_⟩
    · have hv := hv.1 c3
      refine wp_iconst hb (x := nI 0) rfl dX11_many_22 ?_
      refine wp_iadd hb dX11_many_23 ?_
      refine wp_istore_n hb rfl dX11_many_24 ?_
      refine wp_iinc hb rfl (y := v2 + nI 1) rfl rfl dX11_many_25 ?_
      refine wp_goto hb (t := 4) ⟨rfl, rfl⟩ dX11_many_28 ?_
      exact wp_for (mm_ls_k (mm_ls_k (mm_ls_k mm_ls_nil))) hv
    · have hv := hv.2 c3
      refine wp_iconst hb (x := nI 1) rfl dX11_many_18 ?_
      refine wp_goto hb (t := 23) ⟨rfl, rfl⟩ dX11_many_19 ?_
      refine wp_iadd hb dX11_many_23 ?_
      refine wp_istore_n hb rfl dX11_many_24 ?_
      refine wp_iinc hb rfl (y := v2 + nI 1) rfl rfl dX11_many_25 ?_
      refine wp_goto hb (t := 4) ⟨rfl, rfl⟩ dX11_many_28 ?_
      exact wp_for (mm_ls_k (mm_ls_k (mm_ls_k mm_ls_nil))) hv
set_option maxRecDepth 100000 in
theorem v_X11_choose {d sn : Nat} {v1 : Int32} {v2 : Int32} {m : mm_Mem} {P : Int32 → mm_Mem → Prop} 
    (hv : mm_sp d sn kX11_in [.long v1.toInt64, .long (lN 1), .long ((m.1 83 0).toInt64)] m (qI fun x1 m1 => ((¬ x1 = 0) → (mm_sp d sn kX11_finds [.ref 82] m1 (qV fun m2 => ((v2 < 0) → (P (-1) m2)) ∧ (¬ (v2 < 0) → (vp_in v1 9 ∧ (((nI 31 ≤ m2.1 100 v1.toNatClampNeg) → (∀ m3 : mm_Mem, m3 = (mm_u2 m2.1 83 42 v1, m2.2) → (mm_wp d sn kX11_choose 61 [some (.ref 82), some (.int v1), some (.int v2), some (.int (nI 0))] [] m3 (qI P)))) ∧ (¬ (nI 31 ≤ m2.1 100 v1.toNatClampNeg) → (vp_in v1 9 ∧ (((mm_shr v2 (m2.1 100 v1.toNatClampNeg) = 0) → (∀ m4 : mm_Mem, m4 = (mm_u2 m2.1 83 42 v1, m2.2) → (mm_wp d sn kX11_choose 61 [some (.ref 82), some (.int v1), some (.int v2), some (.int (nI 0))] [] m4 (qI P)))) ∧ (¬ (mm_shr v2 (m2.1 100 v1.toNatClampNeg) = 0) → (P (-1) m2))))))))))) ∧ (¬ (¬ x1 = 0) → (P (-2) m1)))) :
    mm_sp (d + 1) sn kX11_choose [.ref 82, .int v1, .int v2] m (qI P) := by
  have hb := mb_192
  refine wp_in (la := [some (.ref 82), some (.int v1), some (.int v2), none]) ⟨⟨Nat.le_of_ble_eq_true rfl, by decide, by decide⟩, rfl⟩ ?_
  refine wp_iload_n hb rfl dX11_choose_0 ?_
  refine wp_i2l hb dX11_choose_1 ?_
  refine wp_lconst hb (x := lN 1) rfl dX11_choose_2 ?_
  refine wp_aload_n hb rfl dX11_choose_3 ?_
  refine wp_getR hb ko_192 lf_11_11 (by decide) m0_82 r0_82_0 dX11_choose_4 ?_
  refine wp_iconst hb (x := nI 0) rfl dX11_choose_7 ?_
  refine wp_iaload hb (q := 0) (by decide) m0_83 (vp_in_nI (by decide) (by decide)) dX11_choose_8 ?_
  refine wp_i2l hb dX11_choose_9 ?_
  refine wp_callS hb (k' := 152) ko_192 lm_11_85 (by decide) rfl (Nat.le_of_ble_eq_true rfl) dX11_choose_10 (sp_cI (hv.I (Nat.le_refl _) ?_))
  intro x1 m1 hv
  refine wp_if_ne hb (y := 0) (t := 19) ⟨rfl, rfl⟩ dX11_choose_13 ⟨fun c2 => ?_, fun c2 => ?_⟩
  · have hv := hv.1 c2
    refine wp_aload_n hb rfl dX11_choose_19 ?_
    refine wp_callV hb (k' := 173) ko_192 lm_11_134 rfl m0_82 (by decide) (Nat.le_of_ble_eq_true rfl) dX11_choose_20 (sp_cV (hv.V (Nat.le_refl _) ?_))
    intro m2 hv
    refine wp_iload_n hb rfl dX11_choose_23 ?_
    refine wp_if_lt hb (y := 0) (t := 49) ⟨rfl, rfl⟩ dX11_choose_24 ⟨fun c4 => ?_, fun c4 => ?_⟩
    · have hv := hv.1 c4
      refine wp_iconst hb (x := (-1)) rfl dX11_choose_49 ?_
      exact wp_retI hb rfl dX11_choose_50 hv
    · have hv := hv.2 c4
      refine wp_aload_n hb rfl dX11_choose_27 ?_
      refine wp_getR hb ko_192 lf_11_35 (by decide) m0_82 r0_82_8 dX11_choose_28 ?_
      refine wp_iload_n hb rfl dX11_choose_31 ?_
      obtain ⟨q5, hv⟩ := hv
      refine wp_iaload hb rfl m0_100 q5 dX11_choose_32 ?_
      refine wp_bipush hb (x := nI 31) rfl dX11_choose_33 ?_
      refine wp_icmp_ge hb (t := 51) ⟨rfl, rfl⟩ dX11_choose_35 ⟨fun c6 => ?_, fun c6 => ?_⟩
      · have hv := hv.1 c6
        refine wp_aload_n hb rfl dX11_choose_51 ?_
        refine wp_getR hb ko_192 lf_11_11 (by decide) m0_82 r0_82_0 dX11_choose_52 ?_
        refine wp_bipush hb (x := nI 42) rfl dX11_choose_55 ?_
        refine wp_iload_n hb rfl dX11_choose_57 ?_
        refine wp_iastore hb (q := 42) (by decide) m0_83 (by decide) (vp_in_nI (by decide) (by decide)) dX11_choose_58 ?_
        have hv := hv _ rfl
        generalize (mm_u2 m2.1 83 42 v1, m2.2) = m3 at hv ⊢
        refine wp_iconst hb (x := nI 0) rfl dX11_choose_59 ?_
        refine wp_istore_n hb rfl dX11_choose_60 ?_
        exact wp_for (mm_ls_k (mm_ls_k (mm_ls_k (mm_ls_k mm_ls_nil)))) hv
      · have hv := hv.2 c6
        refine wp_iload_n hb rfl dX11_choose_38 ?_
        refine wp_aload_n hb rfl dX11_choose_39 ?_
        refine wp_getR hb ko_192 lf_11_35 (by decide) m0_82 r0_82_8 dX11_choose_40 ?_
        refine wp_iload_n hb rfl dX11_choose_43 ?_
        obtain ⟨q7, hv⟩ := hv
        refine wp_iaload hb rfl m0_100 q7 dX11_choose_44 ?_
        refine wp_ishr hb dX11_choose_45 ?_
        refine wp_if_eq hb (y := 0) (t := 51) ⟨rfl, rfl⟩ dX11_choose_46 ⟨fun c8 => ?_, fun c8 => ?_⟩
        · have hv := hv.1 c8
          refine wp_aload_n hb rfl dX11_choose_51 ?_
          refine wp_getR hb ko_192 lf_11_11 (by decide) m0_82 r0_82_0 dX11_choose_52 ?_
          refine wp_bipush hb (x := nI 42) rfl dX11_choose_55 ?_
          refine wp_iload_n hb rfl dX11_choose_57 ?_
          refine wp_iastore hb (q := 42) (by decide) m0_83 (by decide) (vp_in_nI (by decide) (by decide)) dX11_choose_58 ?_
          have hv := hv _ rfl
          generalize (mm_u2 m2.1 83 42 v1, m2.2) = m4 at hv ⊢
          refine wp_iconst hb (x := nI 0) rfl dX11_choose_59 ?_
          refine wp_istore_n hb rfl dX11_choose_60 ?_
          exact wp_for (mm_ls_k (mm_ls_k (mm_ls_k (mm_ls_k mm_ls_nil)))) hv
        · have hv := hv.2 c8
          refine wp_iconst hb (x := (-1)) rfl dX11_choose_49 ?_
          exact wp_retI hb rfl dX11_choose_50 hv
  · have hv := hv.2 c2
    refine wp_bipush hb (x := (-2)) rfl dX11_choose_16 ?_
    exact wp_retI hb rfl dX11_choose_18 hv
set_option maxRecDepth 100000 in
theorem v_X11_choose_61 {d sn : Nat} {v1 : Int32} {v2 : Int32} {v3 : Int32} {m : mm_Mem} {P : Int32 → mm_Mem → Prop} 
    (hv : ((nI 256 ≤ v3) → (mm_sp d sn kX11_many [.ref 86] m (qI fun x2 m1 => P x2 m1))) ∧ (¬ (nI 256 ≤ v3) → (mm_sp d sn kX11_whole [.ref 82] m (qI fun x3 m2 => ((x3 < v3) → (vp_in v3 256 ∧ (∀ m3 : mm_Mem, m3 = (mm_u2 m2.1 86 v3.toNatClampNeg (vp_nar .boolean (nI 0)), m2.2) → (mm_wp d sn kX11_choose 61 [some (.ref 82), some (.int v1), some (.int v2), some (.int (v3 + nI 1))] [] m3 (qI P))))) ∧ (¬ (x3 < v3) → (mm_sp d sn kX11_size [.int v3] m2 (qI fun x6 m4 => ((¬ x6 = v1) → (vp_in v3 256 ∧ (∀ m5 : mm_Mem, m5 = (mm_u2 m4.1 86 v3.toNatClampNeg (vp_nar .boolean (nI 0)), m4.2) → (mm_wp d sn kX11_choose 61 [some (.ref 82), some (.int v1), some (.int v2), some (.int (v3 + nI 1))] [] m5 (qI P))))) ∧ (¬ (¬ x6 = v1) → (vp_in v3 256 ∧ (((nI 31 ≤ m4.1 99 v3.toNatClampNeg) → (vp_in v3 256 ∧ (∀ m6 : mm_Mem, m6 = (mm_u2 m4.1 86 v3.toNatClampNeg (vp_nar .boolean (nI 0)), m4.2) → (mm_wp d sn kX11_choose 61 [some (.ref 82), some (.int v1), some (.int v2), some (.int (v3 + nI 1))] [] m6 (qI P))))) ∧ (¬ (nI 31 ≤ m4.1 99 v3.toNatClampNeg) → (vp_in v3 256 ∧ (((¬ (mm_shr v2 (m4.1 99 v3.toNatClampNeg)) &&& (nI 1) = nI 1) → (vp_in v3 256 ∧ (∀ m7 : mm_Mem, m7 = (mm_u2 m4.1 86 v3.toNatClampNeg (vp_nar .boolean (nI 0)), m4.2) → (mm_wp d sn kX11_choose 61 [some (.ref 82), some (.int v1), some (.int v2), some (.int (v3 + nI 1))] [] m7 (qI P))))) ∧ (¬ (¬ (mm_shr v2 (m4.1 99 v3.toNatClampNeg)) &&& (nI 1) = nI 1) → (vp_in v3 256 ∧ (∀ m8 : mm_Mem, m8 = (mm_u2 m4.1 86 v3.toNatClampNeg (vp_nar .boolean (nI 1)), m4.2) → (mm_wp d sn kX11_choose 61 [some (.ref 82), some (.int v1), some (.int v2), some (.int (v3 + nI 1))] [] m8 (qI P)))))))))))))))))) :
    mm_wp d sn kX11_choose 61 [some (.ref 82), some (.int v1), some (.int v2), some (.int v3)] [] m (qI P) := by
  have hb := mb_192
  refine wp_iload_n hb rfl dX11_choose_61 ?_
  refine wp_sipush hb (x := nI 256) rfl dX11_choose_62 ?_
  refine wp_icmp_ge hb (t := 128) ⟨rfl, rfl⟩ dX11_choose_65 ⟨fun c1 => ?_, fun c1 => ?_⟩
  · have hv := hv.1 c1
    refine wp_aload_n hb rfl dX11_choose_128 ?_
    refine wp_getR hb ko_192 lf_11_20 (by decide) m0_82 r0_82_2 dX11_choose_129 ?_
    refine wp_iconst hb (x := nI 0) rfl dX11_choose_132 ?_
    refine wp_aaload hb m0_85 (by decide) (vp_in_nI (by decide) (by decide)) r0_85_0 dX11_choose_133 ?_
    refine wp_callS hb (k' := 191) ko_192 lm_11_170 (by decide) rfl (Nat.le_of_ble_eq_true rfl) dX11_choose_134 (sp_cI (hv.I (Nat.le_refl _) ?_))
    intro x2 m1 hv
    exact wp_retI hb rfl dX11_choose_137 hv
  · have hv := hv.2 c1
    refine wp_aload_n hb rfl dX11_choose_68 ?_
    refine wp_getR hb ko_192 lf_11_20 (by decide) m0_82 r0_82_2 dX11_choose_69 ?_
    refine wp_iconst hb (x := nI 0) rfl dX11_choose_72 ?_
    refine wp_aaload hb m0_85 (by decide) (vp_in_nI (by decide) (by decide)) r0_85_0 dX11_choose_73 ?_
    refine wp_iload_n hb rfl dX11_choose_74 ?_
    refine wp_iload_n hb rfl dX11_choose_75 ?_
    refine wp_aload_n hb rfl dX11_choose_76 ?_
    refine wp_callV hb (k' := 155) ko_192 lm_11_81 rfl m0_82 (by decide) (Nat.le_of_ble_eq_true rfl) dX11_choose_77 (sp_cI (hv.I (Nat.le_refl _) ?_))
    intro x3 m2 hv
    refine wp_icmp_gt hb (t := 120) ⟨rfl, rfl⟩ dX11_choose_80 ⟨fun c4 => ?_, fun c4 => ?_⟩
    · have hv := hv.1 c4
      refine wp_iconst hb (x := nI 0) rfl dX11_choose_120 ?_
      obtain ⟨q5, hv⟩ := hv
      refine wp_bastore hb rfl m0_86 (by decide) q5 dX11_choose_121 ?_
      have hv := hv _ rfl
      generalize (mm_u2 m2.1 86 v3.toNatClampNeg (vp_nar .boolean (nI 0)), m2.2) = m3 at hv ⊢
      refine wp_iinc hb rfl (y := v3 + nI 1) rfl rfl dX11_choose_122 ?_
      refine wp_goto hb (t := 61) ⟨rfl, rfl⟩ dX11_choose_125 ?_
      exact wp_for (mm_ls_k (mm_ls_k (mm_ls_k (mm_ls_k mm_ls_nil)))) hv
    · have hv := hv.2 c4
      refine wp_iload_n hb rfl dX11_choose_83 ?_
      refine wp_callS hb (k' := 154) ko_192 lm_11_128 (by decide) rfl (Nat.le_of_ble_eq_true rfl) dX11_choose_84 (sp_cI (hv.I (Nat.le_refl _) ?_))
      intro x6 m4 hv
      refine wp_iload_n hb rfl dX11_choose_87 ?_
      refine wp_icmp_ne hb (t := 120) ⟨rfl, rfl⟩ dX11_choose_88 ⟨fun c7 => ?_, fun c7 => ?_⟩
      · have hv := hv.1 c7
        refine wp_iconst hb (x := nI 0) rfl dX11_choose_120 ?_
        obtain ⟨q8, hv⟩ := hv
        refine wp_bastore hb rfl m0_86 (by decide) q8 dX11_choose_121 ?_
        have hv := hv _ rfl
        generalize (mm_u2 m4.1 86 v3.toNatClampNeg (vp_nar .boolean (nI 0)), m4.2) = m5 at hv ⊢
        refine wp_iinc hb rfl (y := v3 + nI 1) rfl rfl dX11_choose_122 ?_
        refine wp_goto hb (t := 61) ⟨rfl, rfl⟩ dX11_choose_125 ?_
        exact wp_for (mm_ls_k (mm_ls_k (mm_ls_k (mm_ls_k mm_ls_nil)))) hv
      · have hv := hv.2 c7
        refine wp_aload_n hb rfl dX11_choose_91 ?_
        refine wp_getR hb ko_192 lf_11_32 (by decide) m0_82 r0_82_7 dX11_choose_92 ?_
        refine wp_iload_n hb rfl dX11_choose_95 ?_
        obtain ⟨q9, hv⟩ := hv
        refine wp_iaload hb rfl m0_99 q9 dX11_choose_96 ?_
        refine wp_bipush hb (x := nI 31) rfl dX11_choose_97 ?_
        refine wp_icmp_ge hb (t := 120) ⟨rfl, rfl⟩ dX11_choose_99 ⟨fun c10 => ?_, fun c10 => ?_⟩
        · have hv := hv.1 c10
          refine wp_iconst hb (x := nI 0) rfl dX11_choose_120 ?_
          obtain ⟨q11, hv⟩ := hv
          refine wp_bastore hb rfl m0_86 (by decide) q11 dX11_choose_121 ?_
          have hv := hv _ rfl
          generalize (mm_u2 m4.1 86 v3.toNatClampNeg (vp_nar .boolean (nI 0)), m4.2) = m6 at hv ⊢
          refine wp_iinc hb rfl (y := v3 + nI 1) rfl rfl dX11_choose_122 ?_
          refine wp_goto hb (t := 61) ⟨rfl, rfl⟩ dX11_choose_125 ?_
          exact wp_for (mm_ls_k (mm_ls_k (mm_ls_k (mm_ls_k mm_ls_nil)))) hv
        · have hv := hv.2 c10
          refine wp_iload_n hb rfl dX11_choose_102 ?_
          refine wp_aload_n hb rfl dX11_choose_103 ?_
          refine wp_getR hb ko_192 lf_11_32 (by decide) m0_82 r0_82_7 dX11_choose_104 ?_
          refine wp_iload_n hb rfl dX11_choose_107 ?_
          obtain ⟨q12, hv⟩ := hv
          refine wp_iaload hb rfl m0_99 q12 dX11_choose_108 ?_
          refine wp_ishr hb dX11_choose_109 ?_
          refine wp_iconst hb (x := nI 1) rfl dX11_choose_110 ?_
          refine wp_iand hb dX11_choose_111 ?_
          refine wp_iconst hb (x := nI 1) rfl dX11_choose_112 ?_
          refine wp_icmp_ne hb (t := 120) ⟨rfl, rfl⟩ dX11_choose_113 ⟨fun c13 => ?_, fun c13 => ?_⟩
          · have hv := hv.1 c13
            refine wp_iconst hb (x := nI 0) rfl dX11_choose_120 ?_
            obtain ⟨q14, hv⟩ := hv
            refine wp_bastore hb rfl m0_86 (by decide) q14 dX11_choose_121 ?_
            have hv := hv _ rfl
            generalize (mm_u2 m4.1 86 v3.toNatClampNeg (vp_nar .boolean (nI 0)), m4.2) = m7 at hv ⊢
            refine wp_iinc hb rfl (y := v3 + nI 1) rfl rfl dX11_choose_122 ?_
            refine wp_goto hb (t := 61) ⟨rfl, rfl⟩ dX11_choose_125 ?_
            exact wp_for (mm_ls_k (mm_ls_k (mm_ls_k (mm_ls_k mm_ls_nil)))) hv
          · have hv := hv.2 c13
            refine wp_iconst hb (x := nI 1) rfl dX11_choose_116 ?_
            refine wp_goto hb (t := 121) ⟨rfl, rfl⟩ dX11_choose_117 ?_
            obtain ⟨q15, hv⟩ := hv
            refine wp_bastore hb rfl m0_86 (by decide) q15 dX11_choose_121 ?_
            have hv := hv _ rfl
            generalize (mm_u2 m4.1 86 v3.toNatClampNeg (vp_nar .boolean (nI 1)), m4.2) = m8 at hv ⊢
            refine wp_iinc hb rfl (y := v3 + nI 1) rfl rfl dX11_choose_122 ?_
            refine wp_goto hb (t := 61) ⟨rfl, rfl⟩ dX11_choose_125 ?_
            exact wp_for (mm_ls_k (mm_ls_k (mm_ls_k (mm_ls_k mm_ls_nil)))) hv
set_option maxRecDepth 100000 in
theorem v_X11_block {d sn : Nat} {v1 : Int32} {m : mm_Mem} {P : Int32 → mm_Mem → Prop} 
    (hv : mm_sp d sn kX11_isSet [.ref 82, .int v1] m (qI fun x1 m1 => ((x1 = 0) → (P (-1) m1)) ∧ (¬ (x1 = 0) → (mm_sp d sn kX11_size [.int v1] m1 (qI fun x3 m2 => ((x3 = m2.1 83 42) → (vp_in v1 256 ∧ (((¬ m2.1 86 v1.toNatClampNeg = 0) → (vp_in v1 256 ∧ (∀ m3 : mm_Mem, m3 = (mm_u2 m2.1 86 v1.toNatClampNeg (vp_nar .boolean (nI 0)), m2.2) → (mm_sp d sn kX11_many [.ref 86] m3 (qI fun x8 m4 => P x8 m4))))) ∧ (¬ (¬ m2.1 86 v1.toNatClampNeg = 0) → (vp_in v1 256 ∧ (∀ m5 : mm_Mem, m5 = (mm_u2 m2.1 86 v1.toNatClampNeg (vp_nar .boolean (nI 1)), m2.2) → (mm_sp d sn kX11_many [.ref 86] m5 (qI fun x10 m6 => P x10 m6)))))))) ∧ (¬ (x3 = m2.1 83 42) → (P (-1) m2))))))) :
    mm_sp (d + 1) sn kX11_block [.ref 82, .int v1] m (qI P) := by
  have hb := mb_193
  refine wp_in (la := [some (.ref 82), some (.int v1)]) ⟨⟨Nat.le_of_ble_eq_true rfl, by decide, by decide⟩, rfl⟩ ?_
  refine wp_aload_n hb rfl dX11_block_0 ?_
  refine wp_iload_n hb rfl dX11_block_1 ?_
  refine wp_callV hb (k' := 156) ko_193 lm_11_125 rfl m0_82 (by decide) (Nat.le_of_ble_eq_true rfl) dX11_block_2 (sp_cI (hv.I (Nat.le_refl _) ?_))
  intro x1 m1 hv
  refine wp_if_eq hb (y := 0) (t := 22) ⟨rfl, rfl⟩ dX11_block_5 ⟨fun c2 => ?_, fun c2 => ?_⟩
  · have hv := hv.1 c2
    refine wp_iconst hb (x := (-1)) rfl dX11_block_22 ?_
    exact wp_retI hb rfl dX11_block_23 hv
  · have hv := hv.2 c2
    refine wp_iload_n hb rfl dX11_block_8 ?_
    refine wp_callS hb (k' := 154) ko_193 lm_11_128 (by decide) rfl (Nat.le_of_ble_eq_true rfl) dX11_block_9 (sp_cI (hv.I (Nat.le_refl _) ?_))
    intro x3 m2 hv
    refine wp_aload_n hb rfl dX11_block_12 ?_
    refine wp_getR hb ko_193 lf_11_11 (by decide) m0_82 r0_82_0 dX11_block_13 ?_
    refine wp_bipush hb (x := nI 42) rfl dX11_block_16 ?_
    refine wp_iaload hb (q := 42) (by decide) m0_83 (vp_in_nI (by decide) (by decide)) dX11_block_18 ?_
    refine wp_icmp_eq hb (t := 24) ⟨rfl, rfl⟩ dX11_block_19 ⟨fun c4 => ?_, fun c4 => ?_⟩
    · have hv := hv.1 c4
      refine wp_aload_n hb rfl dX11_block_24 ?_
      refine wp_getR hb ko_193 lf_11_20 (by decide) m0_82 r0_82_2 dX11_block_25 ?_
      refine wp_iconst hb (x := nI 0) rfl dX11_block_28 ?_
      refine wp_aaload hb m0_85 (by decide) (vp_in_nI (by decide) (by decide)) r0_85_0 dX11_block_29 ?_
      refine wp_iload_n hb rfl dX11_block_30 ?_
      refine wp_aload_n hb rfl dX11_block_31 ?_
      refine wp_getR hb ko_193 lf_11_20 (by decide) m0_82 r0_82_2 dX11_block_32 ?_
      refine wp_iconst hb (x := nI 0) rfl dX11_block_35 ?_
      refine wp_aaload hb m0_85 (by decide) (vp_in_nI (by decide) (by decide)) r0_85_0 dX11_block_36 ?_
      refine wp_iload_n hb rfl dX11_block_37 ?_
      obtain ⟨q5, hv⟩ := hv
      refine wp_baload hb rfl m0_86 q5 dX11_block_38 ?_
      refine wp_if_ne hb (y := 0) (t := 46) ⟨rfl, rfl⟩ dX11_block_39 ⟨fun c6 => ?_, fun c6 => ?_⟩
      · have hv := hv.1 c6
        refine wp_iconst hb (x := nI 0) rfl dX11_block_46 ?_
        obtain ⟨q7, hv⟩ := hv
        refine wp_bastore hb rfl m0_86 (by decide) q7 dX11_block_47 ?_
        have hv := hv _ rfl
        generalize (mm_u2 m2.1 86 v1.toNatClampNeg (vp_nar .boolean (nI 0)), m2.2) = m3 at hv ⊢
        refine wp_aload_n hb rfl dX11_block_48 ?_
        refine wp_getR hb ko_193 lf_11_20 (by decide) m0_82 r0_82_2 dX11_block_49 ?_
        refine wp_iconst hb (x := nI 0) rfl dX11_block_52 ?_
        refine wp_aaload hb m0_85 (by decide) (vp_in_nI (by decide) (by decide)) r0_85_0 dX11_block_53 ?_
        refine wp_callS hb (k' := 191) ko_193 lm_11_170 (by decide) rfl (Nat.le_of_ble_eq_true rfl) dX11_block_54 (sp_cI (hv.I (Nat.le_refl _) ?_))
        intro x8 m4 hv
        exact wp_retI hb rfl dX11_block_57 hv
      · have hv := hv.2 c6
        refine wp_iconst hb (x := nI 1) rfl dX11_block_42 ?_
        refine wp_goto hb (t := 47) ⟨rfl, rfl⟩ dX11_block_43 ?_
        obtain ⟨q9, hv⟩ := hv
        refine wp_bastore hb rfl m0_86 (by decide) q9 dX11_block_47 ?_
        have hv := hv _ rfl
        generalize (mm_u2 m2.1 86 v1.toNatClampNeg (vp_nar .boolean (nI 1)), m2.2) = m5 at hv ⊢
        refine wp_aload_n hb rfl dX11_block_48 ?_
        refine wp_getR hb ko_193 lf_11_20 (by decide) m0_82 r0_82_2 dX11_block_49 ?_
        refine wp_iconst hb (x := nI 0) rfl dX11_block_52 ?_
        refine wp_aaload hb m0_85 (by decide) (vp_in_nI (by decide) (by decide)) r0_85_0 dX11_block_53 ?_
        refine wp_callS hb (k' := 191) ko_193 lm_11_170 (by decide) rfl (Nat.le_of_ble_eq_true rfl) dX11_block_54 (sp_cI (hv.I (Nat.le_refl _) ?_))
        intro x10 m6 hv
        exact wp_retI hb rfl dX11_block_57 hv
    · have hv := hv.2 c4
      refine wp_iconst hb (x := (-1)) rfl dX11_block_22 ?_
      exact wp_retI hb rfl dX11_block_23 hv
set_option maxRecDepth 100000 in
theorem v_X11_blockOf {d sn : Nat} {v1 : Int32} {m : mm_Mem} {P : Int32 → mm_Mem → Prop} 
    (hv : ((0 ≤ v1) → (mm_wp d sn kX11_blockOf 10 [some (.ref 82), none, some (.int v1), some (.int (nI 0))] [] m (qI P))) ∧ (¬ (0 ≤ v1) → (P (-1) m))) :
    mm_sp (d + 1) sn kX11_blockOf [.ref 82, .int v1] m (qI P) := by
  have hb := mb_194
  refine wp_in (la := [some (.ref 82), some (.int v1), none, none]) ⟨⟨Nat.le_of_ble_eq_true rfl, by decide, by decide⟩, rfl⟩ ?_
  refine wp_iload_n hb rfl dX11_blockOf_0 ?_
  refine wp_if_ge hb (y := 0) (t := 6) ⟨rfl, rfl⟩ dX11_blockOf_1 ⟨fun c1 => ?_, fun c1 => ?_⟩
  · have hv := hv.1 c1
    refine wp_iload_n hb rfl dX11_blockOf_6 ?_
    refine wp_istore_n hb rfl dX11_blockOf_7 ?_
    refine wp_iconst hb (x := nI 0) rfl dX11_blockOf_8 ?_
    refine wp_istore_n hb rfl dX11_blockOf_9 ?_
    exact wp_for (mm_ls_k (mm_ls_f (mm_ls_k (mm_ls_k mm_ls_nil)))) hv
  · have hv := hv.2 c1
    refine wp_iconst hb (x := (-1)) rfl dX11_blockOf_4 ?_
    exact wp_retI hb rfl dX11_blockOf_5 hv
set_option maxRecDepth 100000 in
theorem v_X11_blockOf_10 {d sn : Nat} {v2 : Int32} {v3 : Int32} {m : mm_Mem} {P : Int32 → mm_Mem → Prop} 
    (hv : ((nI 256 ≤ v3) → (P (-5) m)) ∧ (¬ (nI 256 ≤ v3) → (vp_in v3 256 ∧ (((m.1 86 v3.toNatClampNeg = 0) → (mm_wp d sn kX11_blockOf 10 [some (.ref 82), none, some (.int v2), some (.int (v3 + nI 1))] [] m (qI P))) ∧ (¬ (m.1 86 v3.toNatClampNeg = 0) → (((¬ v2 = 0) → (mm_wp d sn kX11_blockOf 10 [some (.ref 82), none, some (.int (v2 + (-1))), some (.int (v3 + nI 1))] [] m (qI P))) ∧ (¬ (¬ v2 = 0) → (P v3 m)))))))) :
    mm_wp d sn kX11_blockOf 10 [some (.ref 82), none, some (.int v2), some (.int v3)] [] m (qI P) := by
  have hb := mb_194
  refine wp_iload_n hb rfl dX11_blockOf_10 ?_
  refine wp_sipush hb (x := nI 256) rfl dX11_blockOf_11 ?_
  refine wp_icmp_ge hb (t := 43) ⟨rfl, rfl⟩ dX11_blockOf_14 ⟨fun c1 => ?_, fun c1 => ?_⟩
  · have hv := hv.1 c1
    refine wp_bipush hb (x := (-5)) rfl dX11_blockOf_43 ?_
    exact wp_retI hb rfl dX11_blockOf_45 hv
  · have hv := hv.2 c1
    refine wp_aload_n hb rfl dX11_blockOf_17 ?_
    refine wp_getR hb ko_194 lf_11_20 (by decide) m0_82 r0_82_2 dX11_blockOf_18 ?_
    refine wp_iconst hb (x := nI 0) rfl dX11_blockOf_21 ?_
    refine wp_aaload hb m0_85 (by decide) (vp_in_nI (by decide) (by decide)) r0_85_0 dX11_blockOf_22 ?_
    refine wp_iload_n hb rfl dX11_blockOf_23 ?_
    obtain ⟨q2, hv⟩ := hv
    refine wp_baload hb rfl m0_86 q2 dX11_blockOf_24 ?_
    refine wp_if_eq hb (y := 0) (t := 37) ⟨rfl, rfl⟩ dX11_blockOf_25 ⟨fun c3 => ?_, fun c3 => ?_⟩
    · have hv := hv.1 c3
      refine wp_iinc hb rfl (y := v3 + nI 1) rfl rfl dX11_blockOf_37 ?_
      refine wp_goto hb (t := 10) ⟨rfl, rfl⟩ dX11_blockOf_40 ?_
      exact wp_for (mm_ls_k (mm_ls_k (mm_ls_k (mm_ls_k mm_ls_nil)))) hv
    · have hv := hv.2 c3
      refine wp_iload_n hb rfl dX11_blockOf_28 ?_
      refine wp_if_ne hb (y := 0) (t := 34) ⟨rfl, rfl⟩ dX11_blockOf_29 ⟨fun c4 => ?_, fun c4 => ?_⟩
      · have hv := hv.1 c4
        refine wp_iinc hb rfl (y := v2 + (-1)) (congrArg (fun z => v2 + z) (by decide : Int32.ofInt (-1) = (-1))) rfl dX11_blockOf_34 ?_
        refine wp_iinc hb rfl (y := v3 + nI 1) rfl rfl dX11_blockOf_37 ?_
        refine wp_goto hb (t := 10) ⟨rfl, rfl⟩ dX11_blockOf_40 ?_
        exact wp_for (mm_ls_k (mm_ls_k (mm_ls_k (mm_ls_k mm_ls_nil)))) hv
      · have hv := hv.2 c4
        refine wp_iload_n hb rfl dX11_blockOf_32 ?_
        exact wp_retI hb rfl dX11_blockOf_33 hv
set_option maxRecDepth 100000 in
theorem v_X11_shareOf {d sn : Nat} {a0 : Nat} {v1 : Int32} {v2 : Int32} {m : mm_Mem} {P : Int32 → mm_Mem → Prop} (ha0 : shZ a0) 
    (hv : mm_wp d sn kX11_shareOf 5 [some (.ref a0), some (.int v1), some (.int v2), some (.int (-1)), some (.int (nI 0)), none, none] [] m (qI P)) :
    mm_sp (d + 1) sn kX11_shareOf [.ref a0, .int v1, .int v2] m (qI P) := by
  have hb := mb_195
  refine wp_in (la := [some (.ref a0), some (.int v1), some (.int v2), none, none, none, none]) ⟨⟨Nat.le_of_ble_eq_true rfl, by decide, by decide⟩, rfl⟩ ?_
  refine wp_iconst hb (x := (-1)) rfl dX11_shareOf_0 ?_
  refine wp_istore_n hb rfl dX11_shareOf_1 ?_
  refine wp_iconst hb (x := nI 0) rfl dX11_shareOf_2 ?_
  refine wp_istore hb rfl dX11_shareOf_3 ?_
  exact wp_for (mm_ls_k (mm_ls_k (mm_ls_k (mm_ls_k (mm_ls_k (mm_ls_k (mm_ls_k mm_ls_nil))))))) hv
set_option maxRecDepth 100000 in
theorem v_X11_shareOf_5 {d sn : Nat} {a0 : Nat} {v1 : Int32} {v2 : Int32} {v3 : Int32} {v4 : Int32} {m : mm_Mem} {P : Int32 → mm_Mem → Prop} (ha0 : shZ a0) 
    (hv : ((nI 256 ≤ v4) → (P v3 m)) ∧ (¬ (nI 256 ≤ v4) → (((¬ v4 &&& (v1 ^^^ (-1)) = 0) → (mm_wp d sn kX11_shareOf 5 [some (.ref a0), some (.int v1), some (.int v2), some (.int v3), some (.int (v4 + nI 1)), none, none] [] m (qI P))) ∧ (¬ (¬ v4 &&& (v1 ^^^ (-1)) = 0) → (mm_sp d sn kX11_size [.int v4] m (qI fun x3 m1 => ((¬ x3 = v2) → (mm_wp d sn kX11_shareOf 5 [some (.ref a0), some (.int v1), some (.int v2), some (.int v3), some (.int (v4 + nI 1)), none, none] [] m1 (qI P))) ∧ (¬ (¬ x3 = v2) → (mm_wp d sn kX11_shareOf 37 [some (.ref a0), some (.int v1), some (.int v2), some (.int v3), some (.int v4), some (.int (nI 0)), some (.int (nI 0))] [] m1 (qI P))))))))) :
    mm_wp d sn kX11_shareOf 5 [some (.ref a0), some (.int v1), some (.int v2), some (.int v3), some (.int v4), none, none] [] m (qI P) := by
  have hb := mb_195
  refine wp_iload hb rfl dX11_shareOf_5 ?_
  refine wp_sipush hb (x := nI 256) rfl dX11_shareOf_7 ?_
  refine wp_icmp_ge hb (t := 100) ⟨rfl, rfl⟩ dX11_shareOf_10 ⟨fun c1 => ?_, fun c1 => ?_⟩
  · have hv := hv.1 c1
    refine wp_iload_n hb rfl dX11_shareOf_100 ?_
    exact wp_retI hb rfl dX11_shareOf_101 hv
  · have hv := hv.2 c1
    refine wp_iload hb rfl dX11_shareOf_13 ?_
    refine wp_iload_n hb rfl dX11_shareOf_15 ?_
    refine wp_iconst hb (x := (-1)) rfl dX11_shareOf_16 ?_
    refine wp_ixor hb dX11_shareOf_17 ?_
    refine wp_iand hb dX11_shareOf_18 ?_
    refine wp_if_ne hb (y := 0) (t := 94) ⟨rfl, rfl⟩ dX11_shareOf_19 ⟨fun c2 => ?_, fun c2 => ?_⟩
    · have hv := hv.1 c2
      refine wp_iinc hb rfl (y := v4 + nI 1) rfl rfl dX11_shareOf_94 ?_
      refine wp_goto hb (t := 5) ⟨rfl, rfl⟩ dX11_shareOf_97 ?_
      exact wp_for (mm_ls_k (mm_ls_k (mm_ls_k (mm_ls_k (mm_ls_k (mm_ls_k (mm_ls_k mm_ls_nil))))))) hv
    · have hv := hv.2 c2
      refine wp_iload hb rfl dX11_shareOf_22 ?_
      refine wp_callS hb (k' := 154) ko_195 lm_11_128 (by decide) rfl (Nat.le_of_ble_eq_true rfl) dX11_shareOf_24 (sp_cI (hv.I (Nat.le_refl _) ?_))
      intro x3 m1 hv
      refine wp_iload_n hb rfl dX11_shareOf_27 ?_
      refine wp_icmp_ne hb (t := 94) ⟨rfl, rfl⟩ dX11_shareOf_28 ⟨fun c4 => ?_, fun c4 => ?_⟩
      · have hv := hv.1 c4
        refine wp_iinc hb rfl (y := v4 + nI 1) rfl rfl dX11_shareOf_94 ?_
        refine wp_goto hb (t := 5) ⟨rfl, rfl⟩ dX11_shareOf_97 ?_
        exact wp_for (mm_ls_k (mm_ls_k (mm_ls_k (mm_ls_k (mm_ls_k (mm_ls_k (mm_ls_k mm_ls_nil))))))) hv
      · have hv := hv.2 c4
        refine wp_iconst hb (x := nI 0) rfl dX11_shareOf_31 ?_
        refine wp_istore hb rfl dX11_shareOf_32 ?_
        refine wp_iconst hb (x := nI 0) rfl dX11_shareOf_34 ?_
        refine wp_istore hb rfl dX11_shareOf_35 ?_
        exact wp_for (mm_ls_k (mm_ls_k (mm_ls_k (mm_ls_k (mm_ls_k (mm_ls_k (mm_ls_k mm_ls_nil))))))) hv
set_option maxRecDepth 100000 in
theorem v_X11_shareOf_37 {d sn : Nat} {a0 : Nat} {v1 : Int32} {v2 : Int32} {v3 : Int32} {v4 : Int32} {v5 : Int32} {v6 : Int32} {m : mm_Mem} {P : Int32 → mm_Mem → Prop} (ha0 : shZ a0) 
    (hv : ((nI 256 ≤ v6) → (((v3 < 0) → (mm_wp d sn kX11_shareOf 5 [some (.ref a0), some (.int v1), some (.int v2), some (.int v5), some (.int (v4 + nI 1)), none, none] [] m (qI P))) ∧ (¬ (v3 < 0) → (((v5 = v3) → (mm_wp d sn kX11_shareOf 5 [some (.ref a0), some (.int v1), some (.int v2), some (.int v5), some (.int (v4 + nI 1)), none, none] [] m (qI P))) ∧ (¬ (v5 = v3) → (P (-5) m)))))) ∧ (¬ (nI 256 ≤ v6) → (vp_in v6 256 ∧ (((m.1 a0 v6.toNatClampNeg = 0) → (mm_wp d sn kX11_shareOf 37 [some (.ref a0), some (.int v1), some (.int v2), some (.int v3), some (.int v4), some (.int (v5 + (nI 0))), some (.int (v6 + nI 1))] [] m (qI P))) ∧ (¬ (m.1 a0 v6.toNatClampNeg = 0) → (((¬ v4 &&& (v6 ^^^ (-1)) = 0) → (mm_wp d sn kX11_shareOf 37 [some (.ref a0), some (.int v1), some (.int v2), some (.int v3), some (.int v4), some (.int (v5 + (nI 0))), some (.int (v6 + nI 1))] [] m (qI P))) ∧ (¬ (¬ v4 &&& (v6 ^^^ (-1)) = 0) → (mm_wp d sn kX11_shareOf 37 [some (.ref a0), some (.int v1), some (.int v2), some (.int v3), some (.int v4), some (.int (v5 + (nI 1))), some (.int (v6 + nI 1))] [] m (qI P))))))))) :
    mm_wp d sn kX11_shareOf 37 [some (.ref a0), some (.int v1), some (.int v2), some (.int v3), some (.int v4), some (.int v5), some (.int v6)] [] m (qI P) := by
  have hb := mb_195
  refine wp_iload hb rfl dX11_shareOf_37 ?_
  refine wp_sipush hb (x := nI 256) rfl dX11_shareOf_39 ?_
  refine wp_icmp_ge hb (t := 78) ⟨rfl, rfl⟩ dX11_shareOf_42 ⟨fun c1 => ?_, fun c1 => ?_⟩
  · have hv := hv.1 c1
    refine wp_iload_n hb rfl dX11_shareOf_78 ?_
    refine wp_if_lt hb (y := 0) (t := 91) ⟨rfl, rfl⟩ dX11_shareOf_79 ⟨fun c2 => ?_, fun c2 => ?_⟩
    · have hv := hv.1 c2
      refine wp_iload hb rfl dX11_shareOf_91 ?_
      refine wp_istore_n hb rfl dX11_shareOf_93 ?_
      refine wp_iinc hb rfl (y := v4 + nI 1) rfl rfl dX11_shareOf_94 ?_
      refine wp_goto hb (t := 5) ⟨rfl, rfl⟩ dX11_shareOf_97 ?_
      exact wp_for (mm_ls_k (mm_ls_k (mm_ls_k (mm_ls_k (mm_ls_k (mm_ls_f (mm_ls_f mm_ls_nil))))))) hv
    · have hv := hv.2 c2
      refine wp_iload hb rfl dX11_shareOf_82 ?_
      refine wp_iload_n hb rfl dX11_shareOf_84 ?_
      refine wp_icmp_eq hb (t := 91) ⟨rfl, rfl⟩ dX11_shareOf_85 ⟨fun c3 => ?_, fun c3 => ?_⟩
      · have hv := hv.1 c3
        refine wp_iload hb rfl dX11_shareOf_91 ?_
        refine wp_istore_n hb rfl dX11_shareOf_93 ?_
        refine wp_iinc hb rfl (y := v4 + nI 1) rfl rfl dX11_shareOf_94 ?_
        refine wp_goto hb (t := 5) ⟨rfl, rfl⟩ dX11_shareOf_97 ?_
        exact wp_for (mm_ls_k (mm_ls_k (mm_ls_k (mm_ls_k (mm_ls_k (mm_ls_f (mm_ls_f mm_ls_nil))))))) hv
      · have hv := hv.2 c3
        refine wp_bipush hb (x := (-5)) rfl dX11_shareOf_88 ?_
        exact wp_retI hb rfl dX11_shareOf_90 hv
  · have hv := hv.2 c1
    refine wp_iload hb rfl dX11_shareOf_45 ?_
    refine wp_aload_n hb rfl dX11_shareOf_47 ?_
    refine wp_iload hb rfl dX11_shareOf_48 ?_
    obtain ⟨q4, hv⟩ := hv
    refine wp_baload hb rfl (ha0.2 _) q4 dX11_shareOf_50 ?_
    refine wp_if_eq hb (y := 0) (t := 68) ⟨rfl, rfl⟩ dX11_shareOf_51 ⟨fun c5 => ?_, fun c5 => ?_⟩
    · have hv := hv.1 c5
      refine wp_iconst hb (x := nI 0) rfl dX11_shareOf_68 ?_
      refine wp_iadd hb dX11_shareOf_69 ?_
      refine wp_istore hb rfl dX11_shareOf_70 ?_
      refine wp_iinc hb rfl (y := v6 + nI 1) rfl rfl dX11_shareOf_72 ?_
      refine wp_goto hb (t := 37) ⟨rfl, rfl⟩ dX11_shareOf_75 ?_
      exact wp_for (mm_ls_k (mm_ls_k (mm_ls_k (mm_ls_k (mm_ls_k (mm_ls_k (mm_ls_k mm_ls_nil))))))) hv
    · have hv := hv.2 c5
      refine wp_iload hb rfl dX11_shareOf_54 ?_
      refine wp_iload hb rfl dX11_shareOf_56 ?_
      refine wp_iconst hb (x := (-1)) rfl dX11_shareOf_58 ?_
      refine wp_ixor hb dX11_shareOf_59 ?_
      refine wp_iand hb dX11_shareOf_60 ?_
      refine wp_if_ne hb (y := 0) (t := 68) ⟨rfl, rfl⟩ dX11_shareOf_61 ⟨fun c6 => ?_, fun c6 => ?_⟩
      · have hv := hv.1 c6
        refine wp_iconst hb (x := nI 0) rfl dX11_shareOf_68 ?_
        refine wp_iadd hb dX11_shareOf_69 ?_
        refine wp_istore hb rfl dX11_shareOf_70 ?_
        refine wp_iinc hb rfl (y := v6 + nI 1) rfl rfl dX11_shareOf_72 ?_
        refine wp_goto hb (t := 37) ⟨rfl, rfl⟩ dX11_shareOf_75 ?_
        exact wp_for (mm_ls_k (mm_ls_k (mm_ls_k (mm_ls_k (mm_ls_k (mm_ls_k (mm_ls_k mm_ls_nil))))))) hv
      · have hv := hv.2 c6
        refine wp_iconst hb (x := nI 1) rfl dX11_shareOf_64 ?_
        refine wp_goto hb (t := 69) ⟨rfl, rfl⟩ dX11_shareOf_65 ?_
        refine wp_iadd hb dX11_shareOf_69 ?_
        refine wp_istore hb rfl dX11_shareOf_70 ?_
        refine wp_iinc hb rfl (y := v6 + nI 1) rfl rfl dX11_shareOf_72 ?_
        refine wp_goto hb (t := 37) ⟨rfl, rfl⟩ dX11_shareOf_75 ?_
        exact wp_for (mm_ls_k (mm_ls_k (mm_ls_k (mm_ls_k (mm_ls_k (mm_ls_k (mm_ls_k mm_ls_nil))))))) hv
set_option maxRecDepth 100000 in
theorem v_X11_strengthOf {d sn : Nat} {a0 : Nat} {v1 : Int32} {v2 : Int32} {m : mm_Mem} {P : Int32 → mm_Mem → Prop} (ha0 : shZ a0) 
    (hv : mm_wp d sn kX11_strengthOf 2 [some (.ref a0), some (.int v1), some (.int v2), some (.int (nI 0))] [] m (qI P)) :
    mm_sp (d + 1) sn kX11_strengthOf [.ref a0, .int v1, .int v2] m (qI P) := by
  have hb := mb_196
  refine wp_in (la := [some (.ref a0), some (.int v1), some (.int v2), none]) ⟨⟨Nat.le_of_ble_eq_true rfl, by decide, by decide⟩, rfl⟩ ?_
  refine wp_iconst hb (x := nI 0) rfl dX11_strengthOf_0 ?_
  refine wp_istore_n hb rfl dX11_strengthOf_1 ?_
  exact wp_for (mm_ls_k (mm_ls_k (mm_ls_k (mm_ls_k mm_ls_nil)))) hv
set_option maxRecDepth 100000 in
theorem v_X11_strengthOf_2 {d sn : Nat} {a0 : Nat} {v1 : Int32} {v2 : Int32} {v3 : Int32} {m : mm_Mem} {P : Int32 → mm_Mem → Prop} (ha0 : shZ a0) 
    (hv : ((v2 ≤ v3) → (P v3 m)) ∧ (¬ (v2 ≤ v3) → (mm_sp d sn kX11_shareOf [.ref a0, .int v1, .int (v3 + (nI 1))] m (qI fun x2 m1 => ((x2 < 0) → (P v3 m1)) ∧ (¬ (x2 < 0) → (mm_wp d sn kX11_strengthOf 2 [some (.ref a0), some (.int v1), some (.int v2), some (.int (v3 + nI 1))] [] m1 (qI P))))))) :
    mm_wp d sn kX11_strengthOf 2 [some (.ref a0), some (.int v1), some (.int v2), some (.int v3)] [] m (qI P) := by
  have hb := mb_196
  refine wp_iload_n hb rfl dX11_strengthOf_2 ?_
  refine wp_iload_n hb rfl dX11_strengthOf_3 ?_
  refine wp_icmp_ge hb (t := 24) ⟨rfl, rfl⟩ dX11_strengthOf_4 ⟨fun c1 => ?_, fun c1 => ?_⟩
  · have hv := hv.1 c1
    refine wp_iload_n hb rfl dX11_strengthOf_24 ?_
    exact wp_retI hb rfl dX11_strengthOf_25 hv
  · have hv := hv.2 c1
    refine wp_aload_n hb rfl dX11_strengthOf_7 ?_
    refine wp_iload_n hb rfl dX11_strengthOf_8 ?_
    refine wp_iload_n hb rfl dX11_strengthOf_9 ?_
    refine wp_iconst hb (x := nI 1) rfl dX11_strengthOf_10 ?_
    refine wp_iadd hb dX11_strengthOf_11 ?_
    refine wp_callS hb (k' := 195) ko_196 lm_11_174 (by decide) rfl (Nat.le_of_ble_eq_true rfl) dX11_strengthOf_12 (sp_cI (hv.I (Nat.le_refl _) ?_))
    intro x2 m1 hv
    refine wp_if_lt hb (y := 0) (t := 24) ⟨rfl, rfl⟩ dX11_strengthOf_15 ⟨fun c3 => ?_, fun c3 => ?_⟩
    · have hv := hv.1 c3
      refine wp_iload_n hb rfl dX11_strengthOf_24 ?_
      exact wp_retI hb rfl dX11_strengthOf_25 hv
    · have hv := hv.2 c3
      refine wp_iinc hb rfl (y := v3 + nI 1) rfl rfl dX11_strengthOf_18 ?_
      refine wp_goto hb (t := 2) ⟨rfl, rfl⟩ dX11_strengthOf_21 ?_
      exact wp_for (mm_ls_k (mm_ls_k (mm_ls_k (mm_ls_k mm_ls_nil)))) hv
set_option maxRecDepth 100000 in
theorem v_X11_blocks {d sn : Nat} {v1 : Int32} {m : mm_Mem} {P : Int32 → mm_Mem → Prop} 
    (hv : mm_wp d sn kX11_blocks 4 [some (.ref 82), some (.int v1), some (.int (nI 0)), some (.int (nI 0))] [] m (qI P)) :
    mm_sp (d + 1) sn kX11_blocks [.ref 82, .int v1] m (qI P) := by
  have hb := mb_197
  refine wp_in (la := [some (.ref 82), some (.int v1), none, none]) ⟨⟨Nat.le_of_ble_eq_true rfl, by decide, by decide⟩, rfl⟩ ?_
  refine wp_iconst hb (x := nI 0) rfl dX11_blocks_0 ?_
  refine wp_istore_n hb rfl dX11_blocks_1 ?_
  refine wp_iconst hb (x := nI 0) rfl dX11_blocks_2 ?_
  refine wp_istore_n hb rfl dX11_blocks_3 ?_
  exact wp_for (mm_ls_k (mm_ls_k (mm_ls_k (mm_ls_k mm_ls_nil)))) hv
set_option maxRecDepth 100000 in
theorem v_X11_blocks_4 {d sn : Nat} {v1 : Int32} {v2 : Int32} {v3 : Int32} {m : mm_Mem} {P : Int32 → mm_Mem → Prop} 
    (hv : ((nI 256 ≤ v3) → ((v1 = nI 0 → (P (m.1 83 42) m)) ∧ (v1 = nI 1 → (mm_sp d sn kX11_many [.ref 86] m (qI fun x4 m1 => P x4 m1))) ∧ (v1 = nI 2 → (mm_sp d sn kX11_whole [.ref 82] m (qI fun x6 m2 => mm_sp d sn kX11_strengthOf [.ref 86, .int x6, .int (m2.1 83 42)] m2 (qI fun x7 m3 => P x7 m3)))) ∧ (v1 = nI 3 → (mm_sp d sn kX11_size [.int v2] m (qI fun x9 m4 => P x9 m4))) ∧ (¬ v1 = nI 0 → ¬ v1 = nI 1 → ¬ v1 = nI 2 → ¬ v1 = nI 3 → (P (-1) m)))) ∧ (¬ (nI 256 ≤ v3) → (vp_in v3 256 ∧ (((m.1 86 v3.toNatClampNeg = 0) → (mm_wp d sn kX11_blocks 4 [some (.ref 82), some (.int v1), some (.int (v2 ||| (nI 0))), some (.int (v3 + nI 1))] [] m (qI P))) ∧ (¬ (m.1 86 v3.toNatClampNeg = 0) → (mm_wp d sn kX11_blocks 4 [some (.ref 82), some (.int v1), some (.int (v2 ||| v3)), some (.int (v3 + nI 1))] [] m (qI P))))))) :
    mm_wp d sn kX11_blocks 4 [some (.ref 82), some (.int v1), some (.int v2), some (.int v3)] [] m (qI P) := by
  have hb := mb_197
  refine wp_iload_n hb rfl dX11_blocks_4 ?_
  refine wp_sipush hb (x := nI 256) rfl dX11_blocks_5 ?_
  refine wp_icmp_ge hb (t := 36) ⟨rfl, rfl⟩ dX11_blocks_8 ⟨fun c1 => ?_, fun c1 => ?_⟩
  · have hv := hv.1 c1
    refine wp_iload_n hb rfl dX11_blocks_36 ?_
    by_cases hc : v1.toInt < 0 ∨ 3 < v1.toInt
    · refine wp_tabO hb hc (t := 112) ⟨rfl, rfl⟩ dX11_blocks_37 ?_
      have hv := hv.2.2.2.2 (mm_out hc (by decide) (by decide)) (mm_out hc (by decide) (by decide)) (mm_out hc (by decide) (by decide)) (mm_out hc (by decide) (by decide))
      refine wp_iconst hb (x := (-1)) rfl dX11_blocks_112 ?_
      exact wp_retI hb rfl dX11_blocks_113 hv
    · have hx := mm_tabc (n := 4) (lo := 0) (by decide) hc (by decide)
      obtain ⟨j, hj, hx⟩ := hx
      by_cases g0 : j = 0
      · subst g0
        have hv := hv.1 hx
        have hc9 := hc
        rw [hx] at hc9 ⊢
        refine wp_tabI hb (off := 31) hc9 rfl (t := 68) ⟨rfl, rfl⟩ dX11_blocks_37 ?_
        refine wp_aload_n hb rfl dX11_blocks_68 ?_
        refine wp_getR hb ko_197 lf_11_11 (by decide) m0_82 r0_82_0 dX11_blocks_69 ?_
        refine wp_bipush hb (x := nI 42) rfl dX11_blocks_72 ?_
        refine wp_iaload hb (q := 42) (by decide) m0_83 (vp_in_nI (by decide) (by decide)) dX11_blocks_74 ?_
        exact wp_retI hb rfl dX11_blocks_75 hv
      by_cases g1 : j = 1
      · subst g1
        have hv := hv.2.1 hx
        have hc9 := hc
        rw [hx] at hc9 ⊢
        refine wp_tabI hb (off := 39) hc9 rfl (t := 76) ⟨rfl, rfl⟩ dX11_blocks_37 ?_
        refine wp_aload_n hb rfl dX11_blocks_76 ?_
        refine wp_getR hb ko_197 lf_11_20 (by decide) m0_82 r0_82_2 dX11_blocks_77 ?_
        refine wp_iconst hb (x := nI 0) rfl dX11_blocks_80 ?_
        refine wp_aaload hb m0_85 (by decide) (vp_in_nI (by decide) (by decide)) r0_85_0 dX11_blocks_81 ?_
        refine wp_callS hb (k' := 191) ko_197 lm_11_170 (by decide) rfl (Nat.le_of_ble_eq_true rfl) dX11_blocks_82 (sp_cI (hv.I (Nat.le_refl _) ?_))
        intro x4 m1 hv
        exact wp_retI hb rfl dX11_blocks_85 hv
      by_cases g2 : j = 2
      · subst g2
        have hv := hv.2.2.1 hx
        have hc9 := hc
        rw [hx] at hc9 ⊢
        refine wp_tabI hb (off := 49) hc9 rfl (t := 86) ⟨rfl, rfl⟩ dX11_blocks_37 ?_
        refine wp_aload_n hb rfl dX11_blocks_86 ?_
        refine wp_getR hb ko_197 lf_11_20 (by decide) m0_82 r0_82_2 dX11_blocks_87 ?_
        refine wp_iconst hb (x := nI 0) rfl dX11_blocks_90 ?_
        refine wp_aaload hb m0_85 (by decide) (vp_in_nI (by decide) (by decide)) r0_85_0 dX11_blocks_91 ?_
        refine wp_aload_n hb rfl dX11_blocks_92 ?_
        refine wp_callV hb (k' := 155) ko_197 lm_11_81 rfl m0_82 (by decide) (Nat.le_of_ble_eq_true rfl) dX11_blocks_93 (sp_cI (hv.I (Nat.le_refl _) ?_))
        intro x6 m2 hv
        refine wp_aload_n hb rfl dX11_blocks_96 ?_
        refine wp_getR hb ko_197 lf_11_11 (by decide) m0_82 r0_82_0 dX11_blocks_97 ?_
        refine wp_bipush hb (x := nI 42) rfl dX11_blocks_100 ?_
        refine wp_iaload hb (q := 42) (by decide) m0_83 (vp_in_nI (by decide) (by decide)) dX11_blocks_102 ?_
        refine wp_callS hb (k' := 196) ko_197 lm_11_178 (by decide) rfl (Nat.le_of_ble_eq_true rfl) dX11_blocks_103 (sp_cI (hv.I (Nat.le_refl _) ?_))
        intro x7 m3 hv
        exact wp_retI hb rfl dX11_blocks_106 hv
      by_cases g3 : j = 3
      · subst g3
        have hv := hv.2.2.2.1 hx
        have hc9 := hc
        rw [hx] at hc9 ⊢
        refine wp_tabI hb (off := 70) hc9 rfl (t := 107) ⟨rfl, rfl⟩ dX11_blocks_37 ?_
        refine wp_iload_n hb rfl dX11_blocks_107 ?_
        refine wp_callS hb (k' := 154) ko_197 lm_11_128 (by decide) rfl (Nat.le_of_ble_eq_true rfl) dX11_blocks_108 (sp_cI (hv.I (Nat.le_refl _) ?_))
        intro x9 m4 hv
        exact wp_retI hb rfl dX11_blocks_111 hv
      omega
  · have hv := hv.2 c1
    refine wp_iload_n hb rfl dX11_blocks_11 ?_
    refine wp_aload_n hb rfl dX11_blocks_12 ?_
    refine wp_getR hb ko_197 lf_11_20 (by decide) m0_82 r0_82_2 dX11_blocks_13 ?_
    refine wp_iconst hb (x := nI 0) rfl dX11_blocks_16 ?_
    refine wp_aaload hb m0_85 (by decide) (vp_in_nI (by decide) (by decide)) r0_85_0 dX11_blocks_17 ?_
    refine wp_iload_n hb rfl dX11_blocks_18 ?_
    obtain ⟨q10, hv⟩ := hv
    refine wp_baload hb rfl m0_86 q10 dX11_blocks_19 ?_
    refine wp_if_eq hb (y := 0) (t := 27) ⟨rfl, rfl⟩ dX11_blocks_20 ⟨fun c11 => ?_, fun c11 => ?_⟩
    · have hv := hv.1 c11
      refine wp_iconst hb (x := nI 0) rfl dX11_blocks_27 ?_
      refine wp_ior hb dX11_blocks_28 ?_
      refine wp_istore_n hb rfl dX11_blocks_29 ?_
      refine wp_iinc hb rfl (y := v3 + nI 1) rfl rfl dX11_blocks_30 ?_
      refine wp_goto hb (t := 4) ⟨rfl, rfl⟩ dX11_blocks_33 ?_
      exact wp_for (mm_ls_k (mm_ls_k (mm_ls_k (mm_ls_k mm_ls_nil)))) hv
    · have hv := hv.2 c11
      refine wp_iload_n hb rfl dX11_blocks_23 ?_
      refine wp_goto hb (t := 28) ⟨rfl, rfl⟩ dX11_blocks_24 ?_
      refine wp_ior hb dX11_blocks_28 ?_
      refine wp_istore_n hb rfl dX11_blocks_29 ?_
      refine wp_iinc hb rfl (y := v3 + nI 1) rfl rfl dX11_blocks_30 ?_
      refine wp_goto hb (t := 4) ⟨rfl, rfl⟩ dX11_blocks_33 ?_
      exact wp_for (mm_ls_k (mm_ls_k (mm_ls_k (mm_ls_k mm_ls_nil)))) hv
set_option maxRecDepth 100000 in
theorem v_X11_share {d sn : Nat} {v1 : Int32} {m : mm_Mem} {P : Int32 → mm_Mem → Prop} 
    (hv : mm_sp d sn kX11_in [.long v1.toInt64, .long (lN 0), .long ((m.1 83 42).toInt64)] m (qI fun x1 m1 => ((x1 = 0) → (P (-2) m1)) ∧ (¬ (x1 = 0) → (mm_sp d sn kX11_whole [.ref 82] m1 (qI fun x3 m2 => mm_sp d sn kX11_shareOf [.ref 86, .int x3, .int v1] m2 (qI fun x4 m3 => P x4 m3)))))) :
    mm_sp (d + 1) sn kX11_share [.ref 82, .int v1] m (qI P) := by
  have hb := mb_198
  refine wp_in (la := [some (.ref 82), some (.int v1)]) ⟨⟨Nat.le_of_ble_eq_true rfl, by decide, by decide⟩, rfl⟩ ?_
  refine wp_iload_n hb rfl dX11_share_0 ?_
  refine wp_i2l hb dX11_share_1 ?_
  refine wp_lconst hb (x := lN 0) rfl dX11_share_2 ?_
  refine wp_aload_n hb rfl dX11_share_3 ?_
  refine wp_getR hb ko_198 lf_11_11 (by decide) m0_82 r0_82_0 dX11_share_4 ?_
  refine wp_bipush hb (x := nI 42) rfl dX11_share_7 ?_
  refine wp_iaload hb (q := 42) (by decide) m0_83 (vp_in_nI (by decide) (by decide)) dX11_share_9 ?_
  refine wp_i2l hb dX11_share_10 ?_
  refine wp_callS hb (k' := 152) ko_198 lm_11_85 (by decide) rfl (Nat.le_of_ble_eq_true rfl) dX11_share_11 (sp_cI (hv.I (Nat.le_refl _) ?_))
  intro x1 m1 hv
  refine wp_if_eq hb (y := 0) (t := 34) ⟨rfl, rfl⟩ dX11_share_14 ⟨fun c2 => ?_, fun c2 => ?_⟩
  · have hv := hv.1 c2
    refine wp_bipush hb (x := (-2)) rfl dX11_share_34 ?_
    exact wp_retI hb rfl dX11_share_36 hv
  · have hv := hv.2 c2
    refine wp_aload_n hb rfl dX11_share_17 ?_
    refine wp_getR hb ko_198 lf_11_20 (by decide) m0_82 r0_82_2 dX11_share_18 ?_
    refine wp_iconst hb (x := nI 0) rfl dX11_share_21 ?_
    refine wp_aaload hb m0_85 (by decide) (vp_in_nI (by decide) (by decide)) r0_85_0 dX11_share_22 ?_
    refine wp_aload_n hb rfl dX11_share_23 ?_
    refine wp_callV hb (k' := 155) ko_198 lm_11_81 rfl m0_82 (by decide) (Nat.le_of_ble_eq_true rfl) dX11_share_24 (sp_cI (hv.I (Nat.le_refl _) ?_))
    intro x3 m2 hv
    refine wp_iload_n hb rfl dX11_share_27 ?_
    refine wp_callS hb (k' := 195) ko_198 lm_11_174 (by decide) rfl (Nat.le_of_ble_eq_true rfl) dX11_share_28 (sp_cI (hv.I (Nat.le_refl _) ?_))
    intro x4 m3 hv
    refine wp_goto hb (t := 36) ⟨rfl, rfl⟩ dX11_share_31 ?_
    exact wp_retI hb rfl dX11_share_36 hv
set_option maxRecDepth 100000 in
theorem v_X11_meets {d sn : Nat} {v1 : Int32} {v2 : Int32} {m : mm_Mem} {P : Int32 → mm_Mem → Prop} 
    (hv : mm_sp d sn kX11_isSet [.ref 82, .int v1] m (qI fun x1 m1 => ((¬ x1 = 0) → (mm_sp d sn kX11_in [.long v2.toInt64, .long (lN 0), .long (lN 8)] m1 (qI fun x3 m2 => ((¬ x3 = 0) → (mm_wp d sn kX11_meets 30 [some (.ref 82), some (.int v1), some (.int v2), some (.int (nI 0)), some (.int (nI 0))] [] m2 (qI P))) ∧ (¬ (¬ x3 = 0) → (P (-2) m2))))) ∧ (¬ (¬ x1 = 0) → (P (-1) m1)))) :
    mm_sp (d + 1) sn kX11_meets [.ref 82, .int v1, .int v2] m (qI P) := by
  have hb := mb_199
  refine wp_in (la := [some (.ref 82), some (.int v1), some (.int v2), none, none]) ⟨⟨Nat.le_of_ble_eq_true rfl, by decide, by decide⟩, rfl⟩ ?_
  refine wp_aload_n hb rfl dX11_meets_0 ?_
  refine wp_iload_n hb rfl dX11_meets_1 ?_
  refine wp_callV hb (k' := 156) ko_199 lm_11_125 rfl m0_82 (by decide) (Nat.le_of_ble_eq_true rfl) dX11_meets_2 (sp_cI (hv.I (Nat.le_refl _) ?_))
  intro x1 m1 hv
  refine wp_if_ne hb (y := 0) (t := 10) ⟨rfl, rfl⟩ dX11_meets_5 ⟨fun c2 => ?_, fun c2 => ?_⟩
  · have hv := hv.1 c2
    refine wp_iload_n hb rfl dX11_meets_10 ?_
    refine wp_i2l hb dX11_meets_11 ?_
    refine wp_lconst hb (x := lN 0) rfl dX11_meets_12 ?_
    refine wp_ldc2 hb (ko_199) (kl_11_91) dX11_meets_13 ?_
    refine wp_callS hb (k' := 152) ko_199 lm_11_85 (by decide) rfl (Nat.le_of_ble_eq_true rfl) dX11_meets_16 (sp_cI (hv.I (Nat.le_refl _) ?_))
    intro x3 m2 hv
    refine wp_if_ne hb (y := 0) (t := 25) ⟨rfl, rfl⟩ dX11_meets_19 ⟨fun c4 => ?_, fun c4 => ?_⟩
    · have hv := hv.1 c4
      refine wp_iconst hb (x := nI 0) rfl dX11_meets_25 ?_
      refine wp_istore_n hb rfl dX11_meets_26 ?_
      refine wp_iconst hb (x := nI 0) rfl dX11_meets_27 ?_
      refine wp_istore hb rfl dX11_meets_28 ?_
      exact wp_for (mm_ls_k (mm_ls_k (mm_ls_k (mm_ls_k (mm_ls_k mm_ls_nil))))) hv
    · have hv := hv.2 c4
      refine wp_bipush hb (x := (-2)) rfl dX11_meets_22 ?_
      exact wp_retI hb rfl dX11_meets_24 hv
  · have hv := hv.2 c2
    refine wp_iconst hb (x := (-1)) rfl dX11_meets_8 ?_
    exact wp_retI hb rfl dX11_meets_9 hv
set_option maxRecDepth 100000 in
theorem v_X11_meets_30 {d sn : Nat} {v1 : Int32} {v2 : Int32} {v3 : Int32} {v4 : Int32} {m : mm_Mem} {P : Int32 → mm_Mem → Prop} 
    (hv : ((nI 256 ≤ v4) → (P v3 m)) ∧ (¬ (nI 256 ≤ v4) → (vp_in v4 256 ∧ (((m.1 86 v4.toNatClampNeg = 0) → (mm_wp d sn kX11_meets 30 [some (.ref 82), some (.int v1), some (.int v2), some (.int (v3 + (nI 0))), some (.int (v4 + nI 1))] [] m (qI P))) ∧ (¬ (m.1 86 v4.toNatClampNeg = 0) → (mm_sp d sn kX11_size [.int (v4 &&& v1)] m (qI fun x4 m1 => ((¬ x4 = v2) → (mm_wp d sn kX11_meets 30 [some (.ref 82), some (.int v1), some (.int v2), some (.int (v3 + (nI 0))), some (.int (v4 + nI 1))] [] m1 (qI P))) ∧ (¬ (¬ x4 = v2) → (mm_wp d sn kX11_meets 30 [some (.ref 82), some (.int v1), some (.int v2), some (.int (v3 + (nI 1))), some (.int (v4 + nI 1))] [] m1 (qI P)))))))))) :
    mm_wp d sn kX11_meets 30 [some (.ref 82), some (.int v1), some (.int v2), some (.int v3), some (.int v4)] [] m (qI P) := by
  have hb := mb_199
  refine wp_iload hb rfl dX11_meets_30 ?_
  refine wp_sipush hb (x := nI 256) rfl dX11_meets_32 ?_
  refine wp_icmp_ge hb (t := 75) ⟨rfl, rfl⟩ dX11_meets_35 ⟨fun c1 => ?_, fun c1 => ?_⟩
  · have hv := hv.1 c1
    refine wp_iload_n hb rfl dX11_meets_75 ?_
    exact wp_retI hb rfl dX11_meets_76 hv
  · have hv := hv.2 c1
    refine wp_iload_n hb rfl dX11_meets_38 ?_
    refine wp_aload_n hb rfl dX11_meets_39 ?_
    refine wp_getR hb ko_199 lf_11_20 (by decide) m0_82 r0_82_2 dX11_meets_40 ?_
    refine wp_iconst hb (x := nI 0) rfl dX11_meets_43 ?_
    refine wp_aaload hb m0_85 (by decide) (vp_in_nI (by decide) (by decide)) r0_85_0 dX11_meets_44 ?_
    refine wp_iload hb rfl dX11_meets_45 ?_
    obtain ⟨q2, hv⟩ := hv
    refine wp_baload hb rfl m0_86 q2 dX11_meets_47 ?_
    refine wp_if_eq hb (y := 0) (t := 66) ⟨rfl, rfl⟩ dX11_meets_48 ⟨fun c3 => ?_, fun c3 => ?_⟩
    · have hv := hv.1 c3
      refine wp_iconst hb (x := nI 0) rfl dX11_meets_66 ?_
      refine wp_iadd hb dX11_meets_67 ?_
      refine wp_istore_n hb rfl dX11_meets_68 ?_
      refine wp_iinc hb rfl (y := v4 + nI 1) rfl rfl dX11_meets_69 ?_
      refine wp_goto hb (t := 30) ⟨rfl, rfl⟩ dX11_meets_72 ?_
      exact wp_for (mm_ls_k (mm_ls_k (mm_ls_k (mm_ls_k (mm_ls_k mm_ls_nil))))) hv
    · have hv := hv.2 c3
      refine wp_iload hb rfl dX11_meets_51 ?_
      refine wp_iload_n hb rfl dX11_meets_53 ?_
      refine wp_iand hb dX11_meets_54 ?_
      refine wp_callS hb (k' := 154) ko_199 lm_11_128 (by decide) rfl (Nat.le_of_ble_eq_true rfl) dX11_meets_55 (sp_cI (hv.I (Nat.le_refl _) ?_))
      intro x4 m1 hv
      refine wp_iload_n hb rfl dX11_meets_58 ?_
      refine wp_icmp_ne hb (t := 66) ⟨rfl, rfl⟩ dX11_meets_59 ⟨fun c5 => ?_, fun c5 => ?_⟩
      · have hv := hv.1 c5
        refine wp_iconst hb (x := nI 0) rfl dX11_meets_66 ?_
        refine wp_iadd hb dX11_meets_67 ?_
        refine wp_istore_n hb rfl dX11_meets_68 ?_
        refine wp_iinc hb rfl (y := v4 + nI 1) rfl rfl dX11_meets_69 ?_
        refine wp_goto hb (t := 30) ⟨rfl, rfl⟩ dX11_meets_72 ?_
        exact wp_for (mm_ls_k (mm_ls_k (mm_ls_k (mm_ls_k (mm_ls_k mm_ls_nil))))) hv
      · have hv := hv.2 c5
        refine wp_iconst hb (x := nI 1) rfl dX11_meets_62 ?_
        refine wp_goto hb (t := 67) ⟨rfl, rfl⟩ dX11_meets_63 ?_
        refine wp_iadd hb dX11_meets_67 ?_
        refine wp_istore_n hb rfl dX11_meets_68 ?_
        refine wp_iinc hb rfl (y := v4 + nI 1) rfl rfl dX11_meets_69 ?_
        refine wp_goto hb (t := 30) ⟨rfl, rfl⟩ dX11_meets_72 ?_
        exact wp_for (mm_ls_k (mm_ls_k (mm_ls_k (mm_ls_k (mm_ls_k mm_ls_nil))))) hv
set_option maxRecDepth 100000 in
theorem v_X11_turned {d sn : Nat} {m : mm_Mem} {P : Int32 → mm_Mem → Prop} 
    (hv : ((¬ m.1 83 42 = m.1 83 0) → (mm_wp d sn kX11_turned 21 [some (.ref 82), some (.int (nI 0))] [] m (qI P))) ∧ (¬ (¬ m.1 83 42 = m.1 83 0) → (P (-3) m))) :
    mm_sp (d + 1) sn kX11_turned [.ref 82] m (qI P) := by
  have hb := mb_200
  refine wp_in (la := [some (.ref 82), none]) ⟨⟨Nat.le_of_ble_eq_true rfl, by decide, by decide⟩, rfl⟩ ?_
  refine wp_aload_n hb rfl dX11_turned_0 ?_
  refine wp_getR hb ko_200 lf_11_11 (by decide) m0_82 r0_82_0 dX11_turned_1 ?_
  refine wp_bipush hb (x := nI 42) rfl dX11_turned_4 ?_
  refine wp_iaload hb (q := 42) (by decide) m0_83 (vp_in_nI (by decide) (by decide)) dX11_turned_6 ?_
  refine wp_aload_n hb rfl dX11_turned_7 ?_
  refine wp_getR hb ko_200 lf_11_11 (by decide) m0_82 r0_82_0 dX11_turned_8 ?_
  refine wp_iconst hb (x := nI 0) rfl dX11_turned_11 ?_
  refine wp_iaload hb (q := 0) (by decide) m0_83 (vp_in_nI (by decide) (by decide)) dX11_turned_12 ?_
  refine wp_icmp_ne hb (t := 19) ⟨rfl, rfl⟩ dX11_turned_13 ⟨fun c1 => ?_, fun c1 => ?_⟩
  · have hv := hv.1 c1
    refine wp_iconst hb (x := nI 0) rfl dX11_turned_19 ?_
    refine wp_istore_n hb rfl dX11_turned_20 ?_
    exact wp_for (mm_ls_k (mm_ls_k mm_ls_nil)) hv
  · have hv := hv.2 c1
    refine wp_bipush hb (x := (-3)) rfl dX11_turned_16 ?_
    exact wp_retI hb rfl dX11_turned_18 hv
set_option maxRecDepth 100000 in
theorem v_X11_turned_21 {d sn : Nat} {v1 : Int32} {m : mm_Mem} {P : Int32 → mm_Mem → Prop} 
    (hv : ((nI 256 ≤ v1) → (mm_wp d sn kX11_turned 50 [some (.ref 82), some (.int (nI 0))] [] m (qI P))) ∧ (¬ (nI 256 ≤ v1) → (vp_in v1 256 ∧ (vp_in v1 256 ∧ (∀ m1 : mm_Mem, m1 = (mm_u2 m.1 174 v1.toNatClampNeg (vp_nar .boolean (m.1 86 v1.toNatClampNeg)), m.2) → (mm_wp d sn kX11_turned 21 [some (.ref 82), some (.int (v1 + nI 1))] [] m1 (qI P))))))) :
    mm_wp d sn kX11_turned 21 [some (.ref 82), some (.int v1)] [] m (qI P) := by
  have hb := mb_200
  refine wp_iload_n hb rfl dX11_turned_21 ?_
  refine wp_sipush hb (x := nI 256) rfl dX11_turned_22 ?_
  refine wp_icmp_ge hb (t := 48) ⟨rfl, rfl⟩ dX11_turned_25 ⟨fun c1 => ?_, fun c1 => ?_⟩
  · have hv := hv.1 c1
    refine wp_iconst hb (x := nI 0) rfl dX11_turned_48 ?_
    refine wp_istore_n hb rfl dX11_turned_49 ?_
    exact wp_for (mm_ls_k (mm_ls_k mm_ls_nil)) hv
  · have hv := hv.2 c1
    refine wp_aload_n hb rfl dX11_turned_28 ?_
    refine wp_getR hb ko_200 lf_11_49 (by decide) m0_82 r0_82_12 dX11_turned_29 ?_
    refine wp_iload_n hb rfl dX11_turned_32 ?_
    refine wp_aload_n hb rfl dX11_turned_33 ?_
    refine wp_getR hb ko_200 lf_11_20 (by decide) m0_82 r0_82_2 dX11_turned_34 ?_
    refine wp_iconst hb (x := nI 0) rfl dX11_turned_37 ?_
    refine wp_aaload hb m0_85 (by decide) (vp_in_nI (by decide) (by decide)) r0_85_0 dX11_turned_38 ?_
    refine wp_iload_n hb rfl dX11_turned_39 ?_
    obtain ⟨q2, hv⟩ := hv
    refine wp_baload hb rfl m0_86 q2 dX11_turned_40 ?_
    obtain ⟨q3, hv⟩ := hv
    refine wp_bastore hb rfl m0_174 (by decide) q3 dX11_turned_41 ?_
    have hv := hv _ rfl
    generalize (mm_u2 m.1 174 v1.toNatClampNeg (vp_nar .boolean (m.1 86 v1.toNatClampNeg)), m.2) = m1 at hv ⊢
    refine wp_iinc hb rfl (y := v1 + nI 1) rfl rfl dX11_turned_42 ?_
    refine wp_goto hb (t := 21) ⟨rfl, rfl⟩ dX11_turned_45 ?_
    exact wp_for (mm_ls_k (mm_ls_k mm_ls_nil)) hv
set_option maxRecDepth 100000 in
theorem v_X11_turned_50 {d sn : Nat} {v1 : Int32} {m : mm_Mem} {P : Int32 → mm_Mem → Prop} 
    (hv : ((nI 256 ≤ v1) → (∀ m1 : mm_Mem, m1 = (mm_u2 m.1 83 42 ((m.1 83 0) - (m.1 83 42)), m.2) → (mm_sp d sn kX11_many [.ref 86] m1 (qI fun x2 m2 => P x2 m2)))) ∧ (¬ (nI 256 ≤ v1) → (mm_sp d sn kX11_whole [.ref 82] m (qI fun x3 m3 => ((x3 < v1) → (vp_in v1 256 ∧ (∀ m4 : mm_Mem, m4 = (mm_u2 m3.1 86 v1.toNatClampNeg (vp_nar .boolean (nI 0)), m3.2) → (mm_wp d sn kX11_turned 50 [some (.ref 82), some (.int (v1 + nI 1))] [] m4 (qI P))))) ∧ (¬ (x3 < v1) → (mm_sp d sn kX11_whole [.ref 82] m3 (qI fun x6 m5 => vp_in (x6 &&& (v1 ^^^ (-1))) 256 ∧ (((m5.1 174 (x6 &&& (v1 ^^^ (-1))).toNatClampNeg = 0) → (vp_in v1 256 ∧ (∀ m6 : mm_Mem, m6 = (mm_u2 m5.1 86 v1.toNatClampNeg (vp_nar .boolean (nI 0)), m5.2) → (mm_wp d sn kX11_turned 50 [some (.ref 82), some (.int (v1 + nI 1))] [] m6 (qI P))))) ∧ (¬ (m5.1 174 (x6 &&& (v1 ^^^ (-1))).toNatClampNeg = 0) → (vp_in v1 256 ∧ (∀ m7 : mm_Mem, m7 = (mm_u2 m5.1 86 v1.toNatClampNeg (vp_nar .boolean (nI 1)), m5.2) → (mm_wp d sn kX11_turned 50 [some (.ref 82), some (.int (v1 + nI 1))] [] m7 (qI P))))))))))))) :
    mm_wp d sn kX11_turned 50 [some (.ref 82), some (.int v1)] [] m (qI P) := by
  have hb := mb_200
  refine wp_iload_n hb rfl dX11_turned_50 ?_
  refine wp_sipush hb (x := nI 256) rfl dX11_turned_51 ?_
  refine wp_icmp_ge hb (t := 100) ⟨rfl, rfl⟩ dX11_turned_54 ⟨fun c1 => ?_, fun c1 => ?_⟩
  · have hv := hv.1 c1
    refine wp_aload_n hb rfl dX11_turned_100 ?_
    refine wp_getR hb ko_200 lf_11_11 (by decide) m0_82 r0_82_0 dX11_turned_101 ?_
    refine wp_bipush hb (x := nI 42) rfl dX11_turned_104 ?_
    refine wp_aload_n hb rfl dX11_turned_106 ?_
    refine wp_getR hb ko_200 lf_11_11 (by decide) m0_82 r0_82_0 dX11_turned_107 ?_
    refine wp_iconst hb (x := nI 0) rfl dX11_turned_110 ?_
    refine wp_iaload hb (q := 0) (by decide) m0_83 (vp_in_nI (by decide) (by decide)) dX11_turned_111 ?_
    refine wp_aload_n hb rfl dX11_turned_112 ?_
    refine wp_getR hb ko_200 lf_11_11 (by decide) m0_82 r0_82_0 dX11_turned_113 ?_
    refine wp_bipush hb (x := nI 42) rfl dX11_turned_116 ?_
    refine wp_iaload hb (q := 42) (by decide) m0_83 (vp_in_nI (by decide) (by decide)) dX11_turned_118 ?_
    refine wp_isub hb dX11_turned_119 ?_
    refine wp_iastore hb (q := 42) (by decide) m0_83 (by decide) (vp_in_nI (by decide) (by decide)) dX11_turned_120 ?_
    have hv := hv _ rfl
    generalize (mm_u2 m.1 83 42 ((m.1 83 0) - (m.1 83 42)), m.2) = m1 at hv ⊢
    refine wp_aload_n hb rfl dX11_turned_121 ?_
    refine wp_getR hb ko_200 lf_11_20 (by decide) m0_82 r0_82_2 dX11_turned_122 ?_
    refine wp_iconst hb (x := nI 0) rfl dX11_turned_125 ?_
    refine wp_aaload hb m0_85 (by decide) (vp_in_nI (by decide) (by decide)) r0_85_0 dX11_turned_126 ?_
    refine wp_callS hb (k' := 191) ko_200 lm_11_170 (by decide) rfl (Nat.le_of_ble_eq_true rfl) dX11_turned_127 (sp_cI (hv.I (Nat.le_refl _) ?_))
    intro x2 m2 hv
    exact wp_retI hb rfl dX11_turned_130 hv
  · have hv := hv.2 c1
    refine wp_aload_n hb rfl dX11_turned_57 ?_
    refine wp_getR hb ko_200 lf_11_20 (by decide) m0_82 r0_82_2 dX11_turned_58 ?_
    refine wp_iconst hb (x := nI 0) rfl dX11_turned_61 ?_
    refine wp_aaload hb m0_85 (by decide) (vp_in_nI (by decide) (by decide)) r0_85_0 dX11_turned_62 ?_
    refine wp_iload_n hb rfl dX11_turned_63 ?_
    refine wp_iload_n hb rfl dX11_turned_64 ?_
    refine wp_aload_n hb rfl dX11_turned_65 ?_
    refine wp_callV hb (k' := 155) ko_200 lm_11_81 rfl m0_82 (by decide) (Nat.le_of_ble_eq_true rfl) dX11_turned_66 (sp_cI (hv.I (Nat.le_refl _) ?_))
    intro x3 m3 hv
    refine wp_icmp_gt hb (t := 92) ⟨rfl, rfl⟩ dX11_turned_69 ⟨fun c4 => ?_, fun c4 => ?_⟩
    · have hv := hv.1 c4
      refine wp_iconst hb (x := nI 0) rfl dX11_turned_92 ?_
      obtain ⟨q5, hv⟩ := hv
      refine wp_bastore hb rfl m0_86 (by decide) q5 dX11_turned_93 ?_
      have hv := hv _ rfl
      generalize (mm_u2 m3.1 86 v1.toNatClampNeg (vp_nar .boolean (nI 0)), m3.2) = m4 at hv ⊢
      refine wp_iinc hb rfl (y := v1 + nI 1) rfl rfl dX11_turned_94 ?_
      refine wp_goto hb (t := 50) ⟨rfl, rfl⟩ dX11_turned_97 ?_
      exact wp_for (mm_ls_k (mm_ls_k mm_ls_nil)) hv
    · have hv := hv.2 c4
      refine wp_aload_n hb rfl dX11_turned_72 ?_
      refine wp_getR hb ko_200 lf_11_49 (by decide) m0_82 r0_82_12 dX11_turned_73 ?_
      refine wp_aload_n hb rfl dX11_turned_76 ?_
      refine wp_callV hb (k' := 155) ko_200 lm_11_81 rfl m0_82 (by decide) (Nat.le_of_ble_eq_true rfl) dX11_turned_77 (sp_cI (hv.I (Nat.le_refl _) ?_))
      intro x6 m5 hv
      refine wp_iload_n hb rfl dX11_turned_80 ?_
      refine wp_iconst hb (x := (-1)) rfl dX11_turned_81 ?_
      refine wp_ixor hb dX11_turned_82 ?_
      refine wp_iand hb dX11_turned_83 ?_
      obtain ⟨q7, hv⟩ := hv
      refine wp_baload hb rfl m0_174 q7 dX11_turned_84 ?_
      refine wp_if_eq hb (y := 0) (t := 92) ⟨rfl, rfl⟩ dX11_turned_85 ⟨fun c8 => ?_, fun c8 => ?_⟩
      · have hv := hv.1 c8
        refine wp_iconst hb (x := nI 0) rfl dX11_turned_92 ?_
        obtain ⟨q9, hv⟩ := hv
        refine wp_bastore hb rfl m0_86 (by decide) q9 dX11_turned_93 ?_
        have hv := hv _ rfl
        generalize (mm_u2 m5.1 86 v1.toNatClampNeg (vp_nar .boolean (nI 0)), m5.2) = m6 at hv ⊢
        refine wp_iinc hb rfl (y := v1 + nI 1) rfl rfl dX11_turned_94 ?_
        refine wp_goto hb (t := 50) ⟨rfl, rfl⟩ dX11_turned_97 ?_
        exact wp_for (mm_ls_k (mm_ls_k mm_ls_nil)) hv
      · have hv := hv.2 c8
        refine wp_iconst hb (x := nI 1) rfl dX11_turned_88 ?_
        refine wp_goto hb (t := 93) ⟨rfl, rfl⟩ dX11_turned_89 ?_
        obtain ⟨q10, hv⟩ := hv
        refine wp_bastore hb rfl m0_86 (by decide) q10 dX11_turned_93 ?_
        have hv := hv _ rfl
        generalize (mm_u2 m5.1 86 v1.toNatClampNeg (vp_nar .boolean (nI 1)), m5.2) = m7 at hv ⊢
        refine wp_iinc hb rfl (y := v1 + nI 1) rfl rfl dX11_turned_94 ?_
        refine wp_goto hb (t := 50) ⟨rfl, rfl⟩ dX11_turned_97 ?_
        exact wp_for (mm_ls_k (mm_ls_k mm_ls_nil)) hv
set_option maxRecDepth 100000 in
theorem v_X11_parted {d sn : Nat} {v1 : Int32} {v2 : Int32} {m : mm_Mem} {P : Int32 → mm_Mem → Prop} 
    (hv : mm_sp d sn kX11_isPoint [.ref 82, .int v1] m (qI fun x1 m1 => ((x1 = 0) → (P (-1) m1)) ∧ (¬ (x1 = 0) → (mm_sp d sn kX11_in [.long v2.toInt64, .long (lN 0), .long (lN 2)] m1 (qI fun x3 m2 => ((¬ x3 = 0) → (mm_wp d sn kX11_parted 24 [some (.ref 82), some (.int v1), some (.int v2), some (.int (nI 0)), none] [] m2 (qI P))) ∧ (¬ (¬ x3 = 0) → (P (-1) m2))))))) :
    mm_sp (d + 1) sn kX11_parted [.ref 82, .int v1, .int v2] m (qI P) := by
  have hb := mb_201
  refine wp_in (la := [some (.ref 82), some (.int v1), some (.int v2), none, none]) ⟨⟨Nat.le_of_ble_eq_true rfl, by decide, by decide⟩, rfl⟩ ?_
  refine wp_aload_n hb rfl dX11_parted_0 ?_
  refine wp_iload_n hb rfl dX11_parted_1 ?_
  refine wp_callV hb (k' := 157) ko_201 lm_11_105 rfl m0_82 (by decide) (Nat.le_of_ble_eq_true rfl) dX11_parted_2 (sp_cI (hv.I (Nat.le_refl _) ?_))
  intro x1 m1 hv
  refine wp_if_eq hb (y := 0) (t := 20) ⟨rfl, rfl⟩ dX11_parted_5 ⟨fun c2 => ?_, fun c2 => ?_⟩
  · have hv := hv.1 c2
    refine wp_iconst hb (x := (-1)) rfl dX11_parted_20 ?_
    exact wp_retI hb rfl dX11_parted_21 hv
  · have hv := hv.2 c2
    refine wp_iload_n hb rfl dX11_parted_8 ?_
    refine wp_i2l hb dX11_parted_9 ?_
    refine wp_lconst hb (x := lN 0) rfl dX11_parted_10 ?_
    refine wp_ldc2 hb (ko_201) (kl_11_141) dX11_parted_11 ?_
    refine wp_callS hb (k' := 152) ko_201 lm_11_85 (by decide) rfl (Nat.le_of_ble_eq_true rfl) dX11_parted_14 (sp_cI (hv.I (Nat.le_refl _) ?_))
    intro x3 m2 hv
    refine wp_if_ne hb (y := 0) (t := 22) ⟨rfl, rfl⟩ dX11_parted_17 ⟨fun c4 => ?_, fun c4 => ?_⟩
    · have hv := hv.1 c4
      refine wp_iconst hb (x := nI 0) rfl dX11_parted_22 ?_
      refine wp_istore_n hb rfl dX11_parted_23 ?_
      exact wp_for (mm_ls_k (mm_ls_k (mm_ls_k (mm_ls_k (mm_ls_k mm_ls_nil))))) hv
    · have hv := hv.2 c4
      refine wp_iconst hb (x := (-1)) rfl dX11_parted_20 ?_
      exact wp_retI hb rfl dX11_parted_21 hv
set_option maxRecDepth 100000 in
theorem v_X11_parted_24 {d sn : Nat} {v1 : Int32} {v2 : Int32} {v3 : Int32} {m : mm_Mem} {P : Int32 → mm_Mem → Prop} 
    (hv : ((nI 256 ≤ v3) → (mm_sp d sn kX11_many [.ref 174] m (qI fun x2 m1 => ((¬ v2 = 0) → (((x2 = 0) → (P (-5) m1)) ∧ (¬ (x2 = 0) → (((¬ v2 = nI 2) → (mm_sp d sn kX11_whole [.ref 82] m1 (qI fun x6 m2 => ((¬ v2 = nI 1) → (mm_sp d sn kX11_strengthOf [.ref 174, .int (x6 &&& ((mm_shl (nI 1) v1) ^^^ (-1))), .int (m2.1 83 42)] m2 (qI fun x8 m3 => P x8 m3))) ∧ (¬ (¬ v2 = nI 1) → (mm_sp d sn kX11_strengthOf [.ref 174, .int (x6 &&& ((mm_shl (nI 1) v1) ^^^ (-1))), .int ((m2.1 83 42) - (nI 1))] m2 (qI fun x9 m4 => P x9 m4)))))) ∧ (¬ (¬ v2 = nI 2) → (((¬ m1.1 83 42 = m1.1 83 0) → (mm_sp d sn kX11_whole [.ref 82] m1 (qI fun x11 m5 => ((¬ v2 = nI 1) → (mm_sp d sn kX11_strengthOf [.ref 174, .int (x11 &&& ((mm_shl (nI 1) v1) ^^^ (-1))), .int (m5.1 83 42)] m5 (qI fun x13 m6 => P x13 m6))) ∧ (¬ (¬ v2 = nI 1) → (mm_sp d sn kX11_strengthOf [.ref 174, .int (x11 &&& ((mm_shl (nI 1) v1) ^^^ (-1))), .int ((m5.1 83 42) - (nI 1))] m5 (qI fun x14 m7 => P x14 m7)))))) ∧ (¬ (¬ m1.1 83 42 = m1.1 83 0) → (P (-5) m1)))))))) ∧ (¬ (¬ v2 = 0) → (P x2 m1))))) ∧ (¬ (nI 256 ≤ v3) → (((¬ (mm_shr v3 v1) &&& (nI 1) = nI 1) → (((nI 2 ≤ v2) → (vp_in v3 256 ∧ (((m.1 86 v3.toNatClampNeg = 0) → (vp_in v3 256 ∧ (∀ m8 : mm_Mem, m8 = (mm_u2 m.1 174 v3.toNatClampNeg (vp_nar .boolean (nI 0)), m.2) → (mm_wp d sn kX11_parted 24 [some (.ref 82), some (.int v1), some (.int v2), some (.int (v3 + nI 1)), none] [] m8 (qI P))))) ∧ (¬ (m.1 86 v3.toNatClampNeg = 0) → (vp_in v3 256 ∧ (∀ m9 : mm_Mem, m9 = (mm_u2 m.1 174 v3.toNatClampNeg (vp_nar .boolean (nI 1)), m.2) → (mm_wp d sn kX11_parted 24 [some (.ref 82), some (.int v1), some (.int v2), some (.int (v3 + nI 1)), none] [] m9 (qI P)))))))) ∧ (¬ (nI 2 ≤ v2) → (vp_in (v3 ||| (mm_shl (nI 1) v1)) 256 ∧ (((m.1 86 (v3 ||| (mm_shl (nI 1) v1)).toNatClampNeg = 0) → (vp_in v3 256 ∧ (∀ m10 : mm_Mem, m10 = (mm_u2 m.1 174 v3.toNatClampNeg (vp_nar .boolean (nI 0)), m.2) → (mm_wp d sn kX11_parted 24 [some (.ref 82), some (.int v1), some (.int v2), some (.int (v3 + nI 1)), none] [] m10 (qI P))))) ∧ (¬ (m.1 86 (v3 ||| (mm_shl (nI 1) v1)).toNatClampNeg = 0) → (vp_in v3 256 ∧ (∀ m11 : mm_Mem, m11 = (mm_u2 m.1 174 v3.toNatClampNeg (vp_nar .boolean (nI 1)), m.2) → (mm_wp d sn kX11_parted 24 [some (.ref 82), some (.int v1), some (.int v2), some (.int (v3 + nI 1)), none] [] m11 (qI P)))))))))) ∧ (¬ (¬ (mm_shr v3 v1) &&& (nI 1) = nI 1) → (vp_in v3 256 ∧ (∀ m12 : mm_Mem, m12 = (mm_u2 m.1 174 v3.toNatClampNeg (vp_nar .boolean (nI 0)), m.2) → (mm_wp d sn kX11_parted 24 [some (.ref 82), some (.int v1), some (.int v2), some (.int (v3 + nI 1)), none] [] m12 (qI P)))))))) :
    mm_wp d sn kX11_parted 24 [some (.ref 82), some (.int v1), some (.int v2), some (.int v3), none] [] m (qI P) := by
  have hb := mb_201
  refine wp_iload_n hb rfl dX11_parted_24 ?_
  refine wp_sipush hb (x := nI 256) rfl dX11_parted_25 ?_
  refine wp_icmp_ge hb (t := 103) ⟨rfl, rfl⟩ dX11_parted_28 ⟨fun c1 => ?_, fun c1 => ?_⟩
  · have hv := hv.1 c1
    refine wp_aload_n hb rfl dX11_parted_103 ?_
    refine wp_getR hb ko_201 lf_11_49 (by decide) m0_82 r0_82_12 dX11_parted_104 ?_
    refine wp_callS hb (k' := 191) ko_201 lm_11_170 (by decide) rfl (Nat.le_of_ble_eq_true rfl) dX11_parted_107 (sp_cI (hv.I (Nat.le_refl _) ?_))
    intro x2 m1 hv
    refine wp_istore_n hb rfl dX11_parted_110 ?_
    refine wp_iload_n hb rfl dX11_parted_111 ?_
    refine wp_if_ne hb (y := 0) (t := 117) ⟨rfl, rfl⟩ dX11_parted_112 ⟨fun c3 => ?_, fun c3 => ?_⟩
    · have hv := hv.1 c3
      refine wp_iload_n hb rfl dX11_parted_117 ?_
      refine wp_if_eq hb (y := 0) (t := 142) ⟨rfl, rfl⟩ dX11_parted_118 ⟨fun c4 => ?_, fun c4 => ?_⟩
      · have hv := hv.1 c4
        refine wp_bipush hb (x := (-5)) rfl dX11_parted_142 ?_
        exact wp_retI hb rfl dX11_parted_144 hv
      · have hv := hv.2 c4
        refine wp_iload_n hb rfl dX11_parted_121 ?_
        refine wp_iconst hb (x := nI 2) rfl dX11_parted_122 ?_
        refine wp_icmp_ne hb (t := 145) ⟨rfl, rfl⟩ dX11_parted_123 ⟨fun c5 => ?_, fun c5 => ?_⟩
        · have hv := hv.1 c5
          refine wp_aload_n hb rfl dX11_parted_145 ?_
          refine wp_getR hb ko_201 lf_11_49 (by decide) m0_82 r0_82_12 dX11_parted_146 ?_
          refine wp_aload_n hb rfl dX11_parted_149 ?_
          refine wp_callV hb (k' := 155) ko_201 lm_11_81 rfl m0_82 (by decide) (Nat.le_of_ble_eq_true rfl) dX11_parted_150 (sp_cI (hv.I (Nat.le_refl _) ?_))
          intro x6 m2 hv
          refine wp_iconst hb (x := nI 1) rfl dX11_parted_153 ?_
          refine wp_iload_n hb rfl dX11_parted_154 ?_
          refine wp_ishl hb dX11_parted_155 ?_
          refine wp_iconst hb (x := (-1)) rfl dX11_parted_156 ?_
          refine wp_ixor hb dX11_parted_157 ?_
          refine wp_iand hb dX11_parted_158 ?_
          refine wp_iload_n hb rfl dX11_parted_159 ?_
          refine wp_iconst hb (x := nI 1) rfl dX11_parted_160 ?_
          refine wp_icmp_ne hb (t := 176) ⟨rfl, rfl⟩ dX11_parted_161 ⟨fun c7 => ?_, fun c7 => ?_⟩
          · have hv := hv.1 c7
            refine wp_aload_n hb rfl dX11_parted_176 ?_
            refine wp_getR hb ko_201 lf_11_11 (by decide) m0_82 r0_82_0 dX11_parted_177 ?_
            refine wp_bipush hb (x := nI 42) rfl dX11_parted_180 ?_
            refine wp_iaload hb (q := 42) (by decide) m0_83 (vp_in_nI (by decide) (by decide)) dX11_parted_182 ?_
            refine wp_callS hb (k' := 196) ko_201 lm_11_178 (by decide) rfl (Nat.le_of_ble_eq_true rfl) dX11_parted_183 (sp_cI (hv.I (Nat.le_refl _) ?_))
            intro x8 m3 hv
            exact wp_retI hb rfl dX11_parted_186 hv
          · have hv := hv.2 c7
            refine wp_aload_n hb rfl dX11_parted_164 ?_
            refine wp_getR hb ko_201 lf_11_11 (by decide) m0_82 r0_82_0 dX11_parted_165 ?_
            refine wp_bipush hb (x := nI 42) rfl dX11_parted_168 ?_
            refine wp_iaload hb (q := 42) (by decide) m0_83 (vp_in_nI (by decide) (by decide)) dX11_parted_170 ?_
            refine wp_iconst hb (x := nI 1) rfl dX11_parted_171 ?_
            refine wp_isub hb dX11_parted_172 ?_
            refine wp_goto hb (t := 183) ⟨rfl, rfl⟩ dX11_parted_173 ?_
            refine wp_callS hb (k' := 196) ko_201 lm_11_178 (by decide) rfl (Nat.le_of_ble_eq_true rfl) dX11_parted_183 (sp_cI (hv.I (Nat.le_refl _) ?_))
            intro x9 m4 hv
            exact wp_retI hb rfl dX11_parted_186 hv
        · have hv := hv.2 c5
          refine wp_aload_n hb rfl dX11_parted_126 ?_
          refine wp_getR hb ko_201 lf_11_11 (by decide) m0_82 r0_82_0 dX11_parted_127 ?_
          refine wp_bipush hb (x := nI 42) rfl dX11_parted_130 ?_
          refine wp_iaload hb (q := 42) (by decide) m0_83 (vp_in_nI (by decide) (by decide)) dX11_parted_132 ?_
          refine wp_aload_n hb rfl dX11_parted_133 ?_
          refine wp_getR hb ko_201 lf_11_11 (by decide) m0_82 r0_82_0 dX11_parted_134 ?_
          refine wp_iconst hb (x := nI 0) rfl dX11_parted_137 ?_
          refine wp_iaload hb (q := 0) (by decide) m0_83 (vp_in_nI (by decide) (by decide)) dX11_parted_138 ?_
          refine wp_icmp_ne hb (t := 145) ⟨rfl, rfl⟩ dX11_parted_139 ⟨fun c10 => ?_, fun c10 => ?_⟩
          · have hv := hv.1 c10
            refine wp_aload_n hb rfl dX11_parted_145 ?_
            refine wp_getR hb ko_201 lf_11_49 (by decide) m0_82 r0_82_12 dX11_parted_146 ?_
            refine wp_aload_n hb rfl dX11_parted_149 ?_
            refine wp_callV hb (k' := 155) ko_201 lm_11_81 rfl m0_82 (by decide) (Nat.le_of_ble_eq_true rfl) dX11_parted_150 (sp_cI (hv.I (Nat.le_refl _) ?_))
            intro x11 m5 hv
            refine wp_iconst hb (x := nI 1) rfl dX11_parted_153 ?_
            refine wp_iload_n hb rfl dX11_parted_154 ?_
            refine wp_ishl hb dX11_parted_155 ?_
            refine wp_iconst hb (x := (-1)) rfl dX11_parted_156 ?_
            refine wp_ixor hb dX11_parted_157 ?_
            refine wp_iand hb dX11_parted_158 ?_
            refine wp_iload_n hb rfl dX11_parted_159 ?_
            refine wp_iconst hb (x := nI 1) rfl dX11_parted_160 ?_
            refine wp_icmp_ne hb (t := 176) ⟨rfl, rfl⟩ dX11_parted_161 ⟨fun c12 => ?_, fun c12 => ?_⟩
            · have hv := hv.1 c12
              refine wp_aload_n hb rfl dX11_parted_176 ?_
              refine wp_getR hb ko_201 lf_11_11 (by decide) m0_82 r0_82_0 dX11_parted_177 ?_
              refine wp_bipush hb (x := nI 42) rfl dX11_parted_180 ?_
              refine wp_iaload hb (q := 42) (by decide) m0_83 (vp_in_nI (by decide) (by decide)) dX11_parted_182 ?_
              refine wp_callS hb (k' := 196) ko_201 lm_11_178 (by decide) rfl (Nat.le_of_ble_eq_true rfl) dX11_parted_183 (sp_cI (hv.I (Nat.le_refl _) ?_))
              intro x13 m6 hv
              exact wp_retI hb rfl dX11_parted_186 hv
            · have hv := hv.2 c12
              refine wp_aload_n hb rfl dX11_parted_164 ?_
              refine wp_getR hb ko_201 lf_11_11 (by decide) m0_82 r0_82_0 dX11_parted_165 ?_
              refine wp_bipush hb (x := nI 42) rfl dX11_parted_168 ?_
              refine wp_iaload hb (q := 42) (by decide) m0_83 (vp_in_nI (by decide) (by decide)) dX11_parted_170 ?_
              refine wp_iconst hb (x := nI 1) rfl dX11_parted_171 ?_
              refine wp_isub hb dX11_parted_172 ?_
              refine wp_goto hb (t := 183) ⟨rfl, rfl⟩ dX11_parted_173 ?_
              refine wp_callS hb (k' := 196) ko_201 lm_11_178 (by decide) rfl (Nat.le_of_ble_eq_true rfl) dX11_parted_183 (sp_cI (hv.I (Nat.le_refl _) ?_))
              intro x14 m7 hv
              exact wp_retI hb rfl dX11_parted_186 hv
          · have hv := hv.2 c10
            refine wp_bipush hb (x := (-5)) rfl dX11_parted_142 ?_
            exact wp_retI hb rfl dX11_parted_144 hv
    · have hv := hv.2 c3
      refine wp_iload_n hb rfl dX11_parted_115 ?_
      exact wp_retI hb rfl dX11_parted_116 hv
  · have hv := hv.2 c1
    refine wp_iload_n hb rfl dX11_parted_31 ?_
    refine wp_iload_n hb rfl dX11_parted_32 ?_
    refine wp_ishr hb dX11_parted_33 ?_
    refine wp_iconst hb (x := nI 1) rfl dX11_parted_34 ?_
    refine wp_iand hb dX11_parted_35 ?_
    refine wp_iconst hb (x := nI 1) rfl dX11_parted_36 ?_
    refine wp_icmp_ne hb (t := 44) ⟨rfl, rfl⟩ dX11_parted_37 ⟨fun c15 => ?_, fun c15 => ?_⟩
    · have hv := hv.1 c15
      refine wp_iconst hb (x := nI 0) rfl dX11_parted_44 ?_
      refine wp_istore hb rfl dX11_parted_45 ?_
      refine wp_aload_n hb rfl dX11_parted_47 ?_
      refine wp_getR hb ko_201 lf_11_49 (by decide) m0_82 r0_82_12 dX11_parted_48 ?_
      refine wp_iload_n hb rfl dX11_parted_51 ?_
      refine wp_iload hb rfl dX11_parted_52 ?_
      refine wp_if_ne hb (y := 0) (t := 95) ⟨rfl, rfl⟩ dX11_parted_54 ⟨fun c => absurd c (by decide), fun _ => ?_⟩
      refine wp_iload_n hb rfl dX11_parted_57 ?_
      refine wp_iconst hb (x := nI 2) rfl dX11_parted_58 ?_
      refine wp_icmp_ge hb (t := 80) ⟨rfl, rfl⟩ dX11_parted_59 ⟨fun c16 => ?_, fun c16 => ?_⟩
      · have hv := hv.1 c16
        refine wp_aload_n hb rfl dX11_parted_80 ?_
        refine wp_getR hb ko_201 lf_11_20 (by decide) m0_82 r0_82_2 dX11_parted_81 ?_
        refine wp_iconst hb (x := nI 0) rfl dX11_parted_84 ?_
        refine wp_aaload hb m0_85 (by decide) (vp_in_nI (by decide) (by decide)) r0_85_0 dX11_parted_85 ?_
        refine wp_iload_n hb rfl dX11_parted_86 ?_
        obtain ⟨q17, hv⟩ := hv
        refine wp_baload hb rfl m0_86 q17 dX11_parted_87 ?_
        refine wp_if_eq hb (y := 0) (t := 95) ⟨rfl, rfl⟩ dX11_parted_88 ⟨fun c18 => ?_, fun c18 => ?_⟩
        · have hv := hv.1 c18
          refine wp_iconst hb (x := nI 0) rfl dX11_parted_95 ?_
          obtain ⟨q19, hv⟩ := hv
          refine wp_bastore hb rfl m0_174 (by decide) q19 dX11_parted_96 ?_
          have hv := hv _ rfl
          generalize (mm_u2 m.1 174 v3.toNatClampNeg (vp_nar .boolean (nI 0)), m.2) = m8 at hv ⊢
          refine wp_iinc hb rfl (y := v3 + nI 1) rfl rfl dX11_parted_97 ?_
          refine wp_goto hb (t := 24) ⟨rfl, rfl⟩ dX11_parted_100 ?_
          exact wp_for (mm_ls_k (mm_ls_k (mm_ls_k (mm_ls_k (mm_ls_f mm_ls_nil))))) hv
        · have hv := hv.2 c18
          refine wp_iconst hb (x := nI 1) rfl dX11_parted_91 ?_
          refine wp_goto hb (t := 96) ⟨rfl, rfl⟩ dX11_parted_92 ?_
          obtain ⟨q20, hv⟩ := hv
          refine wp_bastore hb rfl m0_174 (by decide) q20 dX11_parted_96 ?_
          have hv := hv _ rfl
          generalize (mm_u2 m.1 174 v3.toNatClampNeg (vp_nar .boolean (nI 1)), m.2) = m9 at hv ⊢
          refine wp_iinc hb rfl (y := v3 + nI 1) rfl rfl dX11_parted_97 ?_
          refine wp_goto hb (t := 24) ⟨rfl, rfl⟩ dX11_parted_100 ?_
          exact wp_for (mm_ls_k (mm_ls_k (mm_ls_k (mm_ls_k (mm_ls_f mm_ls_nil))))) hv
      · have hv := hv.2 c16
        refine wp_aload_n hb rfl dX11_parted_62 ?_
        refine wp_getR hb ko_201 lf_11_20 (by decide) m0_82 r0_82_2 dX11_parted_63 ?_
        refine wp_iconst hb (x := nI 0) rfl dX11_parted_66 ?_
        refine wp_aaload hb m0_85 (by decide) (vp_in_nI (by decide) (by decide)) r0_85_0 dX11_parted_67 ?_
        refine wp_iload_n hb rfl dX11_parted_68 ?_
        refine wp_iconst hb (x := nI 1) rfl dX11_parted_69 ?_
        refine wp_iload_n hb rfl dX11_parted_70 ?_
        refine wp_ishl hb dX11_parted_71 ?_
        refine wp_ior hb dX11_parted_72 ?_
        obtain ⟨q21, hv⟩ := hv
        refine wp_baload hb rfl m0_86 q21 dX11_parted_73 ?_
        refine wp_if_eq hb (y := 0) (t := 95) ⟨rfl, rfl⟩ dX11_parted_74 ⟨fun c22 => ?_, fun c22 => ?_⟩
        · have hv := hv.1 c22
          refine wp_iconst hb (x := nI 0) rfl dX11_parted_95 ?_
          obtain ⟨q23, hv⟩ := hv
          refine wp_bastore hb rfl m0_174 (by decide) q23 dX11_parted_96 ?_
          have hv := hv _ rfl
          generalize (mm_u2 m.1 174 v3.toNatClampNeg (vp_nar .boolean (nI 0)), m.2) = m10 at hv ⊢
          refine wp_iinc hb rfl (y := v3 + nI 1) rfl rfl dX11_parted_97 ?_
          refine wp_goto hb (t := 24) ⟨rfl, rfl⟩ dX11_parted_100 ?_
          exact wp_for (mm_ls_k (mm_ls_k (mm_ls_k (mm_ls_k (mm_ls_f mm_ls_nil))))) hv
        · have hv := hv.2 c22
          refine wp_goto hb (t := 91) ⟨rfl, rfl⟩ dX11_parted_77 ?_
          refine wp_iconst hb (x := nI 1) rfl dX11_parted_91 ?_
          refine wp_goto hb (t := 96) ⟨rfl, rfl⟩ dX11_parted_92 ?_
          obtain ⟨q24, hv⟩ := hv
          refine wp_bastore hb rfl m0_174 (by decide) q24 dX11_parted_96 ?_
          have hv := hv _ rfl
          generalize (mm_u2 m.1 174 v3.toNatClampNeg (vp_nar .boolean (nI 1)), m.2) = m11 at hv ⊢
          refine wp_iinc hb rfl (y := v3 + nI 1) rfl rfl dX11_parted_97 ?_
          refine wp_goto hb (t := 24) ⟨rfl, rfl⟩ dX11_parted_100 ?_
          exact wp_for (mm_ls_k (mm_ls_k (mm_ls_k (mm_ls_k (mm_ls_f mm_ls_nil))))) hv
    · have hv := hv.2 c15
      refine wp_iconst hb (x := nI 1) rfl dX11_parted_40 ?_
      refine wp_goto hb (t := 45) ⟨rfl, rfl⟩ dX11_parted_41 ?_
      refine wp_istore hb rfl dX11_parted_45 ?_
      refine wp_aload_n hb rfl dX11_parted_47 ?_
      refine wp_getR hb ko_201 lf_11_49 (by decide) m0_82 r0_82_12 dX11_parted_48 ?_
      refine wp_iload_n hb rfl dX11_parted_51 ?_
      refine wp_iload hb rfl dX11_parted_52 ?_
      refine wp_if_ne hb (y := 0) (t := 95) ⟨rfl, rfl⟩ dX11_parted_54 ⟨fun _ => ?_, fun c => absurd (by decide) c⟩
      refine wp_iconst hb (x := nI 0) rfl dX11_parted_95 ?_
      obtain ⟨q25, hv⟩ := hv
      refine wp_bastore hb rfl m0_174 (by decide) q25 dX11_parted_96 ?_
      have hv := hv _ rfl
      generalize (mm_u2 m.1 174 v3.toNatClampNeg (vp_nar .boolean (nI 0)), m.2) = m12 at hv ⊢
      refine wp_iinc hb rfl (y := v3 + nI 1) rfl rfl dX11_parted_97 ?_
      refine wp_goto hb (t := 24) ⟨rfl, rfl⟩ dX11_parted_100 ?_
      exact wp_for (mm_ls_k (mm_ls_k (mm_ls_k (mm_ls_k (mm_ls_f mm_ls_nil))))) hv
set_option maxRecDepth 100000 in
theorem v_X11_keep {d sn : Nat} {m : mm_Mem} {P : Int32 → mm_Mem → Prop} 
    (hv : ((¬ m.1 83 43 = nI 4) → (vp_in ((nI 44) + (m.1 83 43)) 48 ∧ (∀ m1 : mm_Mem, m1 = (mm_u2 m.1 83 ((nI 44) + (m.1 83 43)).toNatClampNeg (m.1 83 42), m.2) → (mm_wp d sn kX11_keep 40 [some (.ref 82), some (.int (m.1 83 43)), some (.int (nI 0))] [] m1 (qI P))))) ∧ (¬ (¬ m.1 83 43 = nI 4) → (P (-4) m))) :
    mm_sp (d + 1) sn kX11_keep [.ref 82] m (qI P) := by
  have hb := mb_202
  refine wp_in (la := [some (.ref 82), none, none]) ⟨⟨Nat.le_of_ble_eq_true rfl, by decide, by decide⟩, rfl⟩ ?_
  refine wp_aload_n hb rfl dX11_keep_0 ?_
  refine wp_getR hb ko_202 lf_11_11 (by decide) m0_82 r0_82_0 dX11_keep_1 ?_
  refine wp_bipush hb (x := nI 43) rfl dX11_keep_4 ?_
  refine wp_iaload hb (q := 43) (by decide) m0_83 (vp_in_nI (by decide) (by decide)) dX11_keep_6 ?_
  refine wp_iconst hb (x := nI 4) rfl dX11_keep_7 ?_
  refine wp_icmp_ne hb (t := 14) ⟨rfl, rfl⟩ dX11_keep_8 ⟨fun c1 => ?_, fun c1 => ?_⟩
  · have hv := hv.1 c1
    refine wp_aload_n hb rfl dX11_keep_14 ?_
    refine wp_getR hb ko_202 lf_11_11 (by decide) m0_82 r0_82_0 dX11_keep_15 ?_
    refine wp_bipush hb (x := nI 43) rfl dX11_keep_18 ?_
    refine wp_iaload hb (q := 43) (by decide) m0_83 (vp_in_nI (by decide) (by decide)) dX11_keep_20 ?_
    refine wp_istore_n hb rfl dX11_keep_21 ?_
    refine wp_aload_n hb rfl dX11_keep_22 ?_
    refine wp_getR hb ko_202 lf_11_11 (by decide) m0_82 r0_82_0 dX11_keep_23 ?_
    refine wp_bipush hb (x := nI 44) rfl dX11_keep_26 ?_
    refine wp_iload_n hb rfl dX11_keep_28 ?_
    refine wp_iadd hb dX11_keep_29 ?_
    refine wp_aload_n hb rfl dX11_keep_30 ?_
    refine wp_getR hb ko_202 lf_11_11 (by decide) m0_82 r0_82_0 dX11_keep_31 ?_
    refine wp_bipush hb (x := nI 42) rfl dX11_keep_34 ?_
    refine wp_iaload hb (q := 42) (by decide) m0_83 (vp_in_nI (by decide) (by decide)) dX11_keep_36 ?_
    obtain ⟨q2, hv⟩ := hv
    refine wp_iastore hb rfl m0_83 (by decide) q2 dX11_keep_37 ?_
    have hv := hv _ rfl
    generalize (mm_u2 m.1 83 ((nI 44) + (m.1 83 43)).toNatClampNeg (m.1 83 42), m.2) = m1 at hv ⊢
    refine wp_iconst hb (x := nI 0) rfl dX11_keep_38 ?_
    refine wp_istore_n hb rfl dX11_keep_39 ?_
    exact wp_for (mm_ls_k (mm_ls_k (mm_ls_k mm_ls_nil))) hv
  · have hv := hv.2 c1
    refine wp_bipush hb (x := (-4)) rfl dX11_keep_11 ?_
    exact wp_retI hb rfl dX11_keep_13 hv
set_option maxRecDepth 100000 in
theorem v_X11_keep_40 {d sn : Nat} {v1 : Int32} {v2 : Int32} {m : mm_Mem} {P : Int32 → mm_Mem → Prop} 
    (hv : ((nI 256 ≤ v2) → (∀ m1 : mm_Mem, m1 = (mm_u2 m.1 83 43 ((m.1 83 43) + (nI 1)), m.2) → (P v1 m1))) ∧ (¬ (nI 256 ≤ v2) → (∃ i2 : Nat, i2 < 5 ∧ (nI 1) + v1 = nI i2 ∧ (vp_in v2 256 ∧ (vp_in v2 256 ∧ (∀ m2 : mm_Mem, m2 = (mm_u2 m.1 (86 + i2) v2.toNatClampNeg (vp_nar .boolean (m.1 86 v2.toNatClampNeg)), m.2) → (mm_wp d sn kX11_keep 40 [some (.ref 82), some (.int v1), some (.int (v2 + nI 1))] [] m2 (qI P)))))))) :
    mm_wp d sn kX11_keep 40 [some (.ref 82), some (.int v1), some (.int v2)] [] m (qI P) := by
  have hb := mb_202
  refine wp_iload_n hb rfl dX11_keep_40 ?_
  refine wp_sipush hb (x := nI 256) rfl dX11_keep_41 ?_
  refine wp_icmp_ge hb (t := 71) ⟨rfl, rfl⟩ dX11_keep_44 ⟨fun c1 => ?_, fun c1 => ?_⟩
  · have hv := hv.1 c1
    refine wp_aload_n hb rfl dX11_keep_71 ?_
    refine wp_getR hb ko_202 lf_11_11 (by decide) m0_82 r0_82_0 dX11_keep_72 ?_
    refine wp_bipush hb (x := nI 43) rfl dX11_keep_75 ?_
    refine wp_dup2 hb dX11_keep_77 ?_
    refine wp_iaload hb (q := 43) (by decide) m0_83 (vp_in_nI (by decide) (by decide)) dX11_keep_78 ?_
    refine wp_iconst hb (x := nI 1) rfl dX11_keep_79 ?_
    refine wp_iadd hb dX11_keep_80 ?_
    refine wp_iastore hb (q := 43) (by decide) m0_83 (by decide) (vp_in_nI (by decide) (by decide)) dX11_keep_81 ?_
    have hv := hv _ rfl
    generalize (mm_u2 m.1 83 43 ((m.1 83 43) + (nI 1)), m.2) = m1 at hv ⊢
    refine wp_iload_n hb rfl dX11_keep_82 ?_
    exact wp_retI hb rfl dX11_keep_83 hv
  · have hv := hv.2 c1
    refine wp_aload_n hb rfl dX11_keep_47 ?_
    refine wp_getR hb ko_202 lf_11_20 (by decide) m0_82 r0_82_2 dX11_keep_48 ?_
    refine wp_iconst hb (x := nI 1) rfl dX11_keep_51 ?_
    refine wp_iload_n hb rfl dX11_keep_52 ?_
    refine wp_iadd hb dX11_keep_53 ?_
    obtain ⟨i2, hi2, hx2, hv⟩ := hv
    refine wp_aaload hb m0_85 (by decide) (mm_inx hx2 hi2 (by decide)) (mm_rx hx2 (by omega) (shQ_85.2 _ hi2).1) dX11_keep_54 ?_
    refine wp_iload_n hb rfl dX11_keep_55 ?_
    refine wp_aload_n hb rfl dX11_keep_56 ?_
    refine wp_getR hb ko_202 lf_11_20 (by decide) m0_82 r0_82_2 dX11_keep_57 ?_
    refine wp_iconst hb (x := nI 0) rfl dX11_keep_60 ?_
    refine wp_aaload hb m0_85 (by decide) (vp_in_nI (by decide) (by decide)) r0_85_0 dX11_keep_61 ?_
    refine wp_iload_n hb rfl dX11_keep_62 ?_
    obtain ⟨q3, hv⟩ := hv
    refine wp_baload hb rfl m0_86 q3 dX11_keep_63 ?_
    obtain ⟨q4, hv⟩ := hv
    refine wp_bastore hb rfl ((shQ_85.2 _ hi2).2.2 _) (shQ_85.2 _ hi2).2.1 q4 dX11_keep_64 ?_
    have hv := hv _ rfl
    generalize (mm_u2 m.1 (86 + i2) v2.toNatClampNeg (vp_nar .boolean (m.1 86 v2.toNatClampNeg)), m.2) = m2 at hv ⊢
    refine wp_iinc hb rfl (y := v2 + nI 1) rfl rfl dX11_keep_65 ?_
    refine wp_goto hb (t := 40) ⟨rfl, rfl⟩ dX11_keep_68 ?_
    exact wp_for (mm_ls_k (mm_ls_k (mm_ls_k mm_ls_nil))) hv
set_option maxRecDepth 100000 in
theorem v_X11_isDesign {d sn : Nat} {v1 : Int32} {m : mm_Mem} {P : Int32 → mm_Mem → Prop} 
    (hv : mm_sp d sn kX11_in [.long v1.toInt64, .long (lN 0), .long (((m.1 83 43) - (nI 1)).toInt64)] m (qI fun x1 m1 => (x1 = 0 ∨ x1 = 1) ∧ P x1 m1)) :
    mm_sp (d + 1) sn kX11_isDesign [.ref 82, .int v1] m (qI P) := by
  have hb := mb_203
  refine wp_in (la := [some (.ref 82), some (.int v1)]) ⟨⟨Nat.le_of_ble_eq_true rfl, by decide, by decide⟩, rfl⟩ ?_
  refine wp_iload_n hb rfl dX11_isDesign_0 ?_
  refine wp_i2l hb dX11_isDesign_1 ?_
  refine wp_lconst hb (x := lN 0) rfl dX11_isDesign_2 ?_
  refine wp_aload_n hb rfl dX11_isDesign_3 ?_
  refine wp_getR hb ko_203 lf_11_11 (by decide) m0_82 r0_82_0 dX11_isDesign_4 ?_
  refine wp_bipush hb (x := nI 43) rfl dX11_isDesign_7 ?_
  refine wp_iaload hb (q := 43) (by decide) m0_83 (vp_in_nI (by decide) (by decide)) dX11_isDesign_9 ?_
  refine wp_iconst hb (x := nI 1) rfl dX11_isDesign_10 ?_
  refine wp_isub hb dX11_isDesign_11 ?_
  refine wp_i2l hb dX11_isDesign_12 ?_
  refine wp_callS hb (k' := 152) ko_203 lm_11_85 (by decide) rfl (Nat.le_of_ble_eq_true rfl) dX11_isDesign_13 (sp_cI (hv.I (Nat.le_refl _) ?_))
  intro x1 m1 hv
  exact wp_retZ hb rfl hv.1 dX11_isDesign_16 hv.2
set_option maxRecDepth 100000 in
theorem v_X11_design {d sn : Nat} {v1 : Int32} {v2 : Int32} {m : mm_Mem} {P : Int32 → mm_Mem → Prop} 
    (hv : mm_sp d sn kX11_isDesign [.ref 82, .int v1] m (qI fun x1 m1 => ((x1 = 0) → (P (-1) m1)) ∧ (¬ (x1 = 0) → (mm_sp d sn kX11_in [.long v2.toInt64, .long (lN 0), .long (lN 1)] m1 (qI fun x3 m2 => ((¬ x3 = 0) → (((¬ v2 = 0) → (∃ i6 : Nat, i6 < 5 ∧ (nI 1) + v1 = nI i6 ∧ (mm_sp d sn kX11_many [.ref (86 + i6)] m2 (qI fun x7 m3 => P x7 m3)))) ∧ (¬ (¬ v2 = 0) → (vp_in ((nI 44) + v1) 48 ∧ (P (m2.1 83 ((nI 44) + v1).toNatClampNeg) m2))))) ∧ (¬ (¬ x3 = 0) → (P (-1) m2))))))) :
    mm_sp (d + 1) sn kX11_design [.ref 82, .int v1, .int v2] m (qI P) := by
  have hb := mb_204
  refine wp_in (la := [some (.ref 82), some (.int v1), some (.int v2)]) ⟨⟨Nat.le_of_ble_eq_true rfl, by decide, by decide⟩, rfl⟩ ?_
  refine wp_aload_n hb rfl dX11_design_0 ?_
  refine wp_iload_n hb rfl dX11_design_1 ?_
  refine wp_callV hb (k' := 203) ko_204 lm_11_181 rfl m0_82 (by decide) (Nat.le_of_ble_eq_true rfl) dX11_design_2 (sp_cI (hv.I (Nat.le_refl _) ?_))
  intro x1 m1 hv
  refine wp_if_eq hb (y := 0) (t := 18) ⟨rfl, rfl⟩ dX11_design_5 ⟨fun c2 => ?_, fun c2 => ?_⟩
  · have hv := hv.1 c2
    refine wp_iconst hb (x := (-1)) rfl dX11_design_18 ?_
    exact wp_retI hb rfl dX11_design_19 hv
  · have hv := hv.2 c2
    refine wp_iload_n hb rfl dX11_design_8 ?_
    refine wp_i2l hb dX11_design_9 ?_
    refine wp_lconst hb (x := lN 0) rfl dX11_design_10 ?_
    refine wp_lconst hb (x := lN 1) rfl dX11_design_11 ?_
    refine wp_callS hb (k' := 152) ko_204 lm_11_85 (by decide) rfl (Nat.le_of_ble_eq_true rfl) dX11_design_12 (sp_cI (hv.I (Nat.le_refl _) ?_))
    intro x3 m2 hv
    refine wp_if_ne hb (y := 0) (t := 20) ⟨rfl, rfl⟩ dX11_design_15 ⟨fun c4 => ?_, fun c4 => ?_⟩
    · have hv := hv.1 c4
      refine wp_iload_n hb rfl dX11_design_20 ?_
      refine wp_if_ne hb (y := 0) (t := 36) ⟨rfl, rfl⟩ dX11_design_21 ⟨fun c5 => ?_, fun c5 => ?_⟩
      · have hv := hv.1 c5
        refine wp_aload_n hb rfl dX11_design_36 ?_
        refine wp_getR hb ko_204 lf_11_20 (by decide) m0_82 r0_82_2 dX11_design_37 ?_
        refine wp_iconst hb (x := nI 1) rfl dX11_design_40 ?_
        refine wp_iload_n hb rfl dX11_design_41 ?_
        refine wp_iadd hb dX11_design_42 ?_
        obtain ⟨i6, hi6, hx6, hv⟩ := hv
        refine wp_aaload hb m0_85 (by decide) (mm_inx hx6 hi6 (by decide)) (mm_rx hx6 (by omega) (shQ_85.2 _ hi6).1) dX11_design_43 ?_
        refine wp_callS hb (k' := 191) ko_204 lm_11_170 (by decide) rfl (Nat.le_of_ble_eq_true rfl) dX11_design_44 (sp_cI (hv.I (Nat.le_refl _) ?_))
        intro x7 m3 hv
        exact wp_retI hb rfl dX11_design_47 hv
      · have hv := hv.2 c5
        refine wp_aload_n hb rfl dX11_design_24 ?_
        refine wp_getR hb ko_204 lf_11_11 (by decide) m0_82 r0_82_0 dX11_design_25 ?_
        refine wp_bipush hb (x := nI 44) rfl dX11_design_28 ?_
        refine wp_iload_n hb rfl dX11_design_30 ?_
        refine wp_iadd hb dX11_design_31 ?_
        obtain ⟨q8, hv⟩ := hv
        refine wp_iaload hb rfl m0_83 q8 dX11_design_32 ?_
        refine wp_goto hb (t := 47) ⟨rfl, rfl⟩ dX11_design_33 ?_
        exact wp_retI hb rfl dX11_design_47 hv
    · have hv := hv.2 c4
      refine wp_iconst hb (x := (-1)) rfl dX11_design_18 ?_
      exact wp_retI hb rfl dX11_design_19 hv
set_option maxRecDepth 100000 in
theorem v_X11_lined {d sn : Nat} {v1 : Int32} {m : mm_Mem} {P : Int32 → mm_Mem → Prop} 
    (hv : mm_wp d sn kX11_lined 4 [some (.ref 82), some (.int v1), some (.int (nI 0)), some (.int (nI 0))] [] m (qI P)) :
    mm_sp (d + 1) sn kX11_lined [.ref 82, .int v1] m (qI P) := by
  have hb := mb_205
  refine wp_in (la := [some (.ref 82), some (.int v1), none, none]) ⟨⟨Nat.le_of_ble_eq_true rfl, by decide, by decide⟩, rfl⟩ ?_
  refine wp_iconst hb (x := nI 0) rfl dX11_lined_0 ?_
  refine wp_istore_n hb rfl dX11_lined_1 ?_
  refine wp_iconst hb (x := nI 0) rfl dX11_lined_2 ?_
  refine wp_istore_n hb rfl dX11_lined_3 ?_
  exact wp_for (mm_ls_k (mm_ls_k (mm_ls_k (mm_ls_k mm_ls_nil)))) hv
set_option maxRecDepth 100000 in
theorem v_X11_lined_4 {d sn : Nat} {v1 : Int32} {v2 : Int32} {v3 : Int32} {m : mm_Mem} {P : Int32 → mm_Mem → Prop} 
    (hv : ((m.1 83 0 ≤ v3) → (P v2 m)) ∧ (¬ (m.1 83 0 ≤ v3) → (vp_in v3 8 ∧ (mm_wp d sn kX11_lined 4 [some (.ref 82), some (.int v1), some (.int (v2 ||| (mm_shl ((mm_shr v1 v3) &&& (nI 1)) (m.1 175 v3.toNatClampNeg)))), some (.int (v3 + nI 1))] [] m (qI P))))) :
    mm_wp d sn kX11_lined 4 [some (.ref 82), some (.int v1), some (.int v2), some (.int v3)] [] m (qI P) := by
  have hb := mb_205
  refine wp_iload_n hb rfl dX11_lined_4 ?_
  refine wp_aload_n hb rfl dX11_lined_5 ?_
  refine wp_getR hb ko_205 lf_11_11 (by decide) m0_82 r0_82_0 dX11_lined_6 ?_
  refine wp_iconst hb (x := nI 0) rfl dX11_lined_9 ?_
  refine wp_iaload hb (q := 0) (by decide) m0_83 (vp_in_nI (by decide) (by decide)) dX11_lined_10 ?_
  refine wp_icmp_ge hb (t := 35) ⟨rfl, rfl⟩ dX11_lined_11 ⟨fun c1 => ?_, fun c1 => ?_⟩
  · have hv := hv.1 c1
    refine wp_iload_n hb rfl dX11_lined_35 ?_
    exact wp_retI hb rfl dX11_lined_36 hv
  · have hv := hv.2 c1
    refine wp_iload_n hb rfl dX11_lined_14 ?_
    refine wp_iload_n hb rfl dX11_lined_15 ?_
    refine wp_iload_n hb rfl dX11_lined_16 ?_
    refine wp_ishr hb dX11_lined_17 ?_
    refine wp_iconst hb (x := nI 1) rfl dX11_lined_18 ?_
    refine wp_iand hb dX11_lined_19 ?_
    refine wp_aload_n hb rfl dX11_lined_20 ?_
    refine wp_getR hb ko_205 lf_11_53 (by decide) m0_82 r0_82_13 dX11_lined_21 ?_
    refine wp_iload_n hb rfl dX11_lined_24 ?_
    obtain ⟨q2, hv⟩ := hv
    refine wp_iaload hb rfl m0_175 q2 dX11_lined_25 ?_
    refine wp_ishl hb dX11_lined_26 ?_
    refine wp_ior hb dX11_lined_27 ?_
    refine wp_istore_n hb rfl dX11_lined_28 ?_
    refine wp_iinc hb rfl (y := v3 + nI 1) rfl rfl dX11_lined_29 ?_
    refine wp_goto hb (t := 4) ⟨rfl, rfl⟩ dX11_lined_32 ?_
    exact wp_for (mm_ls_k (mm_ls_k (mm_ls_k (mm_ls_k mm_ls_nil)))) hv
