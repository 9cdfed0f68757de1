set_option maxRecDepth 100000 in
theorem v_X1_load {d sn : Nat} {v2 : Int32} {v3 : Int32} {m : mm_Mem} {P : mm_Mem → Prop} (hd : 1 ≤ d) 
    (hv : mm_sp d sn kX5_amountOf [.ref 59, .int v2] m (qI fun x1 m1 => ∀ m2 : mm_Mem, m2 = (mm_u2 m1.1 66 6 (if nI 70 < x1 then nI 70 else x1), m1.2) → (mm_sp d sn kX5_amountOf [.ref 59, .int v3] m2 (qI fun x2 m3 => ∀ m4 : mm_Mem, m4 = (mm_u2 m3.1 66 7 (if nI 14 < x2 then nI 14 else x2), m3.2) → (mm_sp d sn kJ7_fill_53178 [.ref 67, .int (nI 0)] m4 (qV fun m5 => mm_sp d sn kJ7_fill_53178 [.ref 68, .int (nI 0)] m5 (qV fun m6 => mm_wp d sn kX1_load 47 [some (.ref 66), some (.ref 59), some (.int v2), some (.int v3), some (.int (nI 0))] [] m6 (qV P)))))))) :
    mm_sp (d + 1) sn kX1_load [.ref 66, .ref 59, .int v2, .int v3] m (qV P) := by
  have hb := mb_16
  refine wp_in (la := [some (.ref 66), some (.ref 59), some (.int v2), some (.int v3), none]) ⟨⟨Nat.le_of_ble_eq_true rfl, by decide, by decide⟩, rfl⟩ ?_
  refine wp_aload_n hb rfl dX1_load_0 ?_
  refine wp_aload_n hb rfl dX1_load_1 ?_
  refine wp_iload_n hb rfl dX1_load_2 ?_
  refine wp_callV hb (k' := 51) ko_16 lm_1_30 rfl m0_59 (by decide) (Nat.le_of_ble_eq_true rfl) dX1_load_3 (sp_cI (hv.I (Nat.le_refl _) ?_))
  intro x1 m1 hv
  refine wp_bipush hb (x := nI 70) rfl dX1_load_6 ?_
  refine wp_min hb ko_16 lm_1_36 (Nat.le_of_ble_eq_true rfl) (by omega) dX1_load_8 ?_
  refine wp_putI hb ko_16 lf_1_42 (by decide) m0_66 dX1_load_11 ?_
  have hv := hv _ rfl
  generalize (mm_u2 m1.1 66 6 (if nI 70 < x1 then nI 70 else x1), m1.2) = m2 at hv ⊢
  refine wp_aload_n hb rfl dX1_load_14 ?_
  refine wp_aload_n hb rfl dX1_load_15 ?_
  refine wp_iload_n hb rfl dX1_load_16 ?_
  refine wp_callV hb (k' := 51) ko_16 lm_1_30 rfl m0_59 (by decide) (Nat.le_of_ble_eq_true rfl) dX1_load_17 (sp_cI (hv.I (Nat.le_refl _) ?_))
  intro x2 m3 hv
  refine wp_bipush hb (x := nI 14) rfl dX1_load_20 ?_
  refine wp_min hb ko_16 lm_1_36 (Nat.le_of_ble_eq_true rfl) (by omega) dX1_load_22 ?_
  refine wp_putI hb ko_16 lf_1_46 (by decide) m0_66 dX1_load_25 ?_
  have hv := hv _ rfl
  generalize (mm_u2 m3.1 66 7 (if nI 14 < x2 then nI 14 else x2), m3.2) = m4 at hv ⊢
  refine wp_aload_n hb rfl dX1_load_28 ?_
  refine wp_getR hb ko_16 lf_1_9 (by decide) m0_66 r0_66_0 dX1_load_29 ?_
  refine wp_iconst hb (x := nI 0) rfl dX1_load_32 ?_
  refine wp_callS hb (k' := 231) ko_16 lm_1_49 (by decide) rfl (Nat.le_of_ble_eq_true rfl) dX1_load_33 (sp_cV (hv.V (Nat.le_refl _) ?_))
  intro m5 hv
  refine wp_aload_n hb rfl dX1_load_36 ?_
  refine wp_getR hb ko_16 lf_1_15 (by decide) m0_66 r0_66_1 dX1_load_37 ?_
  refine wp_iconst hb (x := nI 0) rfl dX1_load_40 ?_
  refine wp_callS hb (k' := 231) ko_16 lm_1_49 (by decide) rfl (Nat.le_of_ble_eq_true rfl) dX1_load_41 (sp_cV (hv.V (Nat.le_refl _) ?_))
  intro m6 hv
  refine wp_iconst hb (x := nI 0) rfl dX1_load_44 ?_
  refine wp_istore hb rfl dX1_load_45 ?_
  exact wp_for (mm_ls_k (mm_ls_k (mm_ls_k (mm_ls_k (mm_ls_k mm_ls_nil))))) hv
set_option maxRecDepth 100000 in
theorem v_X1_load_47 {d sn : Nat} {v2 : Int32} {v3 : Int32} {v4 : Int32} {m : mm_Mem} {P : mm_Mem → Prop} 
    (hv : ((m.1 66 7 ≤ v4) → (mm_wp d sn kX1_load 89 [some (.ref 66), some (.ref 59), some (.int v2), some (.int v3), some (.int (nI 0))] [] m (qV P))) ∧ (¬ (m.1 66 7 ≤ v4) → (((nI 14 ≤ v4) → (mm_wp d sn kX1_load 89 [some (.ref 66), some (.ref 59), some (.int v2), some (.int v3), some (.int (nI 0))] [] m (qV P))) ∧ (¬ (nI 14 ≤ v4) → (mm_sp d sn kX5_setsIn [.ref 59, .int v3, .int v4] m (qI fun x3 m1 => vp_in v4 14 ∧ (∀ m2 : mm_Mem, m2 = (mm_u2 m1.1 71 v4.toNatClampNeg x3, m1.2) → (mm_wp d sn kX1_load 47 [some (.ref 66), some (.ref 59), some (.int v2), some (.int v3), some (.int (v4 + nI 1))] [] m2 (qV P))))))))) :
    mm_wp d sn kX1_load 47 [some (.ref 66), some (.ref 59), some (.int v2), some (.int v3), some (.int v4)] [] m (qV P) := by
  have hb := mb_16
  refine wp_iload hb rfl dX1_load_47 ?_
  refine wp_aload_n hb rfl dX1_load_49 ?_
  refine wp_getI hb ko_16 lf_1_46 (by decide) m0_66 dX1_load_50 ?_
  refine wp_icmp_ge hb (t := 86) ⟨rfl, rfl⟩ dX1_load_53 ⟨fun c1 => ?_, fun c1 => ?_⟩
  · have hv := hv.1 c1
    refine wp_iconst hb (x := nI 0) rfl dX1_load_86 ?_
    refine wp_istore hb rfl dX1_load_87 ?_
    exact wp_for (mm_ls_k (mm_ls_k (mm_ls_k (mm_ls_k (mm_ls_k mm_ls_nil))))) hv
  · have hv := hv.2 c1
    refine wp_iload hb rfl dX1_load_56 ?_
    refine wp_aload_n hb rfl dX1_load_58 ?_
    refine wp_getR hb ko_16 lf_1_24 (by decide) m0_66 r0_66_4 dX1_load_59 ?_
    refine wp_alen hb (x := nI 14) m0_71 (by decide) rfl dX1_load_62 ?_
    refine wp_icmp_ge hb (t := 86) ⟨rfl, rfl⟩ dX1_load_63 ⟨fun c2 => ?_, fun c2 => ?_⟩
    · have hv := hv.1 c2
      refine wp_iconst hb (x := nI 0) rfl dX1_load_86 ?_
      refine wp_istore hb rfl dX1_load_87 ?_
      exact wp_for (mm_ls_k (mm_ls_k (mm_ls_k (mm_ls_k (mm_ls_k mm_ls_nil))))) hv
    · have hv := hv.2 c2
      refine wp_aload_n hb rfl dX1_load_66 ?_
      refine wp_getR hb ko_16 lf_1_24 (by decide) m0_66 r0_66_4 dX1_load_67 ?_
      refine wp_iload hb rfl dX1_load_70 ?_
      refine wp_aload_n hb rfl dX1_load_72 ?_
      refine wp_iload_n hb rfl dX1_load_73 ?_
      refine wp_iload hb rfl dX1_load_74 ?_
      refine wp_callV hb (k' := 57) ko_16 lm_1_55 rfl m0_59 (by decide) (Nat.le_of_ble_eq_true rfl) dX1_load_76 (sp_cI (hv.I (Nat.le_refl _) ?_))
      intro x3 m1 hv
      obtain ⟨q4, hv⟩ := hv
      refine wp_iastore hb rfl m0_71 (by decide) q4 dX1_load_79 ?_
      have hv := hv _ rfl
      generalize (mm_u2 m1.1 71 v4.toNatClampNeg x3, m1.2) = m2 at hv ⊢
      refine wp_iinc hb rfl (y := v4 + nI 1) rfl rfl dX1_load_80 ?_
      refine wp_goto hb (t := 47) ⟨rfl, rfl⟩ dX1_load_83 ?_
      exact wp_for (mm_ls_k (mm_ls_k (mm_ls_k (mm_ls_k (mm_ls_k mm_ls_nil))))) hv
set_option maxRecDepth 100000 in
theorem v_X1_load_89 {d sn : Nat} {v2 : Int32} {v3 : Int32} {v4 : Int32} {m : mm_Mem} {P : mm_Mem → Prop} 
    (hv : ((m.1 66 6 ≤ v4) → (P m)) ∧ (¬ (m.1 66 6 ≤ v4) → (mm_sp d sn kX5_setAt [.ref 59, .int v2, .int v4, .int (nI 0)] m (qI fun x2 m1 => mm_sp d sn kX1_loadRow [.ref 66, .ref 59, .int v3, .int v4, .int x2] m1 (qV fun m2 => mm_wp d sn kX1_load 89 [some (.ref 66), some (.ref 59), some (.int v2), some (.int v3), some (.int (v4 + nI 1))] [] m2 (qV P)))))) :
    mm_wp d sn kX1_load 89 [some (.ref 66), some (.ref 59), some (.int v2), some (.int v3), some (.int v4)] [] m (qV P) := by
  have hb := mb_16
  refine wp_iload hb rfl dX1_load_89 ?_
  refine wp_aload_n hb rfl dX1_load_91 ?_
  refine wp_getI hb ko_16 lf_1_42 (by decide) m0_66 dX1_load_92 ?_
  refine wp_icmp_ge hb (t := 120) ⟨rfl, rfl⟩ dX1_load_95 ⟨fun c1 => ?_, fun c1 => ?_⟩
  · have hv := hv.1 c1
    exact wp_retV hb rfl dX1_load_120 hv
  · have hv := hv.2 c1
    refine wp_aload_n hb rfl dX1_load_98 ?_
    refine wp_aload_n hb rfl dX1_load_99 ?_
    refine wp_iload_n hb rfl dX1_load_100 ?_
    refine wp_iload hb rfl dX1_load_101 ?_
    refine wp_aload_n hb rfl dX1_load_103 ?_
    refine wp_iload_n hb rfl dX1_load_104 ?_
    refine wp_iload hb rfl dX1_load_105 ?_
    refine wp_iconst hb (x := nI 0) rfl dX1_load_107 ?_
    refine wp_callV hb (k' := 55) ko_16 lm_1_58 rfl m0_59 (by decide) (Nat.le_of_ble_eq_true rfl) dX1_load_108 (sp_cI (hv.I (Nat.le_refl _) ?_))
    intro x2 m1 hv
    refine wp_callV hb (k' := 17) ko_16 lm_1_62 rfl m0_66 (by decide) (Nat.le_of_ble_eq_true rfl) dX1_load_111 (sp_cV (hv.V (Nat.le_refl _) ?_))
    intro m2 hv
    refine wp_iinc hb rfl (y := v4 + nI 1) rfl rfl dX1_load_114 ?_
    refine wp_goto hb (t := 89) ⟨rfl, rfl⟩ dX1_load_117 ?_
    exact wp_for (mm_ls_k (mm_ls_k (mm_ls_k (mm_ls_k (mm_ls_k mm_ls_nil))))) hv
set_option maxRecDepth 100000 in
theorem v_X1_loadRow {d sn : Nat} {v2 : Int32} {v3 : Int32} {v4 : Int32} {m : mm_Mem} {P : mm_Mem → Prop} 
    (hv : mm_wp d sn kX1_loadRow 3 [some (.ref 66), some (.ref 59), some (.int v2), some (.int v3), some (.int v4), some (.int (nI 0))] [] m (qV P)) :
    mm_sp (d + 1) sn kX1_loadRow [.ref 66, .ref 59, .int v2, .int v3, .int v4] m (qV P) := by
  have hb := mb_17
  refine wp_in (la := [some (.ref 66), some (.ref 59), some (.int v2), some (.int v3), some (.int v4), none]) ⟨⟨Nat.le_of_ble_eq_true rfl, by decide, by decide⟩, rfl⟩ ?_
  refine wp_iconst hb (x := nI 0) rfl dX1_loadRow_0 ?_
  refine wp_istore hb rfl dX1_loadRow_1 ?_
  exact wp_for (mm_ls_k (mm_ls_k (mm_ls_k (mm_ls_k (mm_ls_k (mm_ls_k mm_ls_nil)))))) hv
set_option maxRecDepth 100000 in
theorem v_X1_loadRow_3 {d sn : Nat} {v2 : Int32} {v3 : Int32} {v4 : Int32} {v5 : Int32} {m : mm_Mem} {P : mm_Mem → Prop} 
    (hv : ((nI 256 ≤ v5) → (P m)) ∧ (¬ (nI 256 ≤ v5) → (((¬ v5 &&& v4 = v4) → (mm_wp d sn kX1_loadRow 3 [some (.ref 66), some (.ref 59), some (.int v2), some (.int v3), some (.int v4), some (.int (v5 + nI 1))] [] m (qV P))) ∧ (¬ (¬ v5 &&& v4 = v4) → (mm_sp d sn kJ6_bitCount_0f7a4 [.int v5] m (qI fun x3 m1 => ((¬ x3 = v2) → (mm_wp d sn kX1_loadRow 3 [some (.ref 66), some (.ref 59), some (.int v2), some (.int v3), some (.int v4), some (.int (v5 + nI 1))] [] m1 (qV P))) ∧ (¬ (¬ x3 = v2) → (mm_sp d sn kX5_numberOf [.ref 59, .int v5] m1 (qI fun x5 m2 => mm_sp d sn kX1_countSet [.ref 66, .int v3, .int x5] m2 (qV fun m3 => mm_wp d sn kX1_loadRow 3 [some (.ref 66), some (.ref 59), some (.int v2), some (.int v3), some (.int v4), some (.int (v5 + nI 1))] [] m3 (qV P))))))))))) :
    mm_wp d sn kX1_loadRow 3 [some (.ref 66), some (.ref 59), some (.int v2), some (.int v3), some (.int v4), some (.int v5)] [] m (qV P) := by
  have hb := mb_17
  refine wp_iload hb rfl dX1_loadRow_3 ?_
  refine wp_sipush hb (x := nI 256) rfl dX1_loadRow_5 ?_
  refine wp_icmp_ge hb (t := 47) ⟨rfl, rfl⟩ dX1_loadRow_8 ⟨fun c1 => ?_, fun c1 => ?_⟩
  · have hv := hv.1 c1
    exact wp_retV hb rfl dX1_loadRow_47 hv
  · have hv := hv.2 c1
    refine wp_iload hb rfl dX1_loadRow_11 ?_
    refine wp_iload hb rfl dX1_loadRow_13 ?_
    refine wp_iand hb dX1_loadRow_15 ?_
    refine wp_iload hb rfl dX1_loadRow_16 ?_
    refine wp_icmp_ne hb (t := 41) ⟨rfl, rfl⟩ dX1_loadRow_18 ⟨fun c2 => ?_, fun c2 => ?_⟩
    · have hv := hv.1 c2
      refine wp_iinc hb rfl (y := v5 + nI 1) rfl rfl dX1_loadRow_41 ?_
      refine wp_goto hb (t := 3) ⟨rfl, rfl⟩ dX1_loadRow_44 ?_
      exact wp_for (mm_ls_k (mm_ls_k (mm_ls_k (mm_ls_k (mm_ls_k (mm_ls_k mm_ls_nil)))))) hv
    · have hv := hv.2 c2
      refine wp_iload hb rfl dX1_loadRow_21 ?_
      refine wp_callS hb (k' := 227) ko_17 lm_1_66 (by decide) rfl (Nat.le_of_ble_eq_true rfl) dX1_loadRow_23 (sp_cI (hv.I (Nat.le_refl _) ?_))
      intro x3 m1 hv
      refine wp_iload_n hb rfl dX1_loadRow_26 ?_
      refine wp_icmp_ne hb (t := 41) ⟨rfl, rfl⟩ dX1_loadRow_27 ⟨fun c4 => ?_, fun c4 => ?_⟩
      · have hv := hv.1 c4
        refine wp_iinc hb rfl (y := v5 + nI 1) rfl rfl dX1_loadRow_41 ?_
        refine wp_goto hb (t := 3) ⟨rfl, rfl⟩ dX1_loadRow_44 ?_
        exact wp_for (mm_ls_k (mm_ls_k (mm_ls_k (mm_ls_k (mm_ls_k (mm_ls_k mm_ls_nil)))))) hv
      · have hv := hv.2 c4
        refine wp_aload_n hb rfl dX1_loadRow_30 ?_
        refine wp_iload_n hb rfl dX1_loadRow_31 ?_
        refine wp_aload_n hb rfl dX1_loadRow_32 ?_
        refine wp_iload hb rfl dX1_loadRow_33 ?_
        refine wp_callV hb (k' := 53) ko_17 lm_1_71 rfl m0_59 (by decide) (Nat.le_of_ble_eq_true rfl) dX1_loadRow_35 (sp_cI (hv.I (Nat.le_refl _) ?_))
        intro x5 m2 hv
        refine wp_callV hb (k' := 18) ko_17 lm_1_74 rfl m0_66 (by decide) (Nat.le_of_ble_eq_true rfl) dX1_loadRow_38 (sp_cV (hv.V (Nat.le_refl _) ?_))
        intro m3 hv
        refine wp_iinc hb rfl (y := v5 + nI 1) rfl rfl dX1_loadRow_41 ?_
        refine wp_goto hb (t := 3) ⟨rfl, rfl⟩ dX1_loadRow_44 ?_
        exact wp_for (mm_ls_k (mm_ls_k (mm_ls_k (mm_ls_k (mm_ls_k (mm_ls_k mm_ls_nil)))))) hv
set_option maxRecDepth 100000 in
theorem v_X1_countSet {d sn : Nat} {v1 : Int32} {v2 : Int32} {m : mm_Mem} {P : mm_Mem → Prop} 
    (hv : ((v1 < 0) → (P m)) ∧ (¬ (v1 < 0) → (((nI 70 ≤ v1) → (P m)) ∧ (¬ (nI 70 ≤ v1) → (((v2 < 0) → (P m)) ∧ (¬ (v2 < 0) → (((v2 < m.1 66 7) → (((nI 980 ≤ (v1 * (nI 14)) + v2) → (vp_in v1 70 ∧ (vp_in v1 70 ∧ (∀ m1 : mm_Mem, m1 = (mm_u2 m.1 68 v1.toNatClampNeg ((m.1 68 v1.toNatClampNeg) ||| (mm_shl (nI 1) v2)), m.2) → (P m1))))) ∧ (¬ (nI 980 ≤ (v1 * (nI 14)) + v2) → (vp_in ((v1 * (nI 14)) + v2) 980 ∧ (vp_in ((v1 * (nI 14)) + v2) 980 ∧ (∀ m2 : mm_Mem, m2 = (mm_u2 m.1 67 ((v1 * (nI 14)) + v2).toNatClampNeg ((m.1 67 ((v1 * (nI 14)) + v2).toNatClampNeg) + (nI 1)), m.2) → (vp_in v1 70 ∧ (vp_in v1 70 ∧ (∀ m3 : mm_Mem, m3 = (mm_u2 m2.1 68 v1.toNatClampNeg ((m2.1 68 v1.toNatClampNeg) ||| (mm_shl (nI 1) v2)), m2.2) → (P m3)))))))))) ∧ (¬ (v2 < m.1 66 7) → (P m))))))))) :
    mm_sp (d + 1) sn kX1_countSet [.ref 66, .int v1, .int v2] m (qV P) := by
  have hb := mb_18
  refine wp_in (la := [some (.ref 66), some (.int v1), some (.int v2), none]) ⟨⟨Nat.le_of_ble_eq_true rfl, by decide, by decide⟩, rfl⟩ ?_
  refine wp_iload_n hb rfl dX1_countSet_0 ?_
  refine wp_if_lt hb (y := 0) (t := 25) ⟨rfl, rfl⟩ dX1_countSet_1 ⟨fun c1 => ?_, fun c1 => ?_⟩
  · have hv := hv.1 c1
    exact wp_retV hb rfl dX1_countSet_25 hv
  · have hv := hv.2 c1
    refine wp_iload_n hb rfl dX1_countSet_4 ?_
    refine wp_aload_n hb rfl dX1_countSet_5 ?_
    refine wp_getR hb ko_18 lf_1_15 (by decide) m0_66 r0_66_1 dX1_countSet_6 ?_
    refine wp_alen hb (x := nI 70) m0_68 (by decide) rfl dX1_countSet_9 ?_
    refine wp_icmp_ge hb (t := 25) ⟨rfl, rfl⟩ dX1_countSet_10 ⟨fun c2 => ?_, fun c2 => ?_⟩
    · have hv := hv.1 c2
      exact wp_retV hb rfl dX1_countSet_25 hv
    · have hv := hv.2 c2
      refine wp_iload_n hb rfl dX1_countSet_13 ?_
      refine wp_if_lt hb (y := 0) (t := 25) ⟨rfl, rfl⟩ dX1_countSet_14 ⟨fun c3 => ?_, fun c3 => ?_⟩
      · have hv := hv.1 c3
        exact wp_retV hb rfl dX1_countSet_25 hv
      · have hv := hv.2 c3
        refine wp_iload_n hb rfl dX1_countSet_17 ?_
        refine wp_aload_n hb rfl dX1_countSet_18 ?_
        refine wp_getI hb ko_18 lf_1_46 (by decide) m0_66 dX1_countSet_19 ?_
        refine wp_icmp_lt hb (t := 26) ⟨rfl, rfl⟩ dX1_countSet_22 ⟨fun c4 => ?_, fun c4 => ?_⟩
        · have hv := hv.1 c4
          refine wp_iload_n hb rfl dX1_countSet_26 ?_
          refine wp_bipush hb (x := nI 14) rfl dX1_countSet_27 ?_
          refine wp_imul hb dX1_countSet_29 ?_
          refine wp_iload_n hb rfl dX1_countSet_30 ?_
          refine wp_iadd hb dX1_countSet_31 ?_
          refine wp_istore_n hb rfl dX1_countSet_32 ?_
          refine wp_iload_n hb rfl dX1_countSet_33 ?_
          refine wp_aload_n hb rfl dX1_countSet_34 ?_
          refine wp_getR hb ko_18 lf_1_9 (by decide) m0_66 r0_66_0 dX1_countSet_35 ?_
          refine wp_alen hb (x := nI 980) m0_67 (by decide) rfl dX1_countSet_38 ?_
          refine wp_icmp_ge hb (t := 52) ⟨rfl, rfl⟩ dX1_countSet_39 ⟨fun c5 => ?_, fun c5 => ?_⟩
          · have hv := hv.1 c5
            refine wp_aload_n hb rfl dX1_countSet_52 ?_
            refine wp_getR hb ko_18 lf_1_15 (by decide) m0_66 r0_66_1 dX1_countSet_53 ?_
            refine wp_iload_n hb rfl dX1_countSet_56 ?_
            refine wp_dup2 hb dX1_countSet_57 ?_
            obtain ⟨q6, hv⟩ := hv
            refine wp_iaload hb rfl m0_68 q6 dX1_countSet_58 ?_
            refine wp_iconst hb (x := nI 1) rfl dX1_countSet_59 ?_
            refine wp_iload_n hb rfl dX1_countSet_60 ?_
            refine wp_ishl hb dX1_countSet_61 ?_
            refine wp_ior hb dX1_countSet_62 ?_
            obtain ⟨q7, hv⟩ := hv
            refine wp_iastore hb rfl m0_68 (by decide) q7 dX1_countSet_63 ?_
            have hv := hv _ rfl
            generalize (mm_u2 m.1 68 v1.toNatClampNeg ((m.1 68 v1.toNatClampNeg) ||| (mm_shl (nI 1) v2)), m.2) = m1 at hv ⊢
            exact wp_retV hb rfl dX1_countSet_64 hv
          · have hv := hv.2 c5
            refine wp_aload_n hb rfl dX1_countSet_42 ?_
            refine wp_getR hb ko_18 lf_1_9 (by decide) m0_66 r0_66_0 dX1_countSet_43 ?_
            refine wp_iload_n hb rfl dX1_countSet_46 ?_
            refine wp_dup2 hb dX1_countSet_47 ?_
            obtain ⟨q8, hv⟩ := hv
            refine wp_iaload hb rfl m0_67 q8 dX1_countSet_48 ?_
            refine wp_iconst hb (x := nI 1) rfl dX1_countSet_49 ?_
            refine wp_iadd hb dX1_countSet_50 ?_
            obtain ⟨q9, hv⟩ := hv
            refine wp_iastore hb rfl m0_67 (by decide) q9 dX1_countSet_51 ?_
            have hv := hv _ rfl
            generalize (mm_u2 m.1 67 ((v1 * (nI 14)) + v2).toNatClampNeg ((m.1 67 ((v1 * (nI 14)) + v2).toNatClampNeg) + (nI 1)), m.2) = m2 at hv ⊢
            refine wp_aload_n hb rfl dX1_countSet_52 ?_
            refine wp_getR hb ko_18 lf_1_15 (by decide) m0_66 r0_66_1 dX1_countSet_53 ?_
            refine wp_iload_n hb rfl dX1_countSet_56 ?_
            refine wp_dup2 hb dX1_countSet_57 ?_
            obtain ⟨q10, hv⟩ := hv
            refine wp_iaload hb rfl m0_68 q10 dX1_countSet_58 ?_
            refine wp_iconst hb (x := nI 1) rfl dX1_countSet_59 ?_
            refine wp_iload_n hb rfl dX1_countSet_60 ?_
            refine wp_ishl hb dX1_countSet_61 ?_
            refine wp_ior hb dX1_countSet_62 ?_
            obtain ⟨q11, hv⟩ := hv
            refine wp_iastore hb rfl m0_68 (by decide) q11 dX1_countSet_63 ?_
            have hv := hv _ rfl
            generalize (mm_u2 m2.1 68 v1.toNatClampNeg ((m2.1 68 v1.toNatClampNeg) ||| (mm_shl (nI 1) v2)), m2.2) = m3 at hv ⊢
            exact wp_retV hb rfl dX1_countSet_64 hv
        · have hv := hv.2 c4
          exact wp_retV hb rfl dX1_countSet_25 hv
set_option maxRecDepth 100000 in
theorem v_X1_numberAt {d sn : Nat} {v1 : Int32} {v2 : Int32} {m : mm_Mem} {P : Int32 → mm_Mem → Prop} 
    (hv : (((v1 * (nI 14)) + v2 < 0) → (P (nI 0) m)) ∧ (¬ ((v1 * (nI 14)) + v2 < 0) → (((nI 980 ≤ (v1 * (nI 14)) + v2) → (P (nI 0) m)) ∧ (¬ (nI 980 ≤ (v1 * (nI 14)) + v2) → (vp_in ((v1 * (nI 14)) + v2) 980 ∧ (P (m.1 67 ((v1 * (nI 14)) + v2).toNatClampNeg) m)))))) :
    mm_sp (d + 1) sn kX1_numberAt [.ref 66, .int v1, .int v2] m (qI P) := by
  have hb := mb_19
  refine wp_in (la := [some (.ref 66), some (.int v1), some (.int v2), none]) ⟨⟨Nat.le_of_ble_eq_true rfl, by decide, by decide⟩, rfl⟩ ?_
  refine wp_iload_n hb rfl dX1_numberAt_0 ?_
  refine wp_bipush hb (x := nI 14) rfl dX1_numberAt_1 ?_
  refine wp_imul hb dX1_numberAt_3 ?_
  refine wp_iload_n hb rfl dX1_numberAt_4 ?_
  refine wp_iadd hb dX1_numberAt_5 ?_
  refine wp_istore_n hb rfl dX1_numberAt_6 ?_
  refine wp_iload_n hb rfl dX1_numberAt_7 ?_
  refine wp_if_lt hb (y := 0) (t := 29) ⟨rfl, rfl⟩ dX1_numberAt_8 ⟨fun c1 => ?_, fun c1 => ?_⟩
  · have hv := hv.1 c1
    refine wp_iconst hb (x := nI 0) rfl dX1_numberAt_29 ?_
    exact wp_retI hb rfl dX1_numberAt_30 hv
  · have hv := hv.2 c1
    refine wp_iload_n hb rfl dX1_numberAt_11 ?_
    refine wp_aload_n hb rfl dX1_numberAt_12 ?_
    refine wp_getR hb ko_19 lf_1_9 (by decide) m0_66 r0_66_0 dX1_numberAt_13 ?_
    refine wp_alen hb (x := nI 980) m0_67 (by decide) rfl dX1_numberAt_16 ?_
    refine wp_icmp_ge hb (t := 29) ⟨rfl, rfl⟩ dX1_numberAt_17 ⟨fun c2 => ?_, fun c2 => ?_⟩
    · have hv := hv.1 c2
      refine wp_iconst hb (x := nI 0) rfl dX1_numberAt_29 ?_
      exact wp_retI hb rfl dX1_numberAt_30 hv
    · have hv := hv.2 c2
      refine wp_aload_n hb rfl dX1_numberAt_20 ?_
      refine wp_getR hb ko_19 lf_1_9 (by decide) m0_66 r0_66_0 dX1_numberAt_21 ?_
      refine wp_iload_n hb rfl dX1_numberAt_24 ?_
      obtain ⟨q3, hv⟩ := hv
      refine wp_iaload hb rfl m0_67 q3 dX1_numberAt_25 ?_
      refine wp_goto hb (t := 30) ⟨rfl, rfl⟩ dX1_numberAt_26 ?_
      exact wp_retI hb rfl dX1_numberAt_30 hv
set_option maxRecDepth 100000 in
theorem v_X1_solve {d sn : Nat} {v1 : Int32} {v2 : Int32} {m : mm_Mem} {P : mm_Mem → Prop} 
    (hv : ∀ m1 : mm_Mem, m1 = (mm_u2 m.1 66 8 v2, m.2) → (∀ m2 : mm_Mem, m2 = (mm_u2 m1.1 66 9 (nI 0), m1.2) → (∀ m3 : mm_Mem, m3 = (mm_u2 m2.1 66 11 (-5), m2.2) → (mm_wp d sn kX1_solve 18 [some (.ref 66), some (.int v1), none, some (.int (nI 0)), none] [] m3 (qV P))))) :
    mm_sp (d + 1) sn kX1_solve [.ref 66, .int v1, .int v2] m (qV P) := by
  have hb := mb_20
  refine wp_in (la := [some (.ref 66), some (.int v1), some (.int v2), none, none]) ⟨⟨Nat.le_of_ble_eq_true rfl, by decide, by decide⟩, rfl⟩ ?_
  refine wp_aload_n hb rfl dX1_solve_0 ?_
  refine wp_iload_n hb rfl dX1_solve_1 ?_
  refine wp_putI hb ko_20 lf_1_78 (by decide) m0_66 dX1_solve_2 ?_
  have hv := hv _ rfl
  generalize (mm_u2 m.1 66 8 v2, m.2) = m1 at hv ⊢
  refine wp_aload_n hb rfl dX1_solve_5 ?_
  refine wp_iconst hb (x := nI 0) rfl dX1_solve_6 ?_
  refine wp_putI hb ko_20 lf_1_81 (by decide) m0_66 dX1_solve_7 ?_
  have hv := hv _ rfl
  generalize (mm_u2 m1.1 66 9 (nI 0), m1.2) = m2 at hv ⊢
  refine wp_aload_n hb rfl dX1_solve_10 ?_
  refine wp_bipush hb (x := (-5)) rfl dX1_solve_11 ?_
  refine wp_putI hb ko_20 lf_1_84 (by decide) m0_66 dX1_solve_13 ?_
  have hv := hv _ rfl
  generalize (mm_u2 m2.1 66 11 (-5), m2.2) = m3 at hv ⊢
  refine wp_iconst hb (x := nI 0) rfl dX1_solve_16 ?_
  refine wp_istore_n hb rfl dX1_solve_17 ?_
  exact wp_for (mm_ls_k (mm_ls_k (mm_ls_f (mm_ls_k (mm_ls_k mm_ls_nil))))) hv
set_option maxRecDepth 100000 in
theorem v_X1_solve_18 {d sn : Nat} {v1 : Int32} {v3 : Int32} {m : mm_Mem} {P : mm_Mem → Prop} 
    (hv : ((m.1 66 6 ≤ v3) → (mm_sp d sn kX1_searchSolutions [.ref 66, .int ((m.1 66 7) - (nI 1)), .int (nI 0)] m (qV fun m1 => P m1))) ∧ (¬ (m.1 66 6 ≤ v3) → (((nI 70 ≤ v3) → (mm_sp d sn kX1_searchSolutions [.ref 66, .int ((m.1 66 7) - (nI 1)), .int (nI 0)] m (qV fun m2 => P m2))) ∧ (¬ (nI 70 ≤ v3) → (((nI 70 ≤ v3) → (mm_sp d sn kX1_searchSolutions [.ref 66, .int ((m.1 66 7) - (nI 1)), .int (nI 0)] m (qV fun m3 => P m3))) ∧ (¬ (nI 70 ≤ v3) → (vp_in v3 70 ∧ (∀ m4 : mm_Mem, m4 = (mm_u2 m.1 69 v3.toNatClampNeg v1, m.2) → (vp_in v3 70 ∧ (∀ m5 : mm_Mem, m5 = (mm_u2 m4.1 70 v3.toNatClampNeg (nI 0), m4.2) → (mm_wp d sn kX1_solve 61 [some (.ref 66), some (.int v1), none, some (.int v3), some (.int (nI 0))] [] m5 (qV P)))))))))))) :
    mm_wp d sn kX1_solve 18 [some (.ref 66), some (.int v1), none, some (.int v3), none] [] m (qV P) := by
  have hb := mb_20
  refine wp_iload_n hb rfl dX1_solve_18 ?_
  refine wp_aload_n hb rfl dX1_solve_19 ?_
  refine wp_getI hb ko_20 lf_1_42 (by decide) m0_66 dX1_solve_20 ?_
  refine wp_icmp_ge hb (t := 98) ⟨rfl, rfl⟩ dX1_solve_23 ⟨fun c1 => ?_, fun c1 => ?_⟩
  · have hv := hv.1 c1
    refine wp_aload_n hb rfl dX1_solve_98 ?_
    refine wp_aload_n hb rfl dX1_solve_99 ?_
    refine wp_getI hb ko_20 lf_1_46 (by decide) m0_66 dX1_solve_100 ?_
    refine wp_iconst hb (x := nI 1) rfl dX1_solve_103 ?_
    refine wp_isub hb dX1_solve_104 ?_
    refine wp_iconst hb (x := nI 0) rfl dX1_solve_105 ?_
    refine wp_callV hb (k' := 21) ko_20 lm_1_90 rfl m0_66 (by decide) (Nat.le_of_ble_eq_true rfl) dX1_solve_106 (sp_cV (hv.V (Nat.le_refl _) ?_))
    intro m1 hv
    exact wp_retV hb rfl dX1_solve_109 hv
  · have hv := hv.2 c1
    refine wp_iload_n hb rfl dX1_solve_26 ?_
    refine wp_aload_n hb rfl dX1_solve_27 ?_
    refine wp_getR hb ko_20 lf_1_18 (by decide) m0_66 r0_66_2 dX1_solve_28 ?_
    refine wp_alen hb (x := nI 70) m0_69 (by decide) rfl dX1_solve_31 ?_
    refine wp_icmp_ge hb (t := 98) ⟨rfl, rfl⟩ dX1_solve_32 ⟨fun c3 => ?_, fun c3 => ?_⟩
    · have hv := hv.1 c3
      refine wp_aload_n hb rfl dX1_solve_98 ?_
      refine wp_aload_n hb rfl dX1_solve_99 ?_
      refine wp_getI hb ko_20 lf_1_46 (by decide) m0_66 dX1_solve_100 ?_
      refine wp_iconst hb (x := nI 1) rfl dX1_solve_103 ?_
      refine wp_isub hb dX1_solve_104 ?_
      refine wp_iconst hb (x := nI 0) rfl dX1_solve_105 ?_
      refine wp_callV hb (k' := 21) ko_20 lm_1_90 rfl m0_66 (by decide) (Nat.le_of_ble_eq_true rfl) dX1_solve_106 (sp_cV (hv.V (Nat.le_refl _) ?_))
      intro m2 hv
      exact wp_retV hb rfl dX1_solve_109 hv
    · have hv := hv.2 c3
      refine wp_iload_n hb rfl dX1_solve_35 ?_
      refine wp_aload_n hb rfl dX1_solve_36 ?_
      refine wp_getR hb ko_20 lf_1_21 (by decide) m0_66 r0_66_3 dX1_solve_37 ?_
      refine wp_alen hb (x := nI 70) m0_70 (by decide) rfl dX1_solve_40 ?_
      refine wp_icmp_ge hb (t := 98) ⟨rfl, rfl⟩ dX1_solve_41 ⟨fun c5 => ?_, fun c5 => ?_⟩
      · have hv := hv.1 c5
        refine wp_aload_n hb rfl dX1_solve_98 ?_
        refine wp_aload_n hb rfl dX1_solve_99 ?_
        refine wp_getI hb ko_20 lf_1_46 (by decide) m0_66 dX1_solve_100 ?_
        refine wp_iconst hb (x := nI 1) rfl dX1_solve_103 ?_
        refine wp_isub hb dX1_solve_104 ?_
        refine wp_iconst hb (x := nI 0) rfl dX1_solve_105 ?_
        refine wp_callV hb (k' := 21) ko_20 lm_1_90 rfl m0_66 (by decide) (Nat.le_of_ble_eq_true rfl) dX1_solve_106 (sp_cV (hv.V (Nat.le_refl _) ?_))
        intro m3 hv
        exact wp_retV hb rfl dX1_solve_109 hv
      · have hv := hv.2 c5
        refine wp_aload_n hb rfl dX1_solve_44 ?_
        refine wp_getR hb ko_20 lf_1_18 (by decide) m0_66 r0_66_2 dX1_solve_45 ?_
        refine wp_iload_n hb rfl dX1_solve_48 ?_
        refine wp_iload_n hb rfl dX1_solve_49 ?_
        obtain ⟨q7, hv⟩ := hv
        refine wp_iastore hb rfl m0_69 (by decide) q7 dX1_solve_50 ?_
        have hv := hv _ rfl
        generalize (mm_u2 m.1 69 v3.toNatClampNeg v1, m.2) = m4 at hv ⊢
        refine wp_aload_n hb rfl dX1_solve_51 ?_
        refine wp_getR hb ko_20 lf_1_21 (by decide) m0_66 r0_66_3 dX1_solve_52 ?_
        refine wp_iload_n hb rfl dX1_solve_55 ?_
        refine wp_iconst hb (x := nI 0) rfl dX1_solve_56 ?_
        obtain ⟨q8, hv⟩ := hv
        refine wp_iastore hb rfl m0_70 (by decide) q8 dX1_solve_57 ?_
        have hv := hv _ rfl
        generalize (mm_u2 m4.1 70 v3.toNatClampNeg (nI 0), m4.2) = m5 at hv ⊢
        refine wp_iconst hb (x := nI 0) rfl dX1_solve_58 ?_
        refine wp_istore hb rfl dX1_solve_59 ?_
        exact wp_for (mm_ls_k (mm_ls_k (mm_ls_k (mm_ls_k (mm_ls_k mm_ls_nil))))) hv
set_option maxRecDepth 100000 in
theorem v_X1_solve_61 {d sn : Nat} {v1 : Int32} {v3 : Int32} {v4 : Int32} {m : mm_Mem} {P : mm_Mem → Prop} 
    (hv : ((m.1 66 7 ≤ v4) → (mm_wp d sn kX1_solve 18 [some (.ref 66), some (.int v1), none, some (.int (v3 + nI 1)), none] [] m (qV P))) ∧ (¬ (m.1 66 7 ≤ v4) → (vp_in v3 70 ∧ (mm_sp d sn kX1_numberAt [.ref 66, .int v3, .int v4] m (qI fun x3 m1 => vp_in v3 70 ∧ (∀ m2 : mm_Mem, m2 = (mm_u2 m1.1 70 v3.toNatClampNeg ((m.1 70 v3.toNatClampNeg) + x3), m1.2) → (mm_wp d sn kX1_solve 61 [some (.ref 66), some (.int v1), none, some (.int v3), some (.int (v4 + nI 1))] [] m2 (qV P)))))))) :
    mm_wp d sn kX1_solve 61 [some (.ref 66), some (.int v1), none, some (.int v3), some (.int v4)] [] m (qV P) := by
  have hb := mb_20
  refine wp_iload hb rfl dX1_solve_61 ?_
  refine wp_aload_n hb rfl dX1_solve_63 ?_
  refine wp_getI hb ko_20 lf_1_46 (by decide) m0_66 dX1_solve_64 ?_
  refine wp_icmp_ge hb (t := 92) ⟨rfl, rfl⟩ dX1_solve_67 ⟨fun c1 => ?_, fun c1 => ?_⟩
  · have hv := hv.1 c1
    refine wp_iinc hb rfl (y := v3 + nI 1) rfl rfl dX1_solve_92 ?_
    refine wp_goto hb (t := 18) ⟨rfl, rfl⟩ dX1_solve_95 ?_
    exact wp_for (mm_ls_k (mm_ls_k (mm_ls_k (mm_ls_k (mm_ls_f mm_ls_nil))))) hv
  · have hv := hv.2 c1
    refine wp_aload_n hb rfl dX1_solve_70 ?_
    refine wp_getR hb ko_20 lf_1_21 (by decide) m0_66 r0_66_3 dX1_solve_71 ?_
    refine wp_iload_n hb rfl dX1_solve_74 ?_
    refine wp_dup2 hb dX1_solve_75 ?_
    obtain ⟨q2, hv⟩ := hv
    refine wp_iaload hb rfl m0_70 q2 dX1_solve_76 ?_
    refine wp_aload_n hb rfl dX1_solve_77 ?_
    refine wp_iload_n hb rfl dX1_solve_78 ?_
    refine wp_iload hb rfl dX1_solve_79 ?_
    refine wp_callV hb (k' := 19) ko_20 lm_1_87 rfl m0_66 (by decide) (Nat.le_of_ble_eq_true rfl) dX1_solve_81 (sp_cI (hv.I (Nat.le_refl _) ?_))
    intro x3 m1 hv
    refine wp_iadd hb dX1_solve_84 ?_
    obtain ⟨q4, hv⟩ := hv
    refine wp_iastore hb rfl m0_70 (by decide) q4 dX1_solve_85 ?_
    have hv := hv _ rfl
    generalize (mm_u2 m1.1 70 v3.toNatClampNeg ((m.1 70 v3.toNatClampNeg) + x3), m1.2) = m2 at hv ⊢
    refine wp_iinc hb rfl (y := v4 + nI 1) rfl rfl dX1_solve_86 ?_
    refine wp_goto hb (t := 61) ⟨rfl, rfl⟩ dX1_solve_89 ?_
    exact wp_for (mm_ls_k (mm_ls_k (mm_ls_k (mm_ls_k (mm_ls_k mm_ls_nil))))) hv
set_option maxRecDepth 100000 in
theorem v_X1_searchSolutions {d sn : Nat} {v1 : Int32} {v2 : Int32} {m : mm_Mem} {P : mm_Mem → Prop} 
    (hv : ((v1 < nI 14) → (((0 ≤ v1) → (mm_sp d sn kX1_change [.ref 66, .int v1, .int (nI 0), .int (-1)] m (qV fun m1 => mm_sp d sn kX1_canSolve [.ref 66] m1 (qI fun x4 m2 => ((x4 = 0) → (mm_sp d sn kX1_change [.ref 66, .int v1, .int (-1), .int (nI 0)] m2 (qV fun m3 => mm_sp d sn kX1_canSolve [.ref 66] m3 (qI fun x7 m4 => ((x7 = 0) → (mm_sp d sn kX1_change [.ref 66, .int v1, .int (nI 1), .int (nI 1)] m4 (qV fun m5 => P m5))) ∧ (¬ (x7 = 0) → (mm_sp d sn kX1_searchSolutions [.ref 66, .int (v1 - (nI 1)), .int (v2 ||| (mm_shl (nI 1) v1))] m4 (qV fun m6 => mm_sp d sn kX1_change [.ref 66, .int v1, .int (nI 1), .int (nI 1)] m6 (qV fun m7 => P m7)))))))) ∧ (¬ (x4 = 0) → (mm_sp d sn kX1_searchSolutions [.ref 66, .int (v1 - (nI 1)), .int v2] m2 (qV fun m8 => mm_sp d sn kX1_change [.ref 66, .int v1, .int (-1), .int (nI 0)] m8 (qV fun m9 => mm_sp d sn kX1_canSolve [.ref 66] m9 (qI fun x14 m10 => ((x14 = 0) → (mm_sp d sn kX1_change [.ref 66, .int v1, .int (nI 1), .int (nI 1)] m10 (qV fun m11 => P m11))) ∧ (¬ (x14 = 0) → (mm_sp d sn kX1_searchSolutions [.ref 66, .int (v1 - (nI 1)), .int (v2 ||| (mm_shl (nI 1) v1))] m10 (qV fun m12 => mm_sp d sn kX1_change [.ref 66, .int v1, .int (nI 1), .int (nI 1)] m12 (qV fun m13 => P m13))))))))))))) ∧ (¬ (0 ≤ v1) → (mm_sp d sn kX1_noteSolution [.ref 66, .int v2] m (qV fun m14 => P m14))))) ∧ (¬ (v1 < nI 14) → (P m))) :
    mm_sp (d + 1) sn kX1_searchSolutions [.ref 66, .int v1, .int v2] m (qV P) := by
  have hb := mb_21
  refine wp_in (la := [some (.ref 66), some (.int v1), some (.int v2)]) ⟨⟨Nat.le_of_ble_eq_true rfl, by decide, by decide⟩, rfl⟩ ?_
  refine wp_iload_n hb rfl dX1_searchSolutions_0 ?_
  refine wp_bipush hb (x := nI 14) rfl dX1_searchSolutions_1 ?_
  refine wp_icmp_lt hb (t := 7) ⟨rfl, rfl⟩ dX1_searchSolutions_3 ⟨fun c1 => ?_, fun c1 => ?_⟩
  · have hv := hv.1 c1
    refine wp_iload_n hb rfl dX1_searchSolutions_7 ?_
    refine wp_if_ge hb (y := 0) (t := 17) ⟨rfl, rfl⟩ dX1_searchSolutions_8 ⟨fun c2 => ?_, fun c2 => ?_⟩
    · have hv := hv.1 c2
      refine wp_aload_n hb rfl dX1_searchSolutions_17 ?_
      refine wp_iload_n hb rfl dX1_searchSolutions_18 ?_
      refine wp_iconst hb (x := nI 0) rfl dX1_searchSolutions_19 ?_
      refine wp_iconst hb (x := (-1)) rfl dX1_searchSolutions_20 ?_
      refine wp_callV hb (k' := 22) ko_21 lm_1_97 rfl m0_66 (by decide) (Nat.le_of_ble_eq_true rfl) dX1_searchSolutions_21 (sp_cV (hv.V (Nat.le_refl _) ?_))
      intro m1 hv
      refine wp_aload_n hb rfl dX1_searchSolutions_24 ?_
      refine wp_callV hb (k' := 23) ko_21 lm_1_101 rfl m0_66 (by decide) (Nat.le_of_ble_eq_true rfl) dX1_searchSolutions_25 (sp_cI (hv.I (Nat.le_refl _) ?_))
      intro x4 m2 hv
      refine wp_if_eq hb (y := 0) (t := 39) ⟨rfl, rfl⟩ dX1_searchSolutions_28 ⟨fun c5 => ?_, fun c5 => ?_⟩
      · have hv := hv.1 c5
        refine wp_aload_n hb rfl dX1_searchSolutions_39 ?_
        refine wp_iload_n hb rfl dX1_searchSolutions_40 ?_
        refine wp_iconst hb (x := (-1)) rfl dX1_searchSolutions_41 ?_
        refine wp_iconst hb (x := nI 0) rfl dX1_searchSolutions_42 ?_
        refine wp_callV hb (k' := 22) ko_21 lm_1_97 rfl m0_66 (by decide) (Nat.le_of_ble_eq_true rfl) dX1_searchSolutions_43 (sp_cV (hv.V (Nat.le_refl _) ?_))
        intro m3 hv
        refine wp_aload_n hb rfl dX1_searchSolutions_46 ?_
        refine wp_callV hb (k' := 23) ko_21 lm_1_101 rfl m0_66 (by decide) (Nat.le_of_ble_eq_true rfl) dX1_searchSolutions_47 (sp_cI (hv.I (Nat.le_refl _) ?_))
        intro x7 m4 hv
        refine wp_if_eq hb (y := 0) (t := 65) ⟨rfl, rfl⟩ dX1_searchSolutions_50 ⟨fun c8 => ?_, fun c8 => ?_⟩
        · have hv := hv.1 c8
          refine wp_aload_n hb rfl dX1_searchSolutions_65 ?_
          refine wp_iload_n hb rfl dX1_searchSolutions_66 ?_
          refine wp_iconst hb (x := nI 1) rfl dX1_searchSolutions_67 ?_
          refine wp_iconst hb (x := nI 1) rfl dX1_searchSolutions_68 ?_
          refine wp_callV hb (k' := 22) ko_21 lm_1_97 rfl m0_66 (by decide) (Nat.le_of_ble_eq_true rfl) dX1_searchSolutions_69 (sp_cV (hv.V (Nat.le_refl _) ?_))
          intro m5 hv
          exact wp_retV hb rfl dX1_searchSolutions_72 hv
        · have hv := hv.2 c8
          refine wp_aload_n hb rfl dX1_searchSolutions_53 ?_
          refine wp_iload_n hb rfl dX1_searchSolutions_54 ?_
          refine wp_iconst hb (x := nI 1) rfl dX1_searchSolutions_55 ?_
          refine wp_isub hb dX1_searchSolutions_56 ?_
          refine wp_iload_n hb rfl dX1_searchSolutions_57 ?_
          refine wp_iconst hb (x := nI 1) rfl dX1_searchSolutions_58 ?_
          refine wp_iload_n hb rfl dX1_searchSolutions_59 ?_
          refine wp_ishl hb dX1_searchSolutions_60 ?_
          refine wp_ior hb dX1_searchSolutions_61 ?_
          refine wp_callV hb (k' := 21) ko_21 lm_1_90 rfl m0_66 (by decide) (Nat.le_of_ble_eq_true rfl) dX1_searchSolutions_62 (sp_cV (hv.V (Nat.le_refl _) ?_))
          intro m6 hv
          refine wp_aload_n hb rfl dX1_searchSolutions_65 ?_
          refine wp_iload_n hb rfl dX1_searchSolutions_66 ?_
          refine wp_iconst hb (x := nI 1) rfl dX1_searchSolutions_67 ?_
          refine wp_iconst hb (x := nI 1) rfl dX1_searchSolutions_68 ?_
          refine wp_callV hb (k' := 22) ko_21 lm_1_97 rfl m0_66 (by decide) (Nat.le_of_ble_eq_true rfl) dX1_searchSolutions_69 (sp_cV (hv.V (Nat.le_refl _) ?_))
          intro m7 hv
          exact wp_retV hb rfl dX1_searchSolutions_72 hv
      · have hv := hv.2 c5
        refine wp_aload_n hb rfl dX1_searchSolutions_31 ?_
        refine wp_iload_n hb rfl dX1_searchSolutions_32 ?_
        refine wp_iconst hb (x := nI 1) rfl dX1_searchSolutions_33 ?_
        refine wp_isub hb dX1_searchSolutions_34 ?_
        refine wp_iload_n hb rfl dX1_searchSolutions_35 ?_
        refine wp_callV hb (k' := 21) ko_21 lm_1_90 rfl m0_66 (by decide) (Nat.le_of_ble_eq_true rfl) dX1_searchSolutions_36 (sp_cV (hv.V (Nat.le_refl _) ?_))
        intro m8 hv
        refine wp_aload_n hb rfl dX1_searchSolutions_39 ?_
        refine wp_iload_n hb rfl dX1_searchSolutions_40 ?_
        refine wp_iconst hb (x := (-1)) rfl dX1_searchSolutions_41 ?_
        refine wp_iconst hb (x := nI 0) rfl dX1_searchSolutions_42 ?_
        refine wp_callV hb (k' := 22) ko_21 lm_1_97 rfl m0_66 (by decide) (Nat.le_of_ble_eq_true rfl) dX1_searchSolutions_43 (sp_cV (hv.V (Nat.le_refl _) ?_))
        intro m9 hv
        refine wp_aload_n hb rfl dX1_searchSolutions_46 ?_
        refine wp_callV hb (k' := 23) ko_21 lm_1_101 rfl m0_66 (by decide) (Nat.le_of_ble_eq_true rfl) dX1_searchSolutions_47 (sp_cI (hv.I (Nat.le_refl _) ?_))
        intro x14 m10 hv
        refine wp_if_eq hb (y := 0) (t := 65) ⟨rfl, rfl⟩ dX1_searchSolutions_50 ⟨fun c15 => ?_, fun c15 => ?_⟩
        · have hv := hv.1 c15
          refine wp_aload_n hb rfl dX1_searchSolutions_65 ?_
          refine wp_iload_n hb rfl dX1_searchSolutions_66 ?_
          refine wp_iconst hb (x := nI 1) rfl dX1_searchSolutions_67 ?_
          refine wp_iconst hb (x := nI 1) rfl dX1_searchSolutions_68 ?_
          refine wp_callV hb (k' := 22) ko_21 lm_1_97 rfl m0_66 (by decide) (Nat.le_of_ble_eq_true rfl) dX1_searchSolutions_69 (sp_cV (hv.V (Nat.le_refl _) ?_))
          intro m11 hv
          exact wp_retV hb rfl dX1_searchSolutions_72 hv
        · have hv := hv.2 c15
          refine wp_aload_n hb rfl dX1_searchSolutions_53 ?_
          refine wp_iload_n hb rfl dX1_searchSolutions_54 ?_
          refine wp_iconst hb (x := nI 1) rfl dX1_searchSolutions_55 ?_
          refine wp_isub hb dX1_searchSolutions_56 ?_
          refine wp_iload_n hb rfl dX1_searchSolutions_57 ?_
          refine wp_iconst hb (x := nI 1) rfl dX1_searchSolutions_58 ?_
          refine wp_iload_n hb rfl dX1_searchSolutions_59 ?_
          refine wp_ishl hb dX1_searchSolutions_60 ?_
          refine wp_ior hb dX1_searchSolutions_61 ?_
          refine wp_callV hb (k' := 21) ko_21 lm_1_90 rfl m0_66 (by decide) (Nat.le_of_ble_eq_true rfl) dX1_searchSolutions_62 (sp_cV (hv.V (Nat.le_refl _) ?_))
          intro m12 hv
          refine wp_aload_n hb rfl dX1_searchSolutions_65 ?_
          refine wp_iload_n hb rfl dX1_searchSolutions_66 ?_
          refine wp_iconst hb (x := nI 1) rfl dX1_searchSolutions_67 ?_
          refine wp_iconst hb (x := nI 1) rfl dX1_searchSolutions_68 ?_
          refine wp_callV hb (k' := 22) ko_21 lm_1_97 rfl m0_66 (by decide) (Nat.le_of_ble_eq_true rfl) dX1_searchSolutions_69 (sp_cV (hv.V (Nat.le_refl _) ?_))
          intro m13 hv
          exact wp_retV hb rfl dX1_searchSolutions_72 hv
    · have hv := hv.2 c2
      refine wp_aload_n hb rfl dX1_searchSolutions_11 ?_
      refine wp_iload_n hb rfl dX1_searchSolutions_12 ?_
      refine wp_callV hb (k' := 24) ko_21 lm_1_93 rfl m0_66 (by decide) (Nat.le_of_ble_eq_true rfl) dX1_searchSolutions_13 (sp_cV (hv.V (Nat.le_refl _) ?_))
      intro m14 hv
      exact wp_retV hb rfl dX1_searchSolutions_16 hv
  · have hv := hv.2 c1
    exact wp_retV hb rfl dX1_searchSolutions_6 hv
set_option maxRecDepth 100000 in
theorem v_X1_change {d sn : Nat} {v1 : Int32} {v2 : Int32} {v3 : Int32} {m : mm_Mem} {P : mm_Mem → Prop} 
    (hv : mm_wp d sn kX1_change 3 [some (.ref 66), some (.int v1), some (.int v2), some (.int v3), some (.int (nI 0)), none] [] m (qV P)) :
    mm_sp (d + 1) sn kX1_change [.ref 66, .int v1, .int v2, .int v3] m (qV P) := by
  have hb := mb_22
  refine wp_in (la := [some (.ref 66), some (.int v1), some (.int v2), some (.int v3), none, none]) ⟨⟨Nat.le_of_ble_eq_true rfl, by decide, by decide⟩, rfl⟩ ?_
  refine wp_iconst hb (x := nI 0) rfl dX1_change_0 ?_
  refine wp_istore hb rfl dX1_change_1 ?_
  exact wp_for (mm_ls_k (mm_ls_k (mm_ls_k (mm_ls_k (mm_ls_k (mm_ls_k mm_ls_nil)))))) hv
set_option maxRecDepth 100000 in
theorem v_X1_change_3 {d sn : Nat} {v1 : Int32} {v2 : Int32} {v3 : Int32} {v4 : Int32} {m : mm_Mem} {P : mm_Mem → Prop} 
    (hv : ((m.1 66 6 ≤ v4) → (P m)) ∧ (¬ (m.1 66 6 ≤ v4) → (((nI 70 ≤ v4) → (P m)) ∧ (¬ (nI 70 ≤ v4) → (((nI 70 ≤ v4) → (P m)) ∧ (¬ (nI 70 ≤ v4) → (mm_sp d sn kX1_numberAt [.ref 66, .int v4, .int v1] m (qI fun x4 m1 => vp_in v4 70 ∧ (vp_in v4 70 ∧ (∀ m2 : mm_Mem, m2 = (mm_u2 m1.1 69 v4.toNatClampNeg ((m1.1 69 v4.toNatClampNeg) + (v2 * x4)), m1.2) → (vp_in v4 70 ∧ (vp_in v4 70 ∧ (∀ m3 : mm_Mem, m3 = (mm_u2 m2.1 70 v4.toNatClampNeg ((m2.1 70 v4.toNatClampNeg) + (v3 * x4)), m2.2) → (mm_wp d sn kX1_change 3 [some (.ref 66), some (.int v1), some (.int v2), some (.int v3), some (.int (v4 + nI 1)), none] [] m3 (qV P))))))))))))))) :
    mm_wp d sn kX1_change 3 [some (.ref 66), some (.int v1), some (.int v2), some (.int v3), some (.int v4), none] [] m (qV P) := by
  have hb := mb_22
  refine wp_iload hb rfl dX1_change_3 ?_
  refine wp_aload_n hb rfl dX1_change_5 ?_
  refine wp_getI hb ko_22 lf_1_42 (by decide) m0_66 dX1_change_6 ?_
  refine wp_icmp_ge hb (t := 75) ⟨rfl, rfl⟩ dX1_change_9 ⟨fun c1 => ?_, fun c1 => ?_⟩
  · have hv := hv.1 c1
    exact wp_retV hb rfl dX1_change_75 hv
  · have hv := hv.2 c1
    refine wp_iload hb rfl dX1_change_12 ?_
    refine wp_aload_n hb rfl dX1_change_14 ?_
    refine wp_getR hb ko_22 lf_1_18 (by decide) m0_66 r0_66_2 dX1_change_15 ?_
    refine wp_alen hb (x := nI 70) m0_69 (by decide) rfl dX1_change_18 ?_
    refine wp_icmp_ge hb (t := 75) ⟨rfl, rfl⟩ dX1_change_19 ⟨fun c2 => ?_, fun c2 => ?_⟩
    · have hv := hv.1 c2
      exact wp_retV hb rfl dX1_change_75 hv
    · have hv := hv.2 c2
      refine wp_iload hb rfl dX1_change_22 ?_
      refine wp_aload_n hb rfl dX1_change_24 ?_
      refine wp_getR hb ko_22 lf_1_21 (by decide) m0_66 r0_66_3 dX1_change_25 ?_
      refine wp_alen hb (x := nI 70) m0_70 (by decide) rfl dX1_change_28 ?_
      refine wp_icmp_ge hb (t := 75) ⟨rfl, rfl⟩ dX1_change_29 ⟨fun c3 => ?_, fun c3 => ?_⟩
      · have hv := hv.1 c3
        exact wp_retV hb rfl dX1_change_75 hv
      · have hv := hv.2 c3
        refine wp_aload_n hb rfl dX1_change_32 ?_
        refine wp_iload hb rfl dX1_change_33 ?_
        refine wp_iload_n hb rfl dX1_change_35 ?_
        refine wp_callV hb (k' := 19) ko_22 lm_1_87 rfl m0_66 (by decide) (Nat.le_of_ble_eq_true rfl) dX1_change_36 (sp_cI (hv.I (Nat.le_refl _) ?_))
        intro x4 m1 hv
        refine wp_istore hb rfl dX1_change_39 ?_
        refine wp_aload_n hb rfl dX1_change_41 ?_
        refine wp_getR hb ko_22 lf_1_18 (by decide) m0_66 r0_66_2 dX1_change_42 ?_
        refine wp_iload hb rfl dX1_change_45 ?_
        refine wp_dup2 hb dX1_change_47 ?_
        obtain ⟨q5, hv⟩ := hv
        refine wp_iaload hb rfl m0_69 q5 dX1_change_48 ?_
        refine wp_iload_n hb rfl dX1_change_49 ?_
        refine wp_iload hb rfl dX1_change_50 ?_
        refine wp_imul hb dX1_change_52 ?_
        refine wp_iadd hb dX1_change_53 ?_
        obtain ⟨q6, hv⟩ := hv
        refine wp_iastore hb rfl m0_69 (by decide) q6 dX1_change_54 ?_
        have hv := hv _ rfl
        generalize (mm_u2 m1.1 69 v4.toNatClampNeg ((m1.1 69 v4.toNatClampNeg) + (v2 * x4)), m1.2) = m2 at hv ⊢
        refine wp_aload_n hb rfl dX1_change_55 ?_
        refine wp_getR hb ko_22 lf_1_21 (by decide) m0_66 r0_66_3 dX1_change_56 ?_
        refine wp_iload hb rfl dX1_change_59 ?_
        refine wp_dup2 hb dX1_change_61 ?_
        obtain ⟨q7, hv⟩ := hv
        refine wp_iaload hb rfl m0_70 q7 dX1_change_62 ?_
        refine wp_iload_n hb rfl dX1_change_63 ?_
        refine wp_iload hb rfl dX1_change_64 ?_
        refine wp_imul hb dX1_change_66 ?_
        refine wp_iadd hb dX1_change_67 ?_
        obtain ⟨q8, hv⟩ := hv
        refine wp_iastore hb rfl m0_70 (by decide) q8 dX1_change_68 ?_
        have hv := hv _ rfl
        generalize (mm_u2 m2.1 70 v4.toNatClampNeg ((m2.1 70 v4.toNatClampNeg) + (v3 * x4)), m2.2) = m3 at hv ⊢
        refine wp_iinc hb rfl (y := v4 + nI 1) rfl rfl dX1_change_69 ?_
        refine wp_goto hb (t := 3) ⟨rfl, rfl⟩ dX1_change_72 ?_
        exact wp_for (mm_ls_k (mm_ls_k (mm_ls_k (mm_ls_k (mm_ls_k (mm_ls_f mm_ls_nil)))))) hv
set_option maxRecDepth 100000 in
theorem v_X1_canSolve {d sn : Nat} {m : mm_Mem} {P : Int32 → mm_Mem → Prop} 
    (hv : mm_wp d sn kX1_canSolve 2 [some (.ref 66), some (.int (nI 0))] [] m (qI P)) :
    mm_sp (d + 1) sn kX1_canSolve [.ref 66] m (qI P) := by
  have hb := mb_23
  refine wp_in (la := [some (.ref 66), none]) ⟨⟨Nat.le_of_ble_eq_true rfl, by decide, by decide⟩, rfl⟩ ?_
  refine wp_iconst hb (x := nI 0) rfl dX1_canSolve_0 ?_
  refine wp_istore_n hb rfl dX1_canSolve_1 ?_
  exact wp_for (mm_ls_k (mm_ls_k mm_ls_nil)) hv
set_option maxRecDepth 100000 in
theorem v_X1_canSolve_2 {d sn : Nat} {v1 : Int32} {m : mm_Mem} {P : Int32 → mm_Mem → Prop} 
    (hv : ((m.1 66 6 ≤ v1) → (P (nI 1) m)) ∧ (¬ (m.1 66 6 ≤ v1) → (((nI 70 ≤ v1) → (P (nI 1) m)) ∧ (¬ (nI 70 ≤ v1) → (((nI 70 ≤ v1) → (P (nI 1) m)) ∧ (¬ (nI 70 ≤ v1) → (vp_in v1 70 ∧ (((m.1 69 v1.toNatClampNeg < 0) → (P (nI 0) m)) ∧ (¬ (m.1 69 v1.toNatClampNeg < 0) → (vp_in v1 70 ∧ (vp_in v1 70 ∧ (((m.1 69 v1.toNatClampNeg ≤ m.1 70 v1.toNatClampNeg) → (mm_wp d sn kX1_canSolve 2 [some (.ref 66), some (.int (v1 + nI 1))] [] m (qI P))) ∧ (¬ (m.1 69 v1.toNatClampNeg ≤ m.1 70 v1.toNatClampNeg) → (P (nI 0) m)))))))))))))) :
    mm_wp d sn kX1_canSolve 2 [some (.ref 66), some (.int v1)] [] m (qI P) := by
  have hb := mb_23
  refine wp_iload_n hb rfl dX1_canSolve_2 ?_
  refine wp_aload_n hb rfl dX1_canSolve_3 ?_
  refine wp_getI hb ko_23 lf_1_42 (by decide) m0_66 dX1_canSolve_4 ?_
  refine wp_icmp_ge hb (t := 60) ⟨rfl, rfl⟩ dX1_canSolve_7 ⟨fun c1 => ?_, fun c1 => ?_⟩
  · have hv := hv.1 c1
    refine wp_iconst hb (x := nI 1) rfl dX1_canSolve_60 ?_
    exact wp_retZ hb rfl (by decide) dX1_canSolve_61 hv
  · have hv := hv.2 c1
    refine wp_iload_n hb rfl dX1_canSolve_10 ?_
    refine wp_aload_n hb rfl dX1_canSolve_11 ?_
    refine wp_getR hb ko_23 lf_1_18 (by decide) m0_66 r0_66_2 dX1_canSolve_12 ?_
    refine wp_alen hb (x := nI 70) m0_69 (by decide) rfl dX1_canSolve_15 ?_
    refine wp_icmp_ge hb (t := 60) ⟨rfl, rfl⟩ dX1_canSolve_16 ⟨fun c2 => ?_, fun c2 => ?_⟩
    · have hv := hv.1 c2
      refine wp_iconst hb (x := nI 1) rfl dX1_canSolve_60 ?_
      exact wp_retZ hb rfl (by decide) dX1_canSolve_61 hv
    · have hv := hv.2 c2
      refine wp_iload_n hb rfl dX1_canSolve_19 ?_
      refine wp_aload_n hb rfl dX1_canSolve_20 ?_
      refine wp_getR hb ko_23 lf_1_21 (by decide) m0_66 r0_66_3 dX1_canSolve_21 ?_
      refine wp_alen hb (x := nI 70) m0_70 (by decide) rfl dX1_canSolve_24 ?_
      refine wp_icmp_ge hb (t := 60) ⟨rfl, rfl⟩ dX1_canSolve_25 ⟨fun c3 => ?_, fun c3 => ?_⟩
      · have hv := hv.1 c3
        refine wp_iconst hb (x := nI 1) rfl dX1_canSolve_60 ?_
        exact wp_retZ hb rfl (by decide) dX1_canSolve_61 hv
      · have hv := hv.2 c3
        refine wp_aload_n hb rfl dX1_canSolve_28 ?_
        refine wp_getR hb ko_23 lf_1_18 (by decide) m0_66 r0_66_2 dX1_canSolve_29 ?_
        refine wp_iload_n hb rfl dX1_canSolve_32 ?_
        obtain ⟨q4, hv⟩ := hv
        refine wp_iaload hb rfl m0_69 q4 dX1_canSolve_33 ?_
        refine wp_if_lt hb (y := 0) (t := 52) ⟨rfl, rfl⟩ dX1_canSolve_34 ⟨fun c5 => ?_, fun c5 => ?_⟩
        · have hv := hv.1 c5
          refine wp_iconst hb (x := nI 0) rfl dX1_canSolve_52 ?_
          exact wp_retZ hb rfl (by decide) dX1_canSolve_53 hv
        · have hv := hv.2 c5
          refine wp_aload_n hb rfl dX1_canSolve_37 ?_
          refine wp_getR hb ko_23 lf_1_18 (by decide) m0_66 r0_66_2 dX1_canSolve_38 ?_
          refine wp_iload_n hb rfl dX1_canSolve_41 ?_
          obtain ⟨q6, hv⟩ := hv
          refine wp_iaload hb rfl m0_69 q6 dX1_canSolve_42 ?_
          refine wp_aload_n hb rfl dX1_canSolve_43 ?_
          refine wp_getR hb ko_23 lf_1_21 (by decide) m0_66 r0_66_3 dX1_canSolve_44 ?_
          refine wp_iload_n hb rfl dX1_canSolve_47 ?_
          obtain ⟨q7, hv⟩ := hv
          refine wp_iaload hb rfl m0_70 q7 dX1_canSolve_48 ?_
          refine wp_icmp_le hb (t := 54) ⟨rfl, rfl⟩ dX1_canSolve_49 ⟨fun c8 => ?_, fun c8 => ?_⟩
          · have hv := hv.1 c8
            refine wp_iinc hb rfl (y := v1 + nI 1) rfl rfl dX1_canSolve_54 ?_
            refine wp_goto hb (t := 2) ⟨rfl, rfl⟩ dX1_canSolve_57 ?_
            exact wp_for (mm_ls_k (mm_ls_k mm_ls_nil)) hv
          · have hv := hv.2 c8
            refine wp_iconst hb (x := nI 0) rfl dX1_canSolve_52 ?_
            exact wp_retZ hb rfl (by decide) dX1_canSolve_53 hv
set_option maxRecDepth 100000 in
theorem v_X1_noteSolution {d sn : Nat} {v1 : Int32} {m : mm_Mem} {P : mm_Mem → Prop} 
    (hv : ((¬ m.1 66 9 = m.1 66 8) → (((m.1 66 9 < 0) → (∀ m1 : mm_Mem, m1 = (mm_u2 m.1 66 9 ((m.1 66 9) + (nI 1)), m.2) → (P m1))) ∧ (¬ (m.1 66 9 < 0) → (((nI 24 ≤ m.1 66 9) → (∀ m2 : mm_Mem, m2 = (mm_u2 m.1 66 9 ((m.1 66 9) + (nI 1)), m.2) → (P m2))) ∧ (¬ (nI 24 ≤ m.1 66 9) → (vp_in (m.1 66 9) 24 ∧ (∀ m3 : mm_Mem, m3 = (mm_u2 m.1 72 (m.1 66 9).toNatClampNeg v1, m.2) → (∀ m4 : mm_Mem, m4 = (mm_u2 m3.1 66 9 ((m3.1 66 9) + (nI 1)), m3.2) → (P m4))))))))) ∧ (¬ (¬ m.1 66 9 = m.1 66 8) → (∀ m5 : mm_Mem, m5 = (mm_u2 m.1 66 11 v1, m.2) → (((m5.1 66 9 < 0) → (∀ m6 : mm_Mem, m6 = (mm_u2 m5.1 66 9 ((m5.1 66 9) + (nI 1)), m5.2) → (P m6))) ∧ (¬ (m5.1 66 9 < 0) → (((nI 24 ≤ m5.1 66 9) → (∀ m7 : mm_Mem, m7 = (mm_u2 m5.1 66 9 ((m5.1 66 9) + (nI 1)), m5.2) → (P m7))) ∧ (¬ (nI 24 ≤ m5.1 66 9) → (vp_in (m5.1 66 9) 24 ∧ (∀ m8 : mm_Mem, m8 = (mm_u2 m5.1 72 (m5.1 66 9).toNatClampNeg v1, m5.2) → (∀ m9 : mm_Mem, m9 = (mm_u2 m8.1 66 9 ((m8.1 66 9) + (nI 1)), m8.2) → (P m9))))))))))) :
    mm_sp (d + 1) sn kX1_noteSolution [.ref 66, .int v1] m (qV P) := by
  have hb := mb_24
  refine wp_in (la := [some (.ref 66), some (.int v1)]) ⟨⟨Nat.le_of_ble_eq_true rfl, by decide, by decide⟩, rfl⟩ ?_
  refine wp_aload_n hb rfl dX1_noteSolution_0 ?_
  refine wp_getI hb ko_24 lf_1_81 (by decide) m0_66 dX1_noteSolution_1 ?_
  refine wp_aload_n hb rfl dX1_noteSolution_4 ?_
  refine wp_getI hb ko_24 lf_1_78 (by decide) m0_66 dX1_noteSolution_5 ?_
  refine wp_icmp_ne hb (t := 16) ⟨rfl, rfl⟩ dX1_noteSolution_8 ⟨fun c1 => ?_, fun c1 => ?_⟩
  · have hv := hv.1 c1
    refine wp_aload_n hb rfl dX1_noteSolution_16 ?_
    refine wp_getI hb ko_24 lf_1_81 (by decide) m0_66 dX1_noteSolution_17 ?_
    refine wp_if_lt hb (y := 0) (t := 45) ⟨rfl, rfl⟩ dX1_noteSolution_20 ⟨fun c2 => ?_, fun c2 => ?_⟩
    · have hv := hv.1 c2
      refine wp_aload_n hb rfl dX1_noteSolution_45 ?_
      refine wp_dupR hb dX1_noteSolution_46 ?_
      refine wp_getI hb ko_24 lf_1_81 (by decide) m0_66 dX1_noteSolution_47 ?_
      refine wp_iconst hb (x := nI 1) rfl dX1_noteSolution_50 ?_
      refine wp_iadd hb dX1_noteSolution_51 ?_
      refine wp_putI hb ko_24 lf_1_81 (by decide) m0_66 dX1_noteSolution_52 ?_
      have hv := hv _ rfl
      generalize (mm_u2 m.1 66 9 ((m.1 66 9) + (nI 1)), m.2) = m1 at hv ⊢
      exact wp_retV hb rfl dX1_noteSolution_55 hv
    · have hv := hv.2 c2
      refine wp_aload_n hb rfl dX1_noteSolution_23 ?_
      refine wp_getI hb ko_24 lf_1_81 (by decide) m0_66 dX1_noteSolution_24 ?_
      refine wp_aload_n hb rfl dX1_noteSolution_27 ?_
      refine wp_getR hb ko_24 lf_1_27 (by decide) m0_66 r0_66_5 dX1_noteSolution_28 ?_
      refine wp_alen hb (x := nI 24) m0_72 (by decide) rfl dX1_noteSolution_31 ?_
      refine wp_icmp_ge hb (t := 45) ⟨rfl, rfl⟩ dX1_noteSolution_32 ⟨fun c3 => ?_, fun c3 => ?_⟩
      · have hv := hv.1 c3
        refine wp_aload_n hb rfl dX1_noteSolution_45 ?_
        refine wp_dupR hb dX1_noteSolution_46 ?_
        refine wp_getI hb ko_24 lf_1_81 (by decide) m0_66 dX1_noteSolution_47 ?_
        refine wp_iconst hb (x := nI 1) rfl dX1_noteSolution_50 ?_
        refine wp_iadd hb dX1_noteSolution_51 ?_
        refine wp_putI hb ko_24 lf_1_81 (by decide) m0_66 dX1_noteSolution_52 ?_
        have hv := hv _ rfl
        generalize (mm_u2 m.1 66 9 ((m.1 66 9) + (nI 1)), m.2) = m2 at hv ⊢
        exact wp_retV hb rfl dX1_noteSolution_55 hv
      · have hv := hv.2 c3
        refine wp_aload_n hb rfl dX1_noteSolution_35 ?_
        refine wp_getR hb ko_24 lf_1_27 (by decide) m0_66 r0_66_5 dX1_noteSolution_36 ?_
        refine wp_aload_n hb rfl dX1_noteSolution_39 ?_
        refine wp_getI hb ko_24 lf_1_81 (by decide) m0_66 dX1_noteSolution_40 ?_
        refine wp_iload_n hb rfl dX1_noteSolution_43 ?_
        obtain ⟨q4, hv⟩ := hv
        refine wp_iastore hb rfl m0_72 (by decide) q4 dX1_noteSolution_44 ?_
        have hv := hv _ rfl
        generalize (mm_u2 m.1 72 (m.1 66 9).toNatClampNeg v1, m.2) = m3 at hv ⊢
        refine wp_aload_n hb rfl dX1_noteSolution_45 ?_
        refine wp_dupR hb dX1_noteSolution_46 ?_
        refine wp_getI hb ko_24 lf_1_81 (by decide) m0_66 dX1_noteSolution_47 ?_
        refine wp_iconst hb (x := nI 1) rfl dX1_noteSolution_50 ?_
        refine wp_iadd hb dX1_noteSolution_51 ?_
        refine wp_putI hb ko_24 lf_1_81 (by decide) m0_66 dX1_noteSolution_52 ?_
        have hv := hv _ rfl
        generalize (mm_u2 m3.1 66 9 ((m3.1 66 9) + (nI 1)), m3.2) = m4 at hv ⊢
        exact wp_retV hb rfl dX1_noteSolution_55 hv
  · have hv := hv.2 c1
    refine wp_aload_n hb rfl dX1_noteSolution_11 ?_
    refine wp_iload_n hb rfl dX1_noteSolution_12 ?_
    refine wp_putI hb ko_24 lf_1_84 (by decide) m0_66 dX1_noteSolution_13 ?_
    have hv := hv _ rfl
    generalize (mm_u2 m.1 66 11 v1, m.2) = m5 at hv ⊢
    refine wp_aload_n hb rfl dX1_noteSolution_16 ?_
    refine wp_getI hb ko_24 lf_1_81 (by decide) m0_66 dX1_noteSolution_17 ?_
    refine wp_if_lt hb (y := 0) (t := 45) ⟨rfl, rfl⟩ dX1_noteSolution_20 ⟨fun c5 => ?_, fun c5 => ?_⟩
    · have hv := hv.1 c5
      refine wp_aload_n hb rfl dX1_noteSolution_45 ?_
      refine wp_dupR hb dX1_noteSolution_46 ?_
      refine wp_getI hb ko_24 lf_1_81 (by decide) m0_66 dX1_noteSolution_47 ?_
      refine wp_iconst hb (x := nI 1) rfl dX1_noteSolution_50 ?_
      refine wp_iadd hb dX1_noteSolution_51 ?_
      refine wp_putI hb ko_24 lf_1_81 (by decide) m0_66 dX1_noteSolution_52 ?_
      have hv := hv _ rfl
      generalize (mm_u2 m5.1 66 9 ((m5.1 66 9) + (nI 1)), m5.2) = m6 at hv ⊢
      exact wp_retV hb rfl dX1_noteSolution_55 hv
    · have hv := hv.2 c5
      refine wp_aload_n hb rfl dX1_noteSolution_23 ?_
      refine wp_getI hb ko_24 lf_1_81 (by decide) m0_66 dX1_noteSolution_24 ?_
      refine wp_aload_n hb rfl dX1_noteSolution_27 ?_
      refine wp_getR hb ko_24 lf_1_27 (by decide) m0_66 r0_66_5 dX1_noteSolution_28 ?_
      refine wp_alen hb (x := nI 24) m0_72 (by decide) rfl dX1_noteSolution_31 ?_
      refine wp_icmp_ge hb (t := 45) ⟨rfl, rfl⟩ dX1_noteSolution_32 ⟨fun c6 => ?_, fun c6 => ?_⟩
      · have hv := hv.1 c6
        refine wp_aload_n hb rfl dX1_noteSolution_45 ?_
        refine wp_dupR hb dX1_noteSolution_46 ?_
        refine wp_getI hb ko_24 lf_1_81 (by decide) m0_66 dX1_noteSolution_47 ?_
        refine wp_iconst hb (x := nI 1) rfl dX1_noteSolution_50 ?_
        refine wp_iadd hb dX1_noteSolution_51 ?_
        refine wp_putI hb ko_24 lf_1_81 (by decide) m0_66 dX1_noteSolution_52 ?_
        have hv := hv _ rfl
        generalize (mm_u2 m5.1 66 9 ((m5.1 66 9) + (nI 1)), m5.2) = m7 at hv ⊢
        exact wp_retV hb rfl dX1_noteSolution_55 hv
      · have hv := hv.2 c6
        refine wp_aload_n hb rfl dX1_noteSolution_35 ?_
        refine wp_getR hb ko_24 lf_1_27 (by decide) m0_66 r0_66_5 dX1_noteSolution_36 ?_
        refine wp_aload_n hb rfl dX1_noteSolution_39 ?_
        refine wp_getI hb ko_24 lf_1_81 (by decide) m0_66 dX1_noteSolution_40 ?_
        refine wp_iload_n hb rfl dX1_noteSolution_43 ?_
        obtain ⟨q7, hv⟩ := hv
        refine wp_iastore hb rfl m0_72 (by decide) q7 dX1_noteSolution_44 ?_
        have hv := hv _ rfl
        generalize (mm_u2 m5.1 72 (m5.1 66 9).toNatClampNeg v1, m5.2) = m8 at hv ⊢
        refine wp_aload_n hb rfl dX1_noteSolution_45 ?_
        refine wp_dupR hb dX1_noteSolution_46 ?_
        refine wp_getI hb ko_24 lf_1_81 (by decide) m0_66 dX1_noteSolution_47 ?_
        refine wp_iconst hb (x := nI 1) rfl dX1_noteSolution_50 ?_
        refine wp_iadd hb dX1_noteSolution_51 ?_
        refine wp_putI hb ko_24 lf_1_81 (by decide) m0_66 dX1_noteSolution_52 ?_
        have hv := hv _ rfl
        generalize (mm_u2 m8.1 66 9 ((m8.1 66 9) + (nI 1)), m8.2) = m9 at hv ⊢
        exact wp_retV hb rfl dX1_noteSolution_55 hv
set_option maxRecDepth 100000 in
theorem v_X1_earlySolution {d sn : Nat} {v1 : Int32} {m : mm_Mem} {P : Int32 → mm_Mem → Prop} 
    (hv : ((v1 < 0) → (P (nI 0) m)) ∧ (¬ (v1 < 0) → (((nI 24 ≤ v1) → (P (nI 0) m)) ∧ (¬ (nI 24 ≤ v1) → (vp_in v1 24 ∧ (P (m.1 72 v1.toNatClampNeg) m)))))) :
    mm_sp (d + 1) sn kX1_earlySolution [.ref 66, .int v1] m (qI P) := by
  have hb := mb_25
  refine wp_in (la := [some (.ref 66), some (.int v1)]) ⟨⟨Nat.le_of_ble_eq_true rfl, by decide, by decide⟩, rfl⟩ ?_
  refine wp_iload_n hb rfl dX1_earlySolution_0 ?_
  refine wp_if_lt hb (y := 0) (t := 22) ⟨rfl, rfl⟩ dX1_earlySolution_1 ⟨fun c1 => ?_, fun c1 => ?_⟩
  · have hv := hv.1 c1
    refine wp_iconst hb (x := nI 0) rfl dX1_earlySolution_22 ?_
    exact wp_retI hb rfl dX1_earlySolution_23 hv
  · have hv := hv.2 c1
    refine wp_iload_n hb rfl dX1_earlySolution_4 ?_
    refine wp_aload_n hb rfl dX1_earlySolution_5 ?_
    refine wp_getR hb ko_25 lf_1_27 (by decide) m0_66 r0_66_5 dX1_earlySolution_6 ?_
    refine wp_alen hb (x := nI 24) m0_72 (by decide) rfl dX1_earlySolution_9 ?_
    refine wp_icmp_ge hb (t := 22) ⟨rfl, rfl⟩ dX1_earlySolution_10 ⟨fun c2 => ?_, fun c2 => ?_⟩
    · have hv := hv.1 c2
      refine wp_iconst hb (x := nI 0) rfl dX1_earlySolution_22 ?_
      exact wp_retI hb rfl dX1_earlySolution_23 hv
    · have hv := hv.2 c2
      refine wp_aload_n hb rfl dX1_earlySolution_13 ?_
      refine wp_getR hb ko_25 lf_1_27 (by decide) m0_66 r0_66_5 dX1_earlySolution_14 ?_
      refine wp_iload_n hb rfl dX1_earlySolution_17 ?_
      obtain ⟨q3, hv⟩ := hv
      refine wp_iaload hb rfl m0_72 q3 dX1_earlySolution_18 ?_
      refine wp_goto hb (t := 23) ⟨rfl, rfl⟩ dX1_earlySolution_19 ?_
      exact wp_retI hb rfl dX1_earlySolution_23 hv
set_option maxRecDepth 100000 in
theorem v_X1_findFewest {d sn : Nat} {m : mm_Mem} {P : mm_Mem → Prop} 
    (hv : ∀ m1 : mm_Mem, m1 = (mm_u2 m.1 66 10 (nI 2147483647), m.2) → (∀ m2 : mm_Mem, m2 = (mm_u2 m1.1 66 11 (-5), m1.2) → (mm_sp d sn kX1_searchCovers [.ref 66, .int ((m2.1 66 7) - (nI 1)), .int (nI 0), .int (nI 0)] m2 (qV fun m3 => P m3)))) :
    mm_sp (d + 1) sn kX1_findFewest [.ref 66] m (qV P) := by
  have hb := mb_26
  refine wp_in (la := [some (.ref 66)]) ⟨⟨Nat.le_of_ble_eq_true rfl, by decide, by decide⟩, rfl⟩ ?_
  refine wp_aload_n hb rfl dX1_findFewest_0 ?_
  refine wp_ldc hb (ko_26) (ki_1_105) dX1_findFewest_1 ?_
  refine wp_putI hb ko_26 lf_1_106 (by decide) m0_66 dX1_findFewest_3 ?_
  have hv := hv _ rfl
  generalize (mm_u2 m.1 66 10 (nI 2147483647), m.2) = m1 at hv ⊢
  refine wp_aload_n hb rfl dX1_findFewest_6 ?_
  refine wp_bipush hb (x := (-5)) rfl dX1_findFewest_7 ?_
  refine wp_putI hb ko_26 lf_1_84 (by decide) m0_66 dX1_findFewest_9 ?_
  have hv := hv _ rfl
  generalize (mm_u2 m1.1 66 11 (-5), m1.2) = m2 at hv ⊢
  refine wp_aload_n hb rfl dX1_findFewest_12 ?_
  refine wp_aload_n hb rfl dX1_findFewest_13 ?_
  refine wp_getI hb ko_26 lf_1_46 (by decide) m0_66 dX1_findFewest_14 ?_
  refine wp_iconst hb (x := nI 1) rfl dX1_findFewest_17 ?_
  refine wp_isub hb dX1_findFewest_18 ?_
  refine wp_iconst hb (x := nI 0) rfl dX1_findFewest_19 ?_
  refine wp_iconst hb (x := nI 0) rfl dX1_findFewest_20 ?_
  refine wp_callV hb (k' := 27) ko_26 lm_1_109 rfl m0_66 (by decide) (Nat.le_of_ble_eq_true rfl) dX1_findFewest_21 (sp_cV (hv.V (Nat.le_refl _) ?_))
  intro m3 hv
  exact wp_retV hb rfl dX1_findFewest_24 hv
set_option maxRecDepth 100000 in
theorem v_X1_searchCovers {d sn : Nat} {v1 : Int32} {v2 : Int32} {v3 : Int32} {m : mm_Mem} {P : mm_Mem → Prop} 
    (hv : ((nI 14 ≤ v1) → (P m)) ∧ (¬ (nI 14 ≤ v1) → (((v3 < m.1 66 10) → (mm_sp d sn kX1_covers [.ref 66, .int (v2 ||| ((mm_shl (nI 1) (v1 + (nI 1))) - (nI 1)))] m (qI fun x3 m1 => ((¬ x3 = 0) → (((v1 < 0) → (∀ m2 : mm_Mem, m2 = (mm_u2 m1.1 66 10 v3, m1.2) → (∀ m3 : mm_Mem, m3 = (mm_u2 m2.1 66 11 v2, m2.2) → (P m3)))) ∧ (¬ (v1 < 0) → (((v1 < nI 14) → (mm_sp d sn kX1_searchCovers [.ref 66, .int (v1 - (nI 1)), .int v2, .int v3] m1 (qV fun m4 => vp_in v1 14 ∧ (mm_sp d sn kX1_searchCovers [.ref 66, .int (v1 - (nI 1)), .int (v2 ||| (mm_shl (nI 1) v1)), .int (v3 + (m4.1 71 v1.toNatClampNeg))] m4 (qV fun m5 => P m5))))) ∧ (¬ (v1 < nI 14) → (∀ m6 : mm_Mem, m6 = (mm_u2 m1.1 66 10 v3, m1.2) → (∀ m7 : mm_Mem, m7 = (mm_u2 m6.1 66 11 v2, m6.2) → (P m7)))))))) ∧ (¬ (¬ x3 = 0) → (P m1))))) ∧ (¬ (v3 < m.1 66 10) → (P m))))) :
    mm_sp (d + 1) sn kX1_searchCovers [.ref 66, .int v1, .int v2, .int v3] m (qV P) := by
  have hb := mb_27
  refine wp_in (la := [some (.ref 66), some (.int v1), some (.int v2), some (.int v3)]) ⟨⟨Nat.le_of_ble_eq_true rfl, by decide, by decide⟩, rfl⟩ ?_
  refine wp_iload_n hb rfl dX1_searchCovers_0 ?_
  refine wp_bipush hb (x := nI 14) rfl dX1_searchCovers_1 ?_
  refine wp_icmp_ge hb (t := 14) ⟨rfl, rfl⟩ dX1_searchCovers_3 ⟨fun c1 => ?_, fun c1 => ?_⟩
  · have hv := hv.1 c1
    exact wp_retV hb rfl dX1_searchCovers_14 hv
  · have hv := hv.2 c1
    refine wp_iload_n hb rfl dX1_searchCovers_6 ?_
    refine wp_aload_n hb rfl dX1_searchCovers_7 ?_
    refine wp_getI hb ko_27 lf_1_106 (by decide) m0_66 dX1_searchCovers_8 ?_
    refine wp_icmp_lt hb (t := 15) ⟨rfl, rfl⟩ dX1_searchCovers_11 ⟨fun c2 => ?_, fun c2 => ?_⟩
    · have hv := hv.1 c2
      refine wp_aload_n hb rfl dX1_searchCovers_15 ?_
      refine wp_iload_n hb rfl dX1_searchCovers_16 ?_
      refine wp_iconst hb (x := nI 1) rfl dX1_searchCovers_17 ?_
      refine wp_iload_n hb rfl dX1_searchCovers_18 ?_
      refine wp_iconst hb (x := nI 1) rfl dX1_searchCovers_19 ?_
      refine wp_iadd hb dX1_searchCovers_20 ?_
      refine wp_ishl hb dX1_searchCovers_21 ?_
      refine wp_iconst hb (x := nI 1) rfl dX1_searchCovers_22 ?_
      refine wp_isub hb dX1_searchCovers_23 ?_
      refine wp_ior hb dX1_searchCovers_24 ?_
      refine wp_callV hb (k' := 28) ko_27 lm_1_112 rfl m0_66 (by decide) (Nat.le_of_ble_eq_true rfl) dX1_searchCovers_25 (sp_cI (hv.I (Nat.le_refl _) ?_))
      intro x3 m1 hv
      refine wp_if_ne hb (y := 0) (t := 32) ⟨rfl, rfl⟩ dX1_searchCovers_28 ⟨fun c4 => ?_, fun c4 => ?_⟩
      · have hv := hv.1 c4
        refine wp_iload_n hb rfl dX1_searchCovers_32 ?_
        refine wp_if_lt hb (y := 0) (t := 45) ⟨rfl, rfl⟩ dX1_searchCovers_33 ⟨fun c5 => ?_, fun c5 => ?_⟩
        · have hv := hv.1 c5
          refine wp_aload_n hb rfl dX1_searchCovers_45 ?_
          refine wp_iload_n hb rfl dX1_searchCovers_46 ?_
          refine wp_putI hb ko_27 lf_1_106 (by decide) m0_66 dX1_searchCovers_47 ?_
          have hv := hv _ rfl
          generalize (mm_u2 m1.1 66 10 v3, m1.2) = m2 at hv ⊢
          refine wp_aload_n hb rfl dX1_searchCovers_50 ?_
          refine wp_iload_n hb rfl dX1_searchCovers_51 ?_
          refine wp_putI hb ko_27 lf_1_84 (by decide) m0_66 dX1_searchCovers_52 ?_
          have hv := hv _ rfl
          generalize (mm_u2 m2.1 66 11 v2, m2.2) = m3 at hv ⊢
          exact wp_retV hb rfl dX1_searchCovers_55 hv
        · have hv := hv.2 c5
          refine wp_iload_n hb rfl dX1_searchCovers_36 ?_
          refine wp_aload_n hb rfl dX1_searchCovers_37 ?_
          refine wp_getR hb ko_27 lf_1_24 (by decide) m0_66 r0_66_4 dX1_searchCovers_38 ?_
          refine wp_alen hb (x := nI 14) m0_71 (by decide) rfl dX1_searchCovers_41 ?_
          refine wp_icmp_lt hb (t := 56) ⟨rfl, rfl⟩ dX1_searchCovers_42 ⟨fun c6 => ?_, fun c6 => ?_⟩
          · have hv := hv.1 c6
            refine wp_aload_n hb rfl dX1_searchCovers_56 ?_
            refine wp_iload_n hb rfl dX1_searchCovers_57 ?_
            refine wp_iconst hb (x := nI 1) rfl dX1_searchCovers_58 ?_
            refine wp_isub hb dX1_searchCovers_59 ?_
            refine wp_iload_n hb rfl dX1_searchCovers_60 ?_
            refine wp_iload_n hb rfl dX1_searchCovers_61 ?_
            refine wp_callV hb (k' := 27) ko_27 lm_1_109 rfl m0_66 (by decide) (Nat.le_of_ble_eq_true rfl) dX1_searchCovers_62 (sp_cV (hv.V (Nat.le_refl _) ?_))
            intro m4 hv
            refine wp_aload_n hb rfl dX1_searchCovers_65 ?_
            refine wp_iload_n hb rfl dX1_searchCovers_66 ?_
            refine wp_iconst hb (x := nI 1) rfl dX1_searchCovers_67 ?_
            refine wp_isub hb dX1_searchCovers_68 ?_
            refine wp_iload_n hb rfl dX1_searchCovers_69 ?_
            refine wp_iconst hb (x := nI 1) rfl dX1_searchCovers_70 ?_
            refine wp_iload_n hb rfl dX1_searchCovers_71 ?_
            refine wp_ishl hb dX1_searchCovers_72 ?_
            refine wp_ior hb dX1_searchCovers_73 ?_
            refine wp_iload_n hb rfl dX1_searchCovers_74 ?_
            refine wp_aload_n hb rfl dX1_searchCovers_75 ?_
            refine wp_getR hb ko_27 lf_1_24 (by decide) m0_66 r0_66_4 dX1_searchCovers_76 ?_
            refine wp_iload_n hb rfl dX1_searchCovers_79 ?_
            obtain ⟨q8, hv⟩ := hv
            refine wp_iaload hb rfl m0_71 q8 dX1_searchCovers_80 ?_
            refine wp_iadd hb dX1_searchCovers_81 ?_
            refine wp_callV hb (k' := 27) ko_27 lm_1_109 rfl m0_66 (by decide) (Nat.le_of_ble_eq_true rfl) dX1_searchCovers_82 (sp_cV (hv.V (Nat.le_refl _) ?_))
            intro m5 hv
            exact wp_retV hb rfl dX1_searchCovers_85 hv
          · have hv := hv.2 c6
            refine wp_aload_n hb rfl dX1_searchCovers_45 ?_
            refine wp_iload_n hb rfl dX1_searchCovers_46 ?_
            refine wp_putI hb ko_27 lf_1_106 (by decide) m0_66 dX1_searchCovers_47 ?_
            have hv := hv _ rfl
            generalize (mm_u2 m1.1 66 10 v3, m1.2) = m6 at hv ⊢
            refine wp_aload_n hb rfl dX1_searchCovers_50 ?_
            refine wp_iload_n hb rfl dX1_searchCovers_51 ?_
            refine wp_putI hb ko_27 lf_1_84 (by decide) m0_66 dX1_searchCovers_52 ?_
            have hv := hv _ rfl
            generalize (mm_u2 m6.1 66 11 v2, m6.2) = m7 at hv ⊢
            exact wp_retV hb rfl dX1_searchCovers_55 hv
      · have hv := hv.2 c4
        exact wp_retV hb rfl dX1_searchCovers_31 hv
    · have hv := hv.2 c2
      exact wp_retV hb rfl dX1_searchCovers_14 hv
set_option maxRecDepth 100000 in
theorem v_X1_covers {d sn : Nat} {v1 : Int32} {m : mm_Mem} {P : Int32 → mm_Mem → Prop} 
    (hv : mm_wp d sn kX1_covers 2 [some (.ref 66), some (.int v1), some (.int (nI 0))] [] m (qI P)) :
    mm_sp (d + 1) sn kX1_covers [.ref 66, .int v1] m (qI P) := by
  have hb := mb_28
  refine wp_in (la := [some (.ref 66), some (.int v1), none]) ⟨⟨Nat.le_of_ble_eq_true rfl, by decide, by decide⟩, rfl⟩ ?_
  refine wp_iconst hb (x := nI 0) rfl dX1_covers_0 ?_
  refine wp_istore_n hb rfl dX1_covers_1 ?_
  exact wp_for (mm_ls_k (mm_ls_k (mm_ls_k mm_ls_nil))) hv
set_option maxRecDepth 100000 in
theorem v_X1_covers_2 {d sn : Nat} {v1 : Int32} {v2 : Int32} {m : mm_Mem} {P : Int32 → mm_Mem → Prop} 
    (hv : ((m.1 66 6 ≤ v2) → (P (nI 1) m)) ∧ (¬ (m.1 66 6 ≤ v2) → (((nI 70 ≤ v2) → (P (nI 1) m)) ∧ (¬ (nI 70 ≤ v2) → (vp_in v2 70 ∧ (((¬ v1 &&& (m.1 68 v2.toNatClampNeg) = 0) → (mm_wp d sn kX1_covers 2 [some (.ref 66), some (.int v1), some (.int (v2 + nI 1))] [] m (qI P))) ∧ (¬ (¬ v1 &&& (m.1 68 v2.toNatClampNeg) = 0) → (P (nI 0) m)))))))) :
    mm_wp d sn kX1_covers 2 [some (.ref 66), some (.int v1), some (.int v2)] [] m (qI P) := by
  have hb := mb_28
  refine wp_iload_n hb rfl dX1_covers_2 ?_
  refine wp_aload_n hb rfl dX1_covers_3 ?_
  refine wp_getI hb ko_28 lf_1_42 (by decide) m0_66 dX1_covers_4 ?_
  refine wp_icmp_ge hb (t := 38) ⟨rfl, rfl⟩ dX1_covers_7 ⟨fun c1 => ?_, fun c1 => ?_⟩
  · have hv := hv.1 c1
    refine wp_iconst hb (x := nI 1) rfl dX1_covers_38 ?_
    exact wp_retZ hb rfl (by decide) dX1_covers_39 hv
  · have hv := hv.2 c1
    refine wp_iload_n hb rfl dX1_covers_10 ?_
    refine wp_aload_n hb rfl dX1_covers_11 ?_
    refine wp_getR hb ko_28 lf_1_15 (by decide) m0_66 r0_66_1 dX1_covers_12 ?_
    refine wp_alen hb (x := nI 70) m0_68 (by decide) rfl dX1_covers_15 ?_
    refine wp_icmp_ge hb (t := 38) ⟨rfl, rfl⟩ dX1_covers_16 ⟨fun c2 => ?_, fun c2 => ?_⟩
    · have hv := hv.1 c2
      refine wp_iconst hb (x := nI 1) rfl dX1_covers_38 ?_
      exact wp_retZ hb rfl (by decide) dX1_covers_39 hv
    · have hv := hv.2 c2
      refine wp_iload_n hb rfl dX1_covers_19 ?_
      refine wp_aload_n hb rfl dX1_covers_20 ?_
      refine wp_getR hb ko_28 lf_1_15 (by decide) m0_66 r0_66_1 dX1_covers_21 ?_
      refine wp_iload_n hb rfl dX1_covers_24 ?_
      obtain ⟨q3, hv⟩ := hv
      refine wp_iaload hb rfl m0_68 q3 dX1_covers_25 ?_
      refine wp_iand hb dX1_covers_26 ?_
      refine wp_if_ne hb (y := 0) (t := 32) ⟨rfl, rfl⟩ dX1_covers_27 ⟨fun c4 => ?_, fun c4 => ?_⟩
      · have hv := hv.1 c4
        refine wp_iinc hb rfl (y := v2 + nI 1) rfl rfl dX1_covers_32 ?_
        refine wp_goto hb (t := 2) ⟨rfl, rfl⟩ dX1_covers_35 ?_
        exact wp_for (mm_ls_k (mm_ls_k (mm_ls_k mm_ls_nil))) hv
      · have hv := hv.2 c4
        refine wp_iconst hb (x := nI 0) rfl dX1_covers_30 ?_
        exact wp_retZ hb rfl (by decide) dX1_covers_31 hv
