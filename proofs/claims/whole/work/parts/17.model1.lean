set_option maxRecDepth 100000 in
theorem v_X11_in {d sn : Nat} {v0 : Int64} {v2 : Int64} {v4 : Int64} {m : mm_Mem} {P : Int32 → mm_Mem → Prop} 
    (hv : ((lg_cmp v0 v2 < 0) → (P (nI 0) m)) ∧ (¬ (lg_cmp v0 v2 < 0) → (((0 < lg_cmp v0 v4) → (P (nI 0) m)) ∧ (¬ (0 < lg_cmp v0 v4) → (P (nI 1) m))))) :
    mm_sp (d + 1) sn kX11_in [.long v0, .long v2, .long v4] m (qI P) := by
  have hb := mb_152
  refine wp_in (la := [some (.long v0), none, some (.long v2), none, some (.long v4), none]) ⟨⟨Nat.le_of_ble_eq_true rfl, by decide, by decide⟩, rfl⟩ ?_
  refine wp_lload_n hb rfl dX11_in_0 ?_
  refine wp_lload_n hb rfl dX11_in_1 ?_
  refine wp_lcmp hb dX11_in_2 ?_
  refine wp_if_lt hb (y := 0) (t := 17) ⟨rfl, rfl⟩ dX11_in_3 ⟨fun c1 => ?_, fun c1 => ?_⟩
  · have hv := hv.1 c1
    refine wp_iconst hb (x := nI 0) rfl dX11_in_17 ?_
    exact wp_retZ hb rfl (by decide) dX11_in_18 hv
  · have hv := hv.2 c1
    refine wp_lload_n hb rfl dX11_in_6 ?_
    refine wp_lload hb rfl dX11_in_7 ?_
    refine wp_lcmp hb dX11_in_9 ?_
    refine wp_if_gt hb (y := 0) (t := 17) ⟨rfl, rfl⟩ dX11_in_10 ⟨fun c2 => ?_, fun c2 => ?_⟩
    · have hv := hv.1 c2
      refine wp_iconst hb (x := nI 0) rfl dX11_in_17 ?_
      exact wp_retZ hb rfl (by decide) dX11_in_18 hv
    · have hv := hv.2 c2
      refine wp_iconst hb (x := nI 1) rfl dX11_in_13 ?_
      refine wp_goto hb (t := 18) ⟨rfl, rfl⟩ dX11_in_14 ?_
      exact wp_retZ hb rfl (by decide) dX11_in_18 hv
set_option maxRecDepth 100000 in
theorem v_X11_starts {d sn : Nat} {v1 : Int32} {m : mm_Mem} {P : mm_Mem → Prop} 
    (hv : mm_wp d sn kX11_starts 2 [some (.ref 82), some (.int v1), some (.int (nI 0))] [] m (qV P)) :
    mm_sp (d + 1) sn kX11_starts [.ref 82, .int v1] m (qV P) := by
  have hb := mb_153
  refine wp_in (la := [some (.ref 82), some (.int v1), none]) ⟨⟨Nat.le_of_ble_eq_true rfl, by decide, by decide⟩, rfl⟩ ?_
  refine wp_iconst hb (x := nI 0) rfl dX11_starts_0 ?_
  refine wp_istore_n hb rfl dX11_starts_1 ?_
  exact wp_for (mm_ls_k (mm_ls_k (mm_ls_k mm_ls_nil))) hv
set_option maxRecDepth 100000 in
theorem v_X11_starts_2 {d sn : Nat} {v1 : Int32} {v2 : Int32} {m : mm_Mem} {P : mm_Mem → Prop} 
    (hv : ((nI 48 ≤ v2) → (∀ m1 : mm_Mem, m1 = (mm_u2 m.1 83 0 v1, m.2) → (∀ m2 : mm_Mem, m2 = (mm_u2 m1.1 83 42 (nI 2), m1.2) → (mm_wp d sn kX11_starts 38 [some (.ref 82), none, some (.int (nI 0))] [] m2 (qV P))))) ∧ (¬ (nI 48 ≤ v2) → (vp_in v2 48 ∧ (∀ m3 : mm_Mem, m3 = (mm_u2 m.1 83 v2.toNatClampNeg (nI 0), m.2) → (mm_wp d sn kX11_starts 2 [some (.ref 82), some (.int v1), some (.int (v2 + nI 1))] [] m3 (qV P)))))) :
    mm_wp d sn kX11_starts 2 [some (.ref 82), some (.int v1), some (.int v2)] [] m (qV P) := by
  have hb := mb_153
  refine wp_iload_n hb rfl dX11_starts_2 ?_
  refine wp_bipush hb (x := nI 48) rfl dX11_starts_3 ?_
  refine wp_icmp_ge hb (t := 21) ⟨rfl, rfl⟩ dX11_starts_5 ⟨fun c1 => ?_, fun c1 => ?_⟩
  · have hv := hv.1 c1
    refine wp_aload_n hb rfl dX11_starts_21 ?_
    refine wp_getR hb ko_153 lf_11_11 (by decide) m0_82 r0_82_0 dX11_starts_22 ?_
    refine wp_iconst hb (x := nI 0) rfl dX11_starts_25 ?_
    refine wp_iload_n hb rfl dX11_starts_26 ?_
    refine wp_iastore hb (q := 0) (by decide) m0_83 (by decide) (vp_in_nI (by decide) (by decide)) dX11_starts_27 ?_
    have hv := hv _ rfl
    generalize (mm_u2 m.1 83 0 v1, m.2) = m1 at hv ⊢
    refine wp_aload_n hb rfl dX11_starts_28 ?_
    refine wp_getR hb ko_153 lf_11_11 (by decide) m0_82 r0_82_0 dX11_starts_29 ?_
    refine wp_bipush hb (x := nI 42) rfl dX11_starts_32 ?_
    refine wp_iconst hb (x := nI 2) rfl dX11_starts_34 ?_
    refine wp_iastore hb (q := 42) (by decide) m0_83 (by decide) (vp_in_nI (by decide) (by decide)) dX11_starts_35 ?_
    have hv := hv _ rfl
    generalize (mm_u2 m1.1 83 42 (nI 2), m1.2) = m2 at hv ⊢
    refine wp_iconst hb (x := nI 0) rfl dX11_starts_36 ?_
    refine wp_istore_n hb rfl dX11_starts_37 ?_
    exact wp_for (mm_ls_k (mm_ls_f (mm_ls_k mm_ls_nil))) hv
  · have hv := hv.2 c1
    refine wp_aload_n hb rfl dX11_starts_8 ?_
    refine wp_getR hb ko_153 lf_11_11 (by decide) m0_82 r0_82_0 dX11_starts_9 ?_
    refine wp_iload_n hb rfl dX11_starts_12 ?_
    refine wp_iconst hb (x := nI 0) rfl dX11_starts_13 ?_
    obtain ⟨q2, hv⟩ := hv
    refine wp_iastore hb rfl m0_83 (by decide) q2 dX11_starts_14 ?_
    have hv := hv _ rfl
    generalize (mm_u2 m.1 83 v2.toNatClampNeg (nI 0), m.2) = m3 at hv ⊢
    refine wp_iinc hb rfl (y := v2 + nI 1) rfl rfl dX11_starts_15 ?_
    refine wp_goto hb (t := 2) ⟨rfl, rfl⟩ dX11_starts_18 ?_
    exact wp_for (mm_ls_k (mm_ls_k (mm_ls_k mm_ls_nil))) hv
set_option maxRecDepth 100000 in
theorem v_X11_starts_38 {d sn : Nat} {v2 : Int32} {m : mm_Mem} {P : mm_Mem → Prop} 
    (hv : ((nI 256 ≤ v2) → (P m)) ∧ (¬ (nI 256 ≤ v2) → (vp_in v2 256 ∧ (∀ m1 : mm_Mem, m1 = (mm_u2 m.1 86 v2.toNatClampNeg (vp_nar .boolean (nI 0)), m.2) → (mm_wp d sn kX11_starts 38 [some (.ref 82), none, some (.int (v2 + nI 1))] [] m1 (qV P)))))) :
    mm_wp d sn kX11_starts 38 [some (.ref 82), none, some (.int v2)] [] m (qV P) := by
  have hb := mb_153
  refine wp_iload_n hb rfl dX11_starts_38 ?_
  refine wp_sipush hb (x := nI 256) rfl dX11_starts_39 ?_
  refine wp_icmp_ge hb (t := 60) ⟨rfl, rfl⟩ dX11_starts_42 ⟨fun c1 => ?_, fun c1 => ?_⟩
  · have hv := hv.1 c1
    exact wp_retV hb rfl dX11_starts_60 hv
  · have hv := hv.2 c1
    refine wp_aload_n hb rfl dX11_starts_45 ?_
    refine wp_getR hb ko_153 lf_11_20 (by decide) m0_82 r0_82_2 dX11_starts_46 ?_
    refine wp_iconst hb (x := nI 0) rfl dX11_starts_49 ?_
    refine wp_aaload hb m0_85 (by decide) (vp_in_nI (by decide) (by decide)) r0_85_0 dX11_starts_50 ?_
    refine wp_iload_n hb rfl dX11_starts_51 ?_
    refine wp_iconst hb (x := nI 0) rfl dX11_starts_52 ?_
    obtain ⟨q2, hv⟩ := hv
    refine wp_bastore hb rfl m0_86 (by decide) q2 dX11_starts_53 ?_
    have hv := hv _ rfl
    generalize (mm_u2 m.1 86 v2.toNatClampNeg (vp_nar .boolean (nI 0)), m.2) = m1 at hv ⊢
    refine wp_iinc hb rfl (y := v2 + nI 1) rfl rfl dX11_starts_54 ?_
    refine wp_goto hb (t := 38) ⟨rfl, rfl⟩ dX11_starts_57 ?_
    exact wp_for (mm_ls_k (mm_ls_k (mm_ls_k mm_ls_nil))) hv
set_option maxRecDepth 100000 in
theorem v_X11_size {d sn : Nat} {v0 : Int32} {m : mm_Mem} {P : Int32 → mm_Mem → Prop} 
    (hv : mm_wp d sn kX11_size 4 [some (.int v0), some (.int (nI 0)), some (.int (nI 0))] [] m (qI P)) :
    mm_sp (d + 1) sn kX11_size [.int v0] m (qI P) := by
  have hb := mb_154
  refine wp_in (la := [some (.int v0), none, none]) ⟨⟨Nat.le_of_ble_eq_true rfl, by decide, by decide⟩, rfl⟩ ?_
  refine wp_iconst hb (x := nI 0) rfl dX11_size_0 ?_
  refine wp_istore_n hb rfl dX11_size_1 ?_
  refine wp_iconst hb (x := nI 0) rfl dX11_size_2 ?_
  refine wp_istore_n hb rfl dX11_size_3 ?_
  exact wp_for (mm_ls_k (mm_ls_k (mm_ls_k mm_ls_nil))) hv
set_option maxRecDepth 100000 in
theorem v_X11_size_4 {d sn : Nat} {v0 : Int32} {v1 : Int32} {v2 : Int32} {m : mm_Mem} {P : Int32 → mm_Mem → Prop} 
    (hv : ((nI 8 ≤ v2) → (P v1 m)) ∧ (¬ (nI 8 ≤ v2) → (mm_wp d sn kX11_size 4 [some (.int v0), some (.int (v1 + ((mm_shr v0 v2) &&& (nI 1)))), some (.int (v2 + nI 1))] [] m (qI P)))) :
    mm_wp d sn kX11_size 4 [some (.int v0), some (.int v1), some (.int v2)] [] m (qI P) := by
  have hb := mb_154
  refine wp_iload_n hb rfl dX11_size_4 ?_
  refine wp_bipush hb (x := nI 8) rfl dX11_size_5 ?_
  refine wp_icmp_ge hb (t := 24) ⟨rfl, rfl⟩ dX11_size_7 ⟨fun c1 => ?_, fun c1 => ?_⟩
  · have hv := hv.1 c1
    refine wp_iload_n hb rfl dX11_size_24 ?_
    exact wp_retI hb rfl dX11_size_25 hv
  · have hv := hv.2 c1
    refine wp_iload_n hb rfl dX11_size_10 ?_
    refine wp_iload_n hb rfl dX11_size_11 ?_
    refine wp_iload_n hb rfl dX11_size_12 ?_
    refine wp_ishr hb dX11_size_13 ?_
    refine wp_iconst hb (x := nI 1) rfl dX11_size_14 ?_
    refine wp_iand hb dX11_size_15 ?_
    refine wp_iadd hb dX11_size_16 ?_
    refine wp_istore_n hb rfl dX11_size_17 ?_
    refine wp_iinc hb rfl (y := v2 + nI 1) rfl rfl dX11_size_18 ?_
    refine wp_goto hb (t := 4) ⟨rfl, rfl⟩ dX11_size_21 ?_
    exact wp_for (mm_ls_k (mm_ls_k (mm_ls_k mm_ls_nil))) hv
set_option maxRecDepth 100000 in
theorem v_X11_whole {d sn : Nat} {m : mm_Mem} {P : Int32 → mm_Mem → Prop} 
    (hv : P ((mm_shl (nI 1) (m.1 83 0)) - (nI 1)) m) :
    mm_sp (d + 1) sn kX11_whole [.ref 82] m (qI P) := by
  have hb := mb_155
  refine wp_in (la := [some (.ref 82)]) ⟨⟨Nat.le_of_ble_eq_true rfl, by decide, by decide⟩, rfl⟩ ?_
  refine wp_iconst hb (x := nI 1) rfl dX11_whole_0 ?_
  refine wp_aload_n hb rfl dX11_whole_1 ?_
  refine wp_getR hb ko_155 lf_11_11 (by decide) m0_82 r0_82_0 dX11_whole_2 ?_
  refine wp_iconst hb (x := nI 0) rfl dX11_whole_5 ?_
  refine wp_iaload hb (q := 0) (by decide) m0_83 (vp_in_nI (by decide) (by decide)) dX11_whole_6 ?_
  refine wp_ishl hb dX11_whole_7 ?_
  refine wp_iconst hb (x := nI 1) rfl dX11_whole_8 ?_
  refine wp_isub hb dX11_whole_9 ?_
  exact wp_retI hb rfl dX11_whole_10 hv
set_option maxRecDepth 100000 in
theorem v_X11_isSet {d sn : Nat} {v1 : Int32} {m : mm_Mem} {P : Int32 → mm_Mem → Prop} 
    (hv : mm_sp d sn kX11_whole [.ref 82] m (qI fun x1 m1 => mm_sp d sn kX11_in [.long v1.toInt64, .long (lN 0), .long x1.toInt64] m1 (qI fun x2 m2 => (x2 = 0 ∨ x2 = 1) ∧ P x2 m2))) :
    mm_sp (d + 1) sn kX11_isSet [.ref 82, .int v1] m (qI P) := by
  have hb := mb_156
  refine wp_in (la := [some (.ref 82), some (.int v1)]) ⟨⟨Nat.le_of_ble_eq_true rfl, by decide, by decide⟩, rfl⟩ ?_
  refine wp_iload_n hb rfl dX11_isSet_0 ?_
  refine wp_i2l hb dX11_isSet_1 ?_
  refine wp_lconst hb (x := lN 0) rfl dX11_isSet_2 ?_
  refine wp_aload_n hb rfl dX11_isSet_3 ?_
  refine wp_callV hb (k' := 155) ko_156 lm_11_81 rfl m0_82 (by decide) (Nat.le_of_ble_eq_true rfl) dX11_isSet_4 (sp_cI (hv.I (Nat.le_refl _) ?_))
  intro x1 m1 hv
  refine wp_i2l hb dX11_isSet_7 ?_
  refine wp_callS hb (k' := 152) ko_156 lm_11_85 (by decide) rfl (Nat.le_of_ble_eq_true rfl) dX11_isSet_8 (sp_cI (hv.I (Nat.le_refl _) ?_))
  intro x2 m2 hv
  exact wp_retZ hb rfl hv.1 dX11_isSet_11 hv.2
set_option maxRecDepth 100000 in
theorem v_X11_isPoint {d sn : Nat} {v1 : Int32} {m : mm_Mem} {P : Int32 → mm_Mem → Prop} 
    (hv : mm_sp d sn kX11_in [.long v1.toInt64, .long (lN 0), .long (((m.1 83 0) - (nI 1)).toInt64)] m (qI fun x1 m1 => (x1 = 0 ∨ x1 = 1) ∧ P x1 m1)) :
    mm_sp (d + 1) sn kX11_isPoint [.ref 82, .int v1] m (qI P) := by
  have hb := mb_157
  refine wp_in (la := [some (.ref 82), some (.int v1)]) ⟨⟨Nat.le_of_ble_eq_true rfl, by decide, by decide⟩, rfl⟩ ?_
  refine wp_iload_n hb rfl dX11_isPoint_0 ?_
  refine wp_i2l hb dX11_isPoint_1 ?_
  refine wp_lconst hb (x := lN 0) rfl dX11_isPoint_2 ?_
  refine wp_aload_n hb rfl dX11_isPoint_3 ?_
  refine wp_getR hb ko_157 lf_11_11 (by decide) m0_82 r0_82_0 dX11_isPoint_4 ?_
  refine wp_iconst hb (x := nI 0) rfl dX11_isPoint_7 ?_
  refine wp_iaload hb (q := 0) (by decide) m0_83 (vp_in_nI (by decide) (by decide)) dX11_isPoint_8 ?_
  refine wp_iconst hb (x := nI 1) rfl dX11_isPoint_9 ?_
  refine wp_isub hb dX11_isPoint_10 ?_
  refine wp_i2l hb dX11_isPoint_11 ?_
  refine wp_callS hb (k' := 152) ko_157 lm_11_85 (by decide) rfl (Nat.le_of_ble_eq_true rfl) dX11_isPoint_12 (sp_cI (hv.I (Nat.le_refl _) ?_))
  intro x1 m1 hv
  exact wp_retZ hb rfl hv.1 dX11_isPoint_15 hv.2
set_option maxRecDepth 100000 in
theorem v_X11_isWay {d sn : Nat} {v1 : Int32} {m : mm_Mem} {P : Int32 → mm_Mem → Prop} 
    (hv : mm_sp d sn kX11_in [.long v1.toInt64, .long (lN 0), .long (((m.1 83 1) - (nI 1)).toInt64)] m (qI fun x1 m1 => (x1 = 0 ∨ x1 = 1) ∧ P x1 m1)) :
    mm_sp (d + 1) sn kX11_isWay [.ref 82, .int v1] m (qI P) := by
  have hb := mb_158
  refine wp_in (la := [some (.ref 82), some (.int v1)]) ⟨⟨Nat.le_of_ble_eq_true rfl, by decide, by decide⟩, rfl⟩ ?_
  refine wp_iload_n hb rfl dX11_isWay_0 ?_
  refine wp_i2l hb dX11_isWay_1 ?_
  refine wp_lconst hb (x := lN 0) rfl dX11_isWay_2 ?_
  refine wp_aload_n hb rfl dX11_isWay_3 ?_
  refine wp_getR hb ko_158 lf_11_11 (by decide) m0_82 r0_82_0 dX11_isWay_4 ?_
  refine wp_iconst hb (x := nI 1) rfl dX11_isWay_7 ?_
  refine wp_iaload hb (q := 1) (by decide) m0_83 (vp_in_nI (by decide) (by decide)) dX11_isWay_8 ?_
  refine wp_iconst hb (x := nI 1) rfl dX11_isWay_9 ?_
  refine wp_isub hb dX11_isWay_10 ?_
  refine wp_i2l hb dX11_isWay_11 ?_
  refine wp_callS hb (k' := 152) ko_158 lm_11_85 (by decide) rfl (Nat.le_of_ble_eq_true rfl) dX11_isWay_12 (sp_cI (hv.I (Nat.le_refl _) ?_))
  intro x1 m1 hv
  exact wp_retZ hb rfl hv.1 dX11_isWay_15 hv.2
set_option maxRecDepth 100000 in
theorem v_X11_points {d sn : Nat} {v1 : Int32} {m : mm_Mem} {P : Int32 → mm_Mem → Prop} 
    (hv : mm_sp d sn kX11_in [.long v1.toInt64, .long (lN 3), .long (lN 8)] m (qI fun x1 m1 => ((¬ x1 = 0) → (mm_sp d sn kX11_starts [.ref 82, .int v1] m1 (qV fun m2 => P (m1.1 83 0) m2))) ∧ (¬ (¬ x1 = 0) → (P (-2) m1)))) :
    mm_sp (d + 1) sn kX11_points [.ref 82, .int v1] m (qI P) := by
  have hb := mb_159
  refine wp_in (la := [some (.ref 82), some (.int v1), none]) ⟨⟨Nat.le_of_ble_eq_true rfl, by decide, by decide⟩, rfl⟩ ?_
  refine wp_iload_n hb rfl dX11_points_0 ?_
  refine wp_i2l hb dX11_points_1 ?_
  refine wp_ldc2 hb (ko_159) (kl_11_89) dX11_points_2 ?_
  refine wp_ldc2 hb (ko_159) (kl_11_91) dX11_points_5 ?_
  refine wp_callS hb (k' := 152) ko_159 lm_11_85 (by decide) rfl (Nat.le_of_ble_eq_true rfl) dX11_points_8 (sp_cI (hv.I (Nat.le_refl _) ?_))
  intro x1 m1 hv
  refine wp_if_ne hb (y := 0) (t := 17) ⟨rfl, rfl⟩ dX11_points_11 ⟨fun c2 => ?_, fun c2 => ?_⟩
  · have hv := hv.1 c2
    refine wp_aload_n hb rfl dX11_points_17 ?_
    refine wp_getR hb ko_159 lf_11_11 (by decide) m0_82 r0_82_0 dX11_points_18 ?_
    refine wp_iconst hb (x := nI 0) rfl dX11_points_21 ?_
    refine wp_iaload hb (q := 0) (by decide) m0_83 (vp_in_nI (by decide) (by decide)) dX11_points_22 ?_
    refine wp_istore_n hb rfl dX11_points_23 ?_
    refine wp_aload_n hb rfl dX11_points_24 ?_
    refine wp_iload_n hb rfl dX11_points_25 ?_
    refine wp_callV hb (k' := 153) ko_159 lm_11_77 rfl m0_82 (by decide) (Nat.le_of_ble_eq_true rfl) dX11_points_26 (sp_cV (hv.V (Nat.le_refl _) ?_))
    intro m2 hv
    refine wp_iload_n hb rfl dX11_points_29 ?_
    exact wp_retI hb rfl dX11_points_30 hv
  · have hv := hv.2 c2
    refine wp_bipush hb (x := (-2)) rfl dX11_points_14 ?_
    exact wp_retI hb rfl dX11_points_16 hv
set_option maxRecDepth 100000 in
theorem v_X11_common {d sn : Nat} {v0 : Int32} {v1 : Int32} {m : mm_Mem} {P : Int32 → mm_Mem → Prop} 
    (hv : ((¬ v1 = 0) → ((¬ v1 = 0) ∧ (mm_sp d sn kX11_common [.int v1, .int (mm_rem v0 v1)] m (qI fun x3 m1 => P x3 m1)))) ∧ (¬ (¬ v1 = 0) → (P v0 m))) :
    mm_sp (d + 1) sn kX11_common [.int v0, .int v1] m (qI P) := by
  have hb := mb_160
  refine wp_in (la := [some (.int v0), some (.int v1)]) ⟨⟨Nat.le_of_ble_eq_true rfl, by decide, by decide⟩, rfl⟩ ?_
  refine wp_iload_n hb rfl dX11_common_0 ?_
  refine wp_if_ne hb (y := 0) (t := 8) ⟨rfl, rfl⟩ dX11_common_1 ⟨fun c1 => ?_, fun c1 => ?_⟩
  · have hv := hv.1 c1
    refine wp_iload_n hb rfl dX11_common_8 ?_
    refine wp_iload_n hb rfl dX11_common_9 ?_
    refine wp_iload_n hb rfl dX11_common_10 ?_
    obtain ⟨q2, hv⟩ := hv
    refine wp_irem hb q2 dX11_common_11 ?_
    refine wp_callS hb (k' := 160) ko_160 lm_11_93 (by decide) rfl (Nat.le_of_ble_eq_true rfl) dX11_common_12 (sp_cI (hv.I (Nat.le_refl _) ?_))
    intro x3 m1 hv
    exact wp_retI hb rfl dX11_common_15 hv
  · have hv := hv.2 c1
    refine wp_iload_n hb rfl dX11_common_4 ?_
    refine wp_goto hb (t := 15) ⟨rfl, rfl⟩ dX11_common_5 ?_
    exact wp_retI hb rfl dX11_common_15 hv
set_option maxRecDepth 100000 in
theorem v_X11_goes {d sn : Nat} {v1 : Int32} {v2 : Int32} {v3 : Int32} {m : mm_Mem} {P : Int32 → mm_Mem → Prop} 
    (hv : (v1 = nI 0 → ((¬ m.1 83 0 = 0) ∧ (P (mm_rem (v3 + v2) (m.1 83 0)) m))) ∧ (v1 = nI 1 → ((¬ m.1 83 0 = 0) ∧ (P (mm_rem ((v2 - v3) + ((nI 2) * (m.1 83 0))) (m.1 83 0)) m))) ∧ (v1 = nI 2 → ((¬ m.1 83 0 = 0) ∧ (P (mm_rem (v3 * v2) (m.1 83 0)) m))) ∧ (v1 = nI 3 → ((¬ m.1 83 0 = 0) ∧ ((¬ m.1 83 0 = 0) ∧ (((¬ v3 = mm_rem v2 (m.1 83 0)) → (((¬ v3 = mm_rem ((mm_rem v2 (m.1 83 0)) + (nI 1)) (m.1 83 0)) → (P v3 m)) ∧ (¬ (¬ v3 = mm_rem ((mm_rem v2 (m.1 83 0)) + (nI 1)) (m.1 83 0)) → (P (mm_rem v2 (m.1 83 0)) m)))) ∧ (¬ (¬ v3 = mm_rem v2 (m.1 83 0)) → (P (mm_rem ((mm_rem v2 (m.1 83 0)) + (nI 1)) (m.1 83 0)) m)))))) ∧ (¬ v1 = nI 0 → ¬ v1 = nI 1 → ¬ v1 = nI 2 → ¬ v1 = nI 3 → (((¬ v3 = (m.1 83 0) - (nI 1)) → ((¬ (m.1 83 0) - (nI 1) = 0) ∧ (P (mm_rem (v3 + v2) ((m.1 83 0) - (nI 1))) m))) ∧ (¬ (¬ v3 = (m.1 83 0) - (nI 1)) → (P v3 m))))) :
    mm_sp (d + 1) sn kX11_goes [.ref 82, .int v1, .int v2, .int v3] m (qI P) := by
  have hb := mb_161
  refine wp_in (la := [some (.ref 82), some (.int v1), some (.int v2), some (.int v3), none, none, none]) ⟨⟨Nat.le_of_ble_eq_true rfl, by decide, by decide⟩, rfl⟩ ?_
  refine wp_aload_n hb rfl dX11_goes_0 ?_
  refine wp_getR hb ko_161 lf_11_11 (by decide) m0_82 r0_82_0 dX11_goes_1 ?_
  refine wp_iconst hb (x := nI 0) rfl dX11_goes_4 ?_
  refine wp_iaload hb (q := 0) (by decide) m0_83 (vp_in_nI (by decide) (by decide)) dX11_goes_5 ?_
  refine wp_istore hb rfl dX11_goes_6 ?_
  refine wp_iload_n hb rfl dX11_goes_8 ?_
  by_cases hc : v1.toInt < 0 ∨ 3 < v1.toInt
  · refine wp_tabO hb hc (t := 105) ⟨rfl, rfl⟩ dX11_goes_9 ?_
    have hv := hv.2.2.2.2 (mm_out hc (by decide) (by decide)) (mm_out hc (by decide) (by decide)) (mm_out hc (by decide) (by decide)) (mm_out hc (by decide) (by decide))
    refine wp_iload_n hb rfl dX11_goes_105 ?_
    refine wp_iload hb rfl dX11_goes_106 ?_
    refine wp_iconst hb (x := nI 1) rfl dX11_goes_108 ?_
    refine wp_isub hb dX11_goes_109 ?_
    refine wp_icmp_ne hb (t := 117) ⟨rfl, rfl⟩ dX11_goes_110 ⟨fun c1 => ?_, fun c1 => ?_⟩
    · have hv := hv.1 c1
      refine wp_iload_n hb rfl dX11_goes_117 ?_
      refine wp_iload_n hb rfl dX11_goes_118 ?_
      refine wp_iadd hb dX11_goes_119 ?_
      refine wp_iload hb rfl dX11_goes_120 ?_
      refine wp_iconst hb (x := nI 1) rfl dX11_goes_122 ?_
      refine wp_isub hb dX11_goes_123 ?_
      obtain ⟨q2, hv⟩ := hv
      refine wp_irem hb q2 dX11_goes_124 ?_
      exact wp_retI hb rfl dX11_goes_125 hv
    · have hv := hv.2 c1
      refine wp_iload_n hb rfl dX11_goes_113 ?_
      refine wp_goto hb (t := 125) ⟨rfl, rfl⟩ dX11_goes_114 ?_
      exact wp_retI hb rfl dX11_goes_125 hv
  · have hx := mm_tabc (n := 4) (lo := 0) (by decide) hc (by decide)
    obtain ⟨j, hj, hx⟩ := hx
    by_cases g0 : j = 0
    · subst g0
      have hv := hv.1 hx
      have hc9 := hc
      rw [hx] at hc9 ⊢
      refine wp_tabI hb (off := 31) hc9 rfl (t := 40) ⟨rfl, rfl⟩ dX11_goes_9 ?_
      refine wp_iload_n hb rfl dX11_goes_40 ?_
      refine wp_iload_n hb rfl dX11_goes_41 ?_
      refine wp_iadd hb dX11_goes_42 ?_
      refine wp_iload hb rfl dX11_goes_43 ?_
      obtain ⟨q4, hv⟩ := hv
      refine wp_irem hb q4 dX11_goes_45 ?_
      exact wp_retI hb rfl dX11_goes_46 hv
    by_cases g1 : j = 1
    · subst g1
      have hv := hv.2.1 hx
      have hc9 := hc
      rw [hx] at hc9 ⊢
      refine wp_tabI hb (off := 38) hc9 rfl (t := 47) ⟨rfl, rfl⟩ dX11_goes_9 ?_
      refine wp_iload_n hb rfl dX11_goes_47 ?_
      refine wp_iload_n hb rfl dX11_goes_48 ?_
      refine wp_isub hb dX11_goes_49 ?_
      refine wp_iconst hb (x := nI 2) rfl dX11_goes_50 ?_
      refine wp_iload hb rfl dX11_goes_51 ?_
      refine wp_imul hb dX11_goes_53 ?_
      refine wp_iadd hb dX11_goes_54 ?_
      refine wp_iload hb rfl dX11_goes_55 ?_
      obtain ⟨q6, hv⟩ := hv
      refine wp_irem hb q6 dX11_goes_57 ?_
      exact wp_retI hb rfl dX11_goes_58 hv
    by_cases g2 : j = 2
    · subst g2
      have hv := hv.2.2.1 hx
      have hc9 := hc
      rw [hx] at hc9 ⊢
      refine wp_tabI hb (off := 50) hc9 rfl (t := 59) ⟨rfl, rfl⟩ dX11_goes_9 ?_
      refine wp_iload_n hb rfl dX11_goes_59 ?_
      refine wp_iload_n hb rfl dX11_goes_60 ?_
      refine wp_imul hb dX11_goes_61 ?_
      refine wp_iload hb rfl dX11_goes_62 ?_
      obtain ⟨q8, hv⟩ := hv
      refine wp_irem hb q8 dX11_goes_64 ?_
      exact wp_retI hb rfl dX11_goes_65 hv
    by_cases g3 : j = 3
    · subst g3
      have hv := hv.2.2.2.1 hx
      have hc9 := hc
      rw [hx] at hc9 ⊢
      refine wp_tabI hb (off := 57) hc9 rfl (t := 66) ⟨rfl, rfl⟩ dX11_goes_9 ?_
      refine wp_iload_n hb rfl dX11_goes_66 ?_
      refine wp_iload hb rfl dX11_goes_67 ?_
      obtain ⟨q10, hv⟩ := hv
      refine wp_irem hb q10 dX11_goes_69 ?_
      refine wp_istore hb rfl dX11_goes_70 ?_
      refine wp_iload hb rfl dX11_goes_72 ?_
      refine wp_iconst hb (x := nI 1) rfl dX11_goes_74 ?_
      refine wp_iadd hb dX11_goes_75 ?_
      refine wp_iload hb rfl dX11_goes_76 ?_
      obtain ⟨q11, hv⟩ := hv
      refine wp_irem hb q11 dX11_goes_78 ?_
      refine wp_istore hb rfl dX11_goes_79 ?_
      refine wp_iload_n hb rfl dX11_goes_81 ?_
      refine wp_iload hb rfl dX11_goes_82 ?_
      refine wp_icmp_ne hb (t := 92) ⟨rfl, rfl⟩ dX11_goes_84 ⟨fun c12 => ?_, fun c12 => ?_⟩
      · have hv := hv.1 c12
        refine wp_iload_n hb rfl dX11_goes_92 ?_
        refine wp_iload hb rfl dX11_goes_93 ?_
        refine wp_icmp_ne hb (t := 103) ⟨rfl, rfl⟩ dX11_goes_95 ⟨fun c13 => ?_, fun c13 => ?_⟩
        · have hv := hv.1 c13
          refine wp_iload_n hb rfl dX11_goes_103 ?_
          exact wp_retI hb rfl dX11_goes_104 hv
        · have hv := hv.2 c13
          refine wp_iload hb rfl dX11_goes_98 ?_
          refine wp_goto hb (t := 104) ⟨rfl, rfl⟩ dX11_goes_100 ?_
          exact wp_retI hb rfl dX11_goes_104 hv
      · have hv := hv.2 c12
        refine wp_iload hb rfl dX11_goes_87 ?_
        refine wp_goto hb (t := 104) ⟨rfl, rfl⟩ dX11_goes_89 ?_
        exact wp_retI hb rfl dX11_goes_104 hv
    omega
set_option maxRecDepth 100000 in
theorem v_X11_way {d sn : Nat} {v1 : Int32} {v2 : Int32} {m : mm_Mem} {P : Int32 → mm_Mem → Prop} 
    (hv : mm_sp d sn kX11_in [.long v1.toInt64, .long (lN 0), .long (lN 4)] m (qI fun x1 m1 => ((¬ x1 = 0) → (mm_sp d sn kX11_in [.long v2.toInt64, .long (lN 0), .long (lN 9)] m1 (qI fun x3 m2 => ((x3 = 0) → (P (-2) m2)) ∧ (¬ (x3 = 0) → (((¬ v1 = nI 2) → (((¬ m2.1 83 1 = nI 4) → (vp_in ((nI 2) + (m2.1 83 1)) 48 ∧ (∀ m3 : mm_Mem, m3 = (mm_u2 m2.1 83 ((nI 2) + (m2.1 83 1)).toNatClampNeg v1, m2.2) → (vp_in ((nI 6) + (m2.1 83 1)) 48 ∧ (∀ m4 : mm_Mem, m4 = (mm_u2 m3.1 83 ((nI 6) + (m2.1 83 1)).toNatClampNeg v2, m3.2) → (mm_wp d sn kX11_way 90 [some (.ref 82), some (.int v1), some (.int v2), some (.int (m2.1 83 1)), some (.int (nI 0))] [] m4 (qI P))))))) ∧ (¬ (¬ m2.1 83 1 = nI 4) → (P (-4) m2)))) ∧ (¬ (¬ v1 = nI 2) → (mm_sp d sn kX11_common [.int (m2.1 83 0), .int v2] m2 (qI fun x9 m5 => ((x9 = nI 1) → (((¬ m5.1 83 1 = nI 4) → (vp_in ((nI 2) + (m5.1 83 1)) 48 ∧ (∀ m6 : mm_Mem, m6 = (mm_u2 m5.1 83 ((nI 2) + (m5.1 83 1)).toNatClampNeg v1, m5.2) → (vp_in ((nI 6) + (m5.1 83 1)) 48 ∧ (∀ m7 : mm_Mem, m7 = (mm_u2 m6.1 83 ((nI 6) + (m5.1 83 1)).toNatClampNeg v2, m6.2) → (mm_wp d sn kX11_way 90 [some (.ref 82), some (.int v1), some (.int v2), some (.int (m5.1 83 1)), some (.int (nI 0))] [] m7 (qI P))))))) ∧ (¬ (¬ m5.1 83 1 = nI 4) → (P (-4) m5)))) ∧ (¬ (x9 = nI 1) → (P (-2) m5)))))))))) ∧ (¬ (¬ x1 = 0) → (P (-1) m1)))) :
    mm_sp (d + 1) sn kX11_way [.ref 82, .int v1, .int v2] m (qI P) := by
  have hb := mb_162
  refine wp_in (la := [some (.ref 82), some (.int v1), some (.int v2), none, none]) ⟨⟨Nat.le_of_ble_eq_true rfl, by decide, by decide⟩, rfl⟩ ?_
  refine wp_iload_n hb rfl dX11_way_0 ?_
  refine wp_i2l hb dX11_way_1 ?_
  refine wp_lconst hb (x := lN 0) rfl dX11_way_2 ?_
  refine wp_ldc2 hb (ko_162) (kl_11_97) dX11_way_3 ?_
  refine wp_callS hb (k' := 152) ko_162 lm_11_85 (by decide) rfl (Nat.le_of_ble_eq_true rfl) dX11_way_6 (sp_cI (hv.I (Nat.le_refl _) ?_))
  intro x1 m1 hv
  refine wp_if_ne hb (y := 0) (t := 14) ⟨rfl, rfl⟩ dX11_way_9 ⟨fun c2 => ?_, fun c2 => ?_⟩
  · have hv := hv.1 c2
    refine wp_iload_n hb rfl dX11_way_14 ?_
    refine wp_i2l hb dX11_way_15 ?_
    refine wp_lconst hb (x := lN 0) rfl dX11_way_16 ?_
    refine wp_ldc2 hb (ko_162) (kl_11_99) dX11_way_17 ?_
    refine wp_callS hb (k' := 152) ko_162 lm_11_85 (by decide) rfl (Nat.le_of_ble_eq_true rfl) dX11_way_20 (sp_cI (hv.I (Nat.le_refl _) ?_))
    intro x3 m2 hv
    refine wp_if_eq hb (y := 0) (t := 45) ⟨rfl, rfl⟩ dX11_way_23 ⟨fun c4 => ?_, fun c4 => ?_⟩
    · have hv := hv.1 c4
      refine wp_bipush hb (x := (-2)) rfl dX11_way_45 ?_
      exact wp_retI hb rfl dX11_way_47 hv
    · have hv := hv.2 c4
      refine wp_iload_n hb rfl dX11_way_26 ?_
      refine wp_iconst hb (x := nI 2) rfl dX11_way_27 ?_
      refine wp_icmp_ne hb (t := 48) ⟨rfl, rfl⟩ dX11_way_28 ⟨fun c5 => ?_, fun c5 => ?_⟩
      · have hv := hv.1 c5
        refine wp_aload_n hb rfl dX11_way_48 ?_
        refine wp_getR hb ko_162 lf_11_11 (by decide) m0_82 r0_82_0 dX11_way_49 ?_
        refine wp_iconst hb (x := nI 1) rfl dX11_way_52 ?_
        refine wp_iaload hb (q := 1) (by decide) m0_83 (vp_in_nI (by decide) (by decide)) dX11_way_53 ?_
        refine wp_iconst hb (x := nI 4) rfl dX11_way_54 ?_
        refine wp_icmp_ne hb (t := 61) ⟨rfl, rfl⟩ dX11_way_55 ⟨fun c6 => ?_, fun c6 => ?_⟩
        · have hv := hv.1 c6
          refine wp_aload_n hb rfl dX11_way_61 ?_
          refine wp_getR hb ko_162 lf_11_11 (by decide) m0_82 r0_82_0 dX11_way_62 ?_
          refine wp_iconst hb (x := nI 1) rfl dX11_way_65 ?_
          refine wp_iaload hb (q := 1) (by decide) m0_83 (vp_in_nI (by decide) (by decide)) dX11_way_66 ?_
          refine wp_istore_n hb rfl dX11_way_67 ?_
          refine wp_aload_n hb rfl dX11_way_68 ?_
          refine wp_getR hb ko_162 lf_11_11 (by decide) m0_82 r0_82_0 dX11_way_69 ?_
          refine wp_iconst hb (x := nI 2) rfl dX11_way_72 ?_
          refine wp_iload_n hb rfl dX11_way_73 ?_
          refine wp_iadd hb dX11_way_74 ?_
          refine wp_iload_n hb rfl dX11_way_75 ?_
          obtain ⟨q7, hv⟩ := hv
          refine wp_iastore hb rfl m0_83 (by decide) q7 dX11_way_76 ?_
          have hv := hv _ rfl
          generalize (mm_u2 m2.1 83 ((nI 2) + (m2.1 83 1)).toNatClampNeg v1, m2.2) = m3 at hv ⊢
          refine wp_aload_n hb rfl dX11_way_77 ?_
          refine wp_getR hb ko_162 lf_11_11 (by decide) m0_82 r0_82_0 dX11_way_78 ?_
          refine wp_bipush hb (x := nI 6) rfl dX11_way_81 ?_
          refine wp_iload_n hb rfl dX11_way_83 ?_
          refine wp_iadd hb dX11_way_84 ?_
          refine wp_iload_n hb rfl dX11_way_85 ?_
          obtain ⟨q8, hv⟩ := hv
          refine wp_iastore hb rfl m0_83 (by decide) q8 dX11_way_86 ?_
          have hv := hv _ rfl
          generalize (mm_u2 m3.1 83 ((nI 6) + (m2.1 83 1)).toNatClampNeg v2, m3.2) = m4 at hv ⊢
          refine wp_iconst hb (x := nI 0) rfl dX11_way_87 ?_
          refine wp_istore hb rfl dX11_way_88 ?_
          exact wp_for (mm_ls_k (mm_ls_k (mm_ls_k (mm_ls_k (mm_ls_k mm_ls_nil))))) hv
        · have hv := hv.2 c6
          refine wp_bipush hb (x := (-4)) rfl dX11_way_58 ?_
          exact wp_retI hb rfl dX11_way_60 hv
      · have hv := hv.2 c5
        refine wp_aload_n hb rfl dX11_way_31 ?_
        refine wp_getR hb ko_162 lf_11_11 (by decide) m0_82 r0_82_0 dX11_way_32 ?_
        refine wp_iconst hb (x := nI 0) rfl dX11_way_35 ?_
        refine wp_iaload hb (q := 0) (by decide) m0_83 (vp_in_nI (by decide) (by decide)) dX11_way_36 ?_
        refine wp_iload_n hb rfl dX11_way_37 ?_
        refine wp_callS hb (k' := 160) ko_162 lm_11_93 (by decide) rfl (Nat.le_of_ble_eq_true rfl) dX11_way_38 (sp_cI (hv.I (Nat.le_refl _) ?_))
        intro x9 m5 hv
        refine wp_iconst hb (x := nI 1) rfl dX11_way_41 ?_
        refine wp_icmp_eq hb (t := 48) ⟨rfl, rfl⟩ dX11_way_42 ⟨fun c10 => ?_, fun c10 => ?_⟩
        · have hv := hv.1 c10
          refine wp_aload_n hb rfl dX11_way_48 ?_
          refine wp_getR hb ko_162 lf_11_11 (by decide) m0_82 r0_82_0 dX11_way_49 ?_
          refine wp_iconst hb (x := nI 1) rfl dX11_way_52 ?_
          refine wp_iaload hb (q := 1) (by decide) m0_83 (vp_in_nI (by decide) (by decide)) dX11_way_53 ?_
          refine wp_iconst hb (x := nI 4) rfl dX11_way_54 ?_
          refine wp_icmp_ne hb (t := 61) ⟨rfl, rfl⟩ dX11_way_55 ⟨fun c11 => ?_, fun c11 => ?_⟩
          · have hv := hv.1 c11
            refine wp_aload_n hb rfl dX11_way_61 ?_
            refine wp_getR hb ko_162 lf_11_11 (by decide) m0_82 r0_82_0 dX11_way_62 ?_
            refine wp_iconst hb (x := nI 1) rfl dX11_way_65 ?_
            refine wp_iaload hb (q := 1) (by decide) m0_83 (vp_in_nI (by decide) (by decide)) dX11_way_66 ?_
            refine wp_istore_n hb rfl dX11_way_67 ?_
            refine wp_aload_n hb rfl dX11_way_68 ?_
            refine wp_getR hb ko_162 lf_11_11 (by decide) m0_82 r0_82_0 dX11_way_69 ?_
            refine wp_iconst hb (x := nI 2) rfl dX11_way_72 ?_
            refine wp_iload_n hb rfl dX11_way_73 ?_
            refine wp_iadd hb dX11_way_74 ?_
            refine wp_iload_n hb rfl dX11_way_75 ?_
            obtain ⟨q12, hv⟩ := hv
            refine wp_iastore hb rfl m0_83 (by decide) q12 dX11_way_76 ?_
            have hv := hv _ rfl
            generalize (mm_u2 m5.1 83 ((nI 2) + (m5.1 83 1)).toNatClampNeg v1, m5.2) = m6 at hv ⊢
            refine wp_aload_n hb rfl dX11_way_77 ?_
            refine wp_getR hb ko_162 lf_11_11 (by decide) m0_82 r0_82_0 dX11_way_78 ?_
            refine wp_bipush hb (x := nI 6) rfl dX11_way_81 ?_
            refine wp_iload_n hb rfl dX11_way_83 ?_
            refine wp_iadd hb dX11_way_84 ?_
            refine wp_iload_n hb rfl dX11_way_85 ?_
            obtain ⟨q13, hv⟩ := hv
            refine wp_iastore hb rfl m0_83 (by decide) q13 dX11_way_86 ?_
            have hv := hv _ rfl
            generalize (mm_u2 m6.1 83 ((nI 6) + (m5.1 83 1)).toNatClampNeg v2, m6.2) = m7 at hv ⊢
            refine wp_iconst hb (x := nI 0) rfl dX11_way_87 ?_
            refine wp_istore hb rfl dX11_way_88 ?_
            exact wp_for (mm_ls_k (mm_ls_k (mm_ls_k (mm_ls_k (mm_ls_k mm_ls_nil))))) hv
          · have hv := hv.2 c11
            refine wp_bipush hb (x := (-4)) rfl dX11_way_58 ?_
            exact wp_retI hb rfl dX11_way_60 hv
        · have hv := hv.2 c10
          refine wp_bipush hb (x := (-2)) rfl dX11_way_45 ?_
          exact wp_retI hb rfl dX11_way_47 hv
  · have hv := hv.2 c2
    refine wp_iconst hb (x := (-1)) rfl dX11_way_12 ?_
    exact wp_retI hb rfl dX11_way_13 hv
set_option maxRecDepth 100000 in
theorem v_X11_way_90 {d sn : Nat} {v1 : Int32} {v2 : Int32} {v3 : Int32} {v4 : Int32} {m : mm_Mem} {P : Int32 → mm_Mem → Prop} 
    (hv : ((m.1 83 0 ≤ v4) → (∀ m1 : mm_Mem, m1 = (mm_u2 m.1 83 1 ((m.1 83 1) + (nI 1)), m.2) → (P v3 m1))) ∧ (¬ (m.1 83 0 ≤ v4) → (mm_sp d sn kX11_goes [.ref 82, .int v1, .int v2, .int v4] m (qI fun x2 m2 => vp_in (((nI 10) + ((nI 8) * v3)) + v4) 48 ∧ (∀ m3 : mm_Mem, m3 = (mm_u2 m2.1 83 (((nI 10) + ((nI 8) * v3)) + v4).toNatClampNeg x2, m2.2) → (mm_wp d sn kX11_way 90 [some (.ref 82), some (.int v1), some (.int v2), some (.int v3), some (.int (v4 + nI 1))] [] m3 (qI P))))))) :
    mm_wp d sn kX11_way 90 [some (.ref 82), some (.int v1), some (.int v2), some (.int v3), some (.int v4)] [] m (qI P) := by
  have hb := mb_162
  refine wp_iload hb rfl dX11_way_90 ?_
  refine wp_aload_n hb rfl dX11_way_92 ?_
  refine wp_getR hb ko_162 lf_11_11 (by decide) m0_82 r0_82_0 dX11_way_93 ?_
  refine wp_iconst hb (x := nI 0) rfl dX11_way_96 ?_
  refine wp_iaload hb (q := 0) (by decide) m0_83 (vp_in_nI (by decide) (by decide)) dX11_way_97 ?_
  refine wp_icmp_ge hb (t := 130) ⟨rfl, rfl⟩ dX11_way_98 ⟨fun c1 => ?_, fun c1 => ?_⟩
  · have hv := hv.1 c1
    refine wp_aload_n hb rfl dX11_way_130 ?_
    refine wp_getR hb ko_162 lf_11_11 (by decide) m0_82 r0_82_0 dX11_way_131 ?_
    refine wp_iconst hb (x := nI 1) rfl dX11_way_134 ?_
    refine wp_dup2 hb dX11_way_135 ?_
    refine wp_iaload hb (q := 1) (by decide) m0_83 (vp_in_nI (by decide) (by decide)) dX11_way_136 ?_
    refine wp_iconst hb (x := nI 1) rfl dX11_way_137 ?_
    refine wp_iadd hb dX11_way_138 ?_
    refine wp_iastore hb (q := 1) (by decide) m0_83 (by decide) (vp_in_nI (by decide) (by decide)) dX11_way_139 ?_
    have hv := hv _ rfl
    generalize (mm_u2 m.1 83 1 ((m.1 83 1) + (nI 1)), m.2) = m1 at hv ⊢
    refine wp_iload_n hb rfl dX11_way_140 ?_
    exact wp_retI hb rfl dX11_way_141 hv
  · have hv := hv.2 c1
    refine wp_aload_n hb rfl dX11_way_101 ?_
    refine wp_getR hb ko_162 lf_11_11 (by decide) m0_82 r0_82_0 dX11_way_102 ?_
    refine wp_bipush hb (x := nI 10) rfl dX11_way_105 ?_
    refine wp_bipush hb (x := nI 8) rfl dX11_way_107 ?_
    refine wp_iload_n hb rfl dX11_way_109 ?_
    refine wp_imul hb dX11_way_110 ?_
    refine wp_iadd hb dX11_way_111 ?_
    refine wp_iload hb rfl dX11_way_112 ?_
    refine wp_iadd hb dX11_way_114 ?_
    refine wp_aload_n hb rfl dX11_way_115 ?_
    refine wp_iload_n hb rfl dX11_way_116 ?_
    refine wp_iload_n hb rfl dX11_way_117 ?_
    refine wp_iload hb rfl dX11_way_118 ?_
    refine wp_callV hb (k' := 161) ko_162 lm_11_101 rfl m0_82 (by decide) (Nat.le_of_ble_eq_true rfl) dX11_way_120 (sp_cI (hv.I (Nat.le_refl _) ?_))
    intro x2 m2 hv
    obtain ⟨q3, hv⟩ := hv
    refine wp_iastore hb rfl m0_83 (by decide) q3 dX11_way_123 ?_
    have hv := hv _ rfl
    generalize (mm_u2 m2.1 83 (((nI 10) + ((nI 8) * v3)) + v4).toNatClampNeg x2, m2.2) = m3 at hv ⊢
    refine wp_iinc hb rfl (y := v4 + nI 1) rfl rfl dX11_way_124 ?_
    refine wp_goto hb (t := 90) ⟨rfl, rfl⟩ dX11_way_127 ?_
    exact wp_for (mm_ls_k (mm_ls_k (mm_ls_k (mm_ls_k (mm_ls_k mm_ls_nil))))) hv
set_option maxRecDepth 100000 in
theorem v_X11_hand {d sn : Nat} {v1 : Int32} {m : mm_Mem} {P : Int32 → mm_Mem → Prop} 
    (hv : mm_wp d sn kX11_hand 14 [some (.ref 82), none, some (.int v1), some (.int (nI 0)), some (.int ((m.1 83 0) - (nI 1))), none] [] m (qI P)) :
    mm_sp (d + 1) sn kX11_hand [.ref 82, .int v1] m (qI P) := by
  have hb := mb_163
  refine wp_in (la := [some (.ref 82), some (.int v1), none, none, none, none]) ⟨⟨Nat.le_of_ble_eq_true rfl, by decide, by decide⟩, rfl⟩ ?_
  refine wp_iload_n hb rfl dX11_hand_0 ?_
  refine wp_istore_n hb rfl dX11_hand_1 ?_
  refine wp_iconst hb (x := nI 0) rfl dX11_hand_2 ?_
  refine wp_istore_n hb rfl dX11_hand_3 ?_
  refine wp_aload_n hb rfl dX11_hand_4 ?_
  refine wp_getR hb ko_163 lf_11_11 (by decide) m0_82 r0_82_0 dX11_hand_5 ?_
  refine wp_iconst hb (x := nI 0) rfl dX11_hand_8 ?_
  refine wp_iaload hb (q := 0) (by decide) m0_83 (vp_in_nI (by decide) (by decide)) dX11_hand_9 ?_
  refine wp_iconst hb (x := nI 1) rfl dX11_hand_10 ?_
  refine wp_isub hb dX11_hand_11 ?_
  refine wp_istore hb rfl dX11_hand_12 ?_
  exact wp_for (mm_ls_k (mm_ls_f (mm_ls_k (mm_ls_k (mm_ls_k (mm_ls_k mm_ls_nil)))))) hv
set_option maxRecDepth 100000 in
theorem v_X11_hand_14 {d sn : Nat} {v2 : Int32} {v3 : Int32} {v4 : Int32} {m : mm_Mem} {P : Int32 → mm_Mem → Prop} 
    (hv : ((v4 < 0) → (((v2 = 0) → (((¬ m.1 83 1 = nI 4) → (vp_in ((nI 2) + (m.1 83 1)) 48 ∧ (∀ m1 : mm_Mem, m1 = (mm_u2 m.1 83 ((nI 2) + (m.1 83 1)).toNatClampNeg (nI 5), m.2) → (vp_in ((nI 6) + (m.1 83 1)) 48 ∧ (∀ m2 : mm_Mem, m2 = (mm_u2 m1.1 83 ((nI 6) + (m.1 83 1)).toNatClampNeg (nI 0), m1.2) → (mm_wp d sn kX11_hand 132 [some (.ref 82), none, none, none, some (.int (m.1 83 1)), some (.int (nI 0))] [] m2 (qI P))))))) ∧ (¬ (¬ m.1 83 1 = nI 4) → (P (-4) m)))) ∧ (¬ (v2 = 0) → (P (-2) m)))) ∧ (¬ (v4 < 0) → (((v2 < 0) → (P (-2) m)) ∧ (¬ (v2 < 0) → (mm_sp d sn kX11_isPoint [.ref 82, .int ((mm_rem v2 (nI 10)) - (nI 1))] m (qI fun x7 m3 => ((x7 = 0) → (P (-2) m3)) ∧ (¬ (x7 = 0) → (((¬ (mm_shr v3 ((mm_rem v2 (nI 10)) - (nI 1))) &&& (nI 1) = nI 1) → (vp_in v4 8 ∧ (∀ m4 : mm_Mem, m4 = (mm_u2 m3.1 97 v4.toNatClampNeg ((mm_rem v2 (nI 10)) - (nI 1)), m3.2) → (mm_wp d sn kX11_hand 14 [some (.ref 82), none, some (.int (v2 / (nI 10))), some (.int (v3 ||| (mm_shl (nI 1) ((mm_rem v2 (nI 10)) - (nI 1))))), some (.int (v4 + (-1))), none] [] m4 (qI P))))) ∧ (¬ (¬ (mm_shr v3 ((mm_rem v2 (nI 10)) - (nI 1))) &&& (nI 1) = nI 1) → (P (-2) m3)))))))))) :
    mm_wp d sn kX11_hand 14 [some (.ref 82), none, some (.int v2), some (.int v3), some (.int v4), none] [] m (qI P) := by
  have hb := mb_163
  refine wp_iload hb rfl dX11_hand_14 ?_
  refine wp_if_lt hb (y := 0) (t := 80) ⟨rfl, rfl⟩ dX11_hand_16 ⟨fun c1 => ?_, fun c1 => ?_⟩
  · have hv := hv.1 c1
    refine wp_iload_n hb rfl dX11_hand_80 ?_
    refine wp_if_eq hb (y := 0) (t := 87) ⟨rfl, rfl⟩ dX11_hand_81 ⟨fun c2 => ?_, fun c2 => ?_⟩
    · have hv := hv.1 c2
      refine wp_aload_n hb rfl dX11_hand_87 ?_
      refine wp_getR hb ko_163 lf_11_11 (by decide) m0_82 r0_82_0 dX11_hand_88 ?_
      refine wp_iconst hb (x := nI 1) rfl dX11_hand_91 ?_
      refine wp_iaload hb (q := 1) (by decide) m0_83 (vp_in_nI (by decide) (by decide)) dX11_hand_92 ?_
      refine wp_iconst hb (x := nI 4) rfl dX11_hand_93 ?_
      refine wp_icmp_ne hb (t := 100) ⟨rfl, rfl⟩ dX11_hand_94 ⟨fun c3 => ?_, fun c3 => ?_⟩
      · have hv := hv.1 c3
        refine wp_aload_n hb rfl dX11_hand_100 ?_
        refine wp_getR hb ko_163 lf_11_11 (by decide) m0_82 r0_82_0 dX11_hand_101 ?_
        refine wp_iconst hb (x := nI 1) rfl dX11_hand_104 ?_
        refine wp_iaload hb (q := 1) (by decide) m0_83 (vp_in_nI (by decide) (by decide)) dX11_hand_105 ?_
        refine wp_istore hb rfl dX11_hand_106 ?_
        refine wp_aload_n hb rfl dX11_hand_108 ?_
        refine wp_getR hb ko_163 lf_11_11 (by decide) m0_82 r0_82_0 dX11_hand_109 ?_
        refine wp_iconst hb (x := nI 2) rfl dX11_hand_112 ?_
        refine wp_iload hb rfl dX11_hand_113 ?_
        refine wp_iadd hb dX11_hand_115 ?_
        refine wp_iconst hb (x := nI 5) rfl dX11_hand_116 ?_
        obtain ⟨q4, hv⟩ := hv
        refine wp_iastore hb rfl m0_83 (by decide) q4 dX11_hand_117 ?_
        have hv := hv _ rfl
        generalize (mm_u2 m.1 83 ((nI 2) + (m.1 83 1)).toNatClampNeg (nI 5), m.2) = m1 at hv ⊢
        refine wp_aload_n hb rfl dX11_hand_118 ?_
        refine wp_getR hb ko_163 lf_11_11 (by decide) m0_82 r0_82_0 dX11_hand_119 ?_
        refine wp_bipush hb (x := nI 6) rfl dX11_hand_122 ?_
        refine wp_iload hb rfl dX11_hand_124 ?_
        refine wp_iadd hb dX11_hand_126 ?_
        refine wp_iconst hb (x := nI 0) rfl dX11_hand_127 ?_
        obtain ⟨q5, hv⟩ := hv
        refine wp_iastore hb rfl m0_83 (by decide) q5 dX11_hand_128 ?_
        have hv := hv _ rfl
        generalize (mm_u2 m1.1 83 ((nI 6) + (m.1 83 1)).toNatClampNeg (nI 0), m1.2) = m2 at hv ⊢
        refine wp_iconst hb (x := nI 0) rfl dX11_hand_129 ?_
        refine wp_istore hb rfl dX11_hand_130 ?_
        exact wp_for (mm_ls_k (mm_ls_k (mm_ls_f (mm_ls_f (mm_ls_k (mm_ls_k mm_ls_nil)))))) hv
      · have hv := hv.2 c3
        refine wp_bipush hb (x := (-4)) rfl dX11_hand_97 ?_
        exact wp_retI hb rfl dX11_hand_99 hv
    · have hv := hv.2 c2
      refine wp_bipush hb (x := (-2)) rfl dX11_hand_84 ?_
      exact wp_retI hb rfl dX11_hand_86 hv
  · have hv := hv.2 c1
    refine wp_iload_n hb rfl dX11_hand_19 ?_
    refine wp_bipush hb (x := nI 10) rfl dX11_hand_20 ?_
    refine wp_irem hb (by decide) dX11_hand_22 ?_
    refine wp_iconst hb (x := nI 1) rfl dX11_hand_23 ?_
    refine wp_isub hb dX11_hand_24 ?_
    refine wp_istore hb rfl dX11_hand_25 ?_
    refine wp_iload_n hb rfl dX11_hand_27 ?_
    refine wp_if_lt hb (y := 0) (t := 50) ⟨rfl, rfl⟩ dX11_hand_28 ⟨fun c6 => ?_, fun c6 => ?_⟩
    · have hv := hv.1 c6
      refine wp_bipush hb (x := (-2)) rfl dX11_hand_50 ?_
      exact wp_retI hb rfl dX11_hand_52 hv
    · have hv := hv.2 c6
      refine wp_aload_n hb rfl dX11_hand_31 ?_
      refine wp_iload hb rfl dX11_hand_32 ?_
      refine wp_callV hb (k' := 157) ko_163 lm_11_105 rfl m0_82 (by decide) (Nat.le_of_ble_eq_true rfl) dX11_hand_34 (sp_cI (hv.I (Nat.le_refl _) ?_))
      intro x7 m3 hv
      refine wp_if_eq hb (y := 0) (t := 50) ⟨rfl, rfl⟩ dX11_hand_37 ⟨fun c8 => ?_, fun c8 => ?_⟩
      · have hv := hv.1 c8
        refine wp_bipush hb (x := (-2)) rfl dX11_hand_50 ?_
        exact wp_retI hb rfl dX11_hand_52 hv
      · have hv := hv.2 c8
        refine wp_iload_n hb rfl dX11_hand_40 ?_
        refine wp_iload hb rfl dX11_hand_41 ?_
        refine wp_ishr hb dX11_hand_43 ?_
        refine wp_iconst hb (x := nI 1) rfl dX11_hand_44 ?_
        refine wp_iand hb dX11_hand_45 ?_
        refine wp_iconst hb (x := nI 1) rfl dX11_hand_46 ?_
        refine wp_icmp_ne hb (t := 53) ⟨rfl, rfl⟩ dX11_hand_47 ⟨fun c9 => ?_, fun c9 => ?_⟩
        · have hv := hv.1 c9
          refine wp_iload_n hb rfl dX11_hand_53 ?_
          refine wp_iconst hb (x := nI 1) rfl dX11_hand_54 ?_
          refine wp_iload hb rfl dX11_hand_55 ?_
          refine wp_ishl hb dX11_hand_57 ?_
          refine wp_ior hb dX11_hand_58 ?_
          refine wp_istore_n hb rfl dX11_hand_59 ?_
          refine wp_aload_n hb rfl dX11_hand_60 ?_
          refine wp_getR hb ko_163 lf_11_26 (by decide) m0_82 r0_82_5 dX11_hand_61 ?_
          refine wp_iload hb rfl dX11_hand_64 ?_
          refine wp_iload hb rfl dX11_hand_66 ?_
          obtain ⟨q10, hv⟩ := hv
          refine wp_iastore hb rfl m0_97 (by decide) q10 dX11_hand_68 ?_
          have hv := hv _ rfl
          generalize (mm_u2 m3.1 97 v4.toNatClampNeg ((mm_rem v2 (nI 10)) - (nI 1)), m3.2) = m4 at hv ⊢
          refine wp_iload_n hb rfl dX11_hand_69 ?_
          refine wp_bipush hb (x := nI 10) rfl dX11_hand_70 ?_
          refine wp_idiv hb (by decide) dX11_hand_72 ?_
          refine wp_istore_n hb rfl dX11_hand_73 ?_
          refine wp_iinc hb rfl (y := v4 + (-1)) (congrArg (fun z => v4 + z) (by decide : Int32.ofInt (-1) = (-1))) rfl dX11_hand_74 ?_
          refine wp_goto hb (t := 14) ⟨rfl, rfl⟩ dX11_hand_77 ?_
          exact wp_for (mm_ls_k (mm_ls_k (mm_ls_k (mm_ls_k (mm_ls_k (mm_ls_f mm_ls_nil)))))) hv
        · have hv := hv.2 c9
          refine wp_bipush hb (x := (-2)) rfl dX11_hand_50 ?_
          exact wp_retI hb rfl dX11_hand_52 hv
set_option maxRecDepth 100000 in
theorem v_X11_hand_132 {d sn : Nat} {v4 : Int32} {v5 : Int32} {m : mm_Mem} {P : Int32 → mm_Mem → Prop} 
    (hv : ((m.1 83 0 ≤ v5) → (∀ m1 : mm_Mem, m1 = (mm_u2 m.1 83 1 ((m.1 83 1) + (nI 1)), m.2) → (P v4 m1))) ∧ (¬ (m.1 83 0 ≤ v5) → (vp_in v5 8 ∧ (vp_in (((nI 10) + ((nI 8) * v4)) + v5) 48 ∧ (∀ m2 : mm_Mem, m2 = (mm_u2 m.1 83 (((nI 10) + ((nI 8) * v4)) + v5).toNatClampNeg (m.1 97 v5.toNatClampNeg), m.2) → (mm_wp d sn kX11_hand 132 [some (.ref 82), none, none, none, some (.int v4), some (.int (v5 + nI 1))] [] m2 (qI P))))))) :
    mm_wp d sn kX11_hand 132 [some (.ref 82), none, none, none, some (.int v4), some (.int v5)] [] m (qI P) := by
  have hb := mb_163
  refine wp_iload hb rfl dX11_hand_132 ?_
  refine wp_aload_n hb rfl dX11_hand_134 ?_
  refine wp_getR hb ko_163 lf_11_11 (by decide) m0_82 r0_82_0 dX11_hand_135 ?_
  refine wp_iconst hb (x := nI 0) rfl dX11_hand_138 ?_
  refine wp_iaload hb (q := 0) (by decide) m0_83 (vp_in_nI (by decide) (by decide)) dX11_hand_139 ?_
  refine wp_icmp_ge hb (t := 172) ⟨rfl, rfl⟩ dX11_hand_140 ⟨fun c1 => ?_, fun c1 => ?_⟩
  · have hv := hv.1 c1
    refine wp_aload_n hb rfl dX11_hand_172 ?_
    refine wp_getR hb ko_163 lf_11_11 (by decide) m0_82 r0_82_0 dX11_hand_173 ?_
    refine wp_iconst hb (x := nI 1) rfl dX11_hand_176 ?_
    refine wp_dup2 hb dX11_hand_177 ?_
    refine wp_iaload hb (q := 1) (by decide) m0_83 (vp_in_nI (by decide) (by decide)) dX11_hand_178 ?_
    refine wp_iconst hb (x := nI 1) rfl dX11_hand_179 ?_
    refine wp_iadd hb dX11_hand_180 ?_
    refine wp_iastore hb (q := 1) (by decide) m0_83 (by decide) (vp_in_nI (by decide) (by decide)) dX11_hand_181 ?_
    have hv := hv _ rfl
    generalize (mm_u2 m.1 83 1 ((m.1 83 1) + (nI 1)), m.2) = m1 at hv ⊢
    refine wp_iload hb rfl dX11_hand_182 ?_
    exact wp_retI hb rfl dX11_hand_184 hv
  · have hv := hv.2 c1
    refine wp_aload_n hb rfl dX11_hand_143 ?_
    refine wp_getR hb ko_163 lf_11_11 (by decide) m0_82 r0_82_0 dX11_hand_144 ?_
    refine wp_bipush hb (x := nI 10) rfl dX11_hand_147 ?_
    refine wp_bipush hb (x := nI 8) rfl dX11_hand_149 ?_
    refine wp_iload hb rfl dX11_hand_151 ?_
    refine wp_imul hb dX11_hand_153 ?_
    refine wp_iadd hb dX11_hand_154 ?_
    refine wp_iload hb rfl dX11_hand_155 ?_
    refine wp_iadd hb dX11_hand_157 ?_
    refine wp_aload_n hb rfl dX11_hand_158 ?_
    refine wp_getR hb ko_163 lf_11_26 (by decide) m0_82 r0_82_5 dX11_hand_159 ?_
    refine wp_iload hb rfl dX11_hand_162 ?_
    obtain ⟨q2, hv⟩ := hv
    refine wp_iaload hb rfl m0_97 q2 dX11_hand_164 ?_
    obtain ⟨q3, hv⟩ := hv
    refine wp_iastore hb rfl m0_83 (by decide) q3 dX11_hand_165 ?_
    have hv := hv _ rfl
    generalize (mm_u2 m.1 83 (((nI 10) + ((nI 8) * v4)) + v5).toNatClampNeg (m.1 97 v5.toNatClampNeg), m.2) = m2 at hv ⊢
    refine wp_iinc hb rfl (y := v5 + nI 1) rfl rfl dX11_hand_166 ?_
    refine wp_goto hb (t := 132) ⟨rfl, rfl⟩ dX11_hand_169 ?_
    exact wp_for (mm_ls_k (mm_ls_k (mm_ls_k (mm_ls_k (mm_ls_k (mm_ls_k mm_ls_nil)))))) hv
set_option maxRecDepth 100000 in
theorem v_X11_drop {d sn : Nat} {v1 : Int32} {m : mm_Mem} {P : Int32 → mm_Mem → Prop} 
    (hv : mm_sp d sn kX11_isWay [.ref 82, .int v1] m (qI fun x1 m1 => ((¬ x1 = 0) → (∀ m2 : mm_Mem, m2 = (mm_u2 m1.1 83 1 ((m1.1 83 1) - (nI 1)), m1.2) → (mm_wp d sn kX11_drop 22 [some (.ref 82), none, some (.int v1), none] [] m2 (qI P)))) ∧ (¬ (¬ x1 = 0) → (P (-1) m1)))) :
    mm_sp (d + 1) sn kX11_drop [.ref 82, .int v1] m (qI P) := by
  have hb := mb_164
  refine wp_in (la := [some (.ref 82), some (.int v1), none, none]) ⟨⟨Nat.le_of_ble_eq_true rfl, by decide, by decide⟩, rfl⟩ ?_
  refine wp_aload_n hb rfl dX11_drop_0 ?_
  refine wp_iload_n hb rfl dX11_drop_1 ?_
  refine wp_callV hb (k' := 158) ko_164 lm_11_109 rfl m0_82 (by decide) (Nat.le_of_ble_eq_true rfl) dX11_drop_2 (sp_cI (hv.I (Nat.le_refl _) ?_))
  intro x1 m1 hv
  refine wp_if_ne hb (y := 0) (t := 10) ⟨rfl, rfl⟩ dX11_drop_5 ⟨fun c2 => ?_, fun c2 => ?_⟩
  · have hv := hv.1 c2
    refine wp_aload_n hb rfl dX11_drop_10 ?_
    refine wp_getR hb ko_164 lf_11_11 (by decide) m0_82 r0_82_0 dX11_drop_11 ?_
    refine wp_iconst hb (x := nI 1) rfl dX11_drop_14 ?_
    refine wp_dup2 hb dX11_drop_15 ?_
    refine wp_iaload hb (q := 1) (by decide) m0_83 (vp_in_nI (by decide) (by decide)) dX11_drop_16 ?_
    refine wp_iconst hb (x := nI 1) rfl dX11_drop_17 ?_
    refine wp_isub hb dX11_drop_18 ?_
    refine wp_iastore hb (q := 1) (by decide) m0_83 (by decide) (vp_in_nI (by decide) (by decide)) dX11_drop_19 ?_
    have hv := hv _ rfl
    generalize (mm_u2 m1.1 83 1 ((m1.1 83 1) - (nI 1)), m1.2) = m2 at hv ⊢
    refine wp_iload_n hb rfl dX11_drop_20 ?_
    refine wp_istore_n hb rfl dX11_drop_21 ?_
    exact wp_for (mm_ls_k (mm_ls_f (mm_ls_k (mm_ls_k mm_ls_nil)))) hv
  · have hv := hv.2 c2
    refine wp_iconst hb (x := (-1)) rfl dX11_drop_8 ?_
    exact wp_retI hb rfl dX11_drop_9 hv
set_option maxRecDepth 100000 in
theorem v_X11_drop_22 {d sn : Nat} {v2 : Int32} {m : mm_Mem} {P : Int32 → mm_Mem → Prop} 
    (hv : ((m.1 83 1 ≤ v2) → (P (m.1 83 1) m)) ∧ (¬ (m.1 83 1 ≤ v2) → (vp_in (((nI 2) + v2) + (nI 1)) 48 ∧ (vp_in ((nI 2) + v2) 48 ∧ (∀ m1 : mm_Mem, m1 = (mm_u2 m.1 83 ((nI 2) + v2).toNatClampNeg (m.1 83 (((nI 2) + v2) + (nI 1)).toNatClampNeg), m.2) → (vp_in (((nI 6) + v2) + (nI 1)) 48 ∧ (vp_in ((nI 6) + v2) 48 ∧ (∀ m2 : mm_Mem, m2 = (mm_u2 m1.1 83 ((nI 6) + v2).toNatClampNeg (m1.1 83 (((nI 6) + v2) + (nI 1)).toNatClampNeg), m1.2) → (mm_wp d sn kX11_drop 72 [some (.ref 82), none, some (.int v2), some (.int (nI 0))] [] m2 (qI P)))))))))) :
    mm_wp d sn kX11_drop 22 [some (.ref 82), none, some (.int v2), none] [] m (qI P) := by
  have hb := mb_164
  refine wp_iload_n hb rfl dX11_drop_22 ?_
  refine wp_aload_n hb rfl dX11_drop_23 ?_
  refine wp_getR hb ko_164 lf_11_11 (by decide) m0_82 r0_82_0 dX11_drop_24 ?_
  refine wp_iconst hb (x := nI 1) rfl dX11_drop_27 ?_
  refine wp_iaload hb (q := 1) (by decide) m0_83 (vp_in_nI (by decide) (by decide)) dX11_drop_28 ?_
  refine wp_icmp_ge hb (t := 120) ⟨rfl, rfl⟩ dX11_drop_29 ⟨fun c1 => ?_, fun c1 => ?_⟩
  · have hv := hv.1 c1
    refine wp_aload_n hb rfl dX11_drop_120 ?_
    refine wp_getR hb ko_164 lf_11_11 (by decide) m0_82 r0_82_0 dX11_drop_121 ?_
    refine wp_iconst hb (x := nI 1) rfl dX11_drop_124 ?_
    refine wp_iaload hb (q := 1) (by decide) m0_83 (vp_in_nI (by decide) (by decide)) dX11_drop_125 ?_
    exact wp_retI hb rfl dX11_drop_126 hv
  · have hv := hv.2 c1
    refine wp_aload_n hb rfl dX11_drop_32 ?_
    refine wp_getR hb ko_164 lf_11_11 (by decide) m0_82 r0_82_0 dX11_drop_33 ?_
    refine wp_iconst hb (x := nI 2) rfl dX11_drop_36 ?_
    refine wp_iload_n hb rfl dX11_drop_37 ?_
    refine wp_iadd hb dX11_drop_38 ?_
    refine wp_aload_n hb rfl dX11_drop_39 ?_
    refine wp_getR hb ko_164 lf_11_11 (by decide) m0_82 r0_82_0 dX11_drop_40 ?_
    refine wp_iconst hb (x := nI 2) rfl dX11_drop_43 ?_
    refine wp_iload_n hb rfl dX11_drop_44 ?_
    refine wp_iadd hb dX11_drop_45 ?_
    refine wp_iconst hb (x := nI 1) rfl dX11_drop_46 ?_
    refine wp_iadd hb dX11_drop_47 ?_
    obtain ⟨q2, hv⟩ := hv
    refine wp_iaload hb rfl m0_83 q2 dX11_drop_48 ?_
    obtain ⟨q3, hv⟩ := hv
    refine wp_iastore hb rfl m0_83 (by decide) q3 dX11_drop_49 ?_
    have hv := hv _ rfl
    generalize (mm_u2 m.1 83 ((nI 2) + v2).toNatClampNeg (m.1 83 (((nI 2) + v2) + (nI 1)).toNatClampNeg), m.2) = m1 at hv ⊢
    refine wp_aload_n hb rfl dX11_drop_50 ?_
    refine wp_getR hb ko_164 lf_11_11 (by decide) m0_82 r0_82_0 dX11_drop_51 ?_
    refine wp_bipush hb (x := nI 6) rfl dX11_drop_54 ?_
    refine wp_iload_n hb rfl dX11_drop_56 ?_
    refine wp_iadd hb dX11_drop_57 ?_
    refine wp_aload_n hb rfl dX11_drop_58 ?_
    refine wp_getR hb ko_164 lf_11_11 (by decide) m0_82 r0_82_0 dX11_drop_59 ?_
    refine wp_bipush hb (x := nI 6) rfl dX11_drop_62 ?_
    refine wp_iload_n hb rfl dX11_drop_64 ?_
    refine wp_iadd hb dX11_drop_65 ?_
    refine wp_iconst hb (x := nI 1) rfl dX11_drop_66 ?_
    refine wp_iadd hb dX11_drop_67 ?_
    obtain ⟨q4, hv⟩ := hv
    refine wp_iaload hb rfl m0_83 q4 dX11_drop_68 ?_
    obtain ⟨q5, hv⟩ := hv
    refine wp_iastore hb rfl m0_83 (by decide) q5 dX11_drop_69 ?_
    have hv := hv _ rfl
    generalize (mm_u2 m1.1 83 ((nI 6) + v2).toNatClampNeg (m1.1 83 (((nI 6) + v2) + (nI 1)).toNatClampNeg), m1.2) = m2 at hv ⊢
    refine wp_iconst hb (x := nI 0) rfl dX11_drop_70 ?_
    refine wp_istore_n hb rfl dX11_drop_71 ?_
    exact wp_for (mm_ls_k (mm_ls_k (mm_ls_k (mm_ls_k mm_ls_nil)))) hv
set_option maxRecDepth 100000 in
theorem v_X11_drop_72 {d sn : Nat} {v2 : Int32} {v3 : Int32} {m : mm_Mem} {P : Int32 → mm_Mem → Prop} 
    (hv : ((nI 8 ≤ v3) → (mm_wp d sn kX11_drop 22 [some (.ref 82), none, some (.int (v2 + nI 1)), none] [] m (qI P))) ∧ (¬ (nI 8 ≤ v3) → (vp_in (((nI 10) + ((nI 8) * (v2 + (nI 1)))) + v3) 48 ∧ (vp_in (((nI 10) + ((nI 8) * v2)) + v3) 48 ∧ (∀ m1 : mm_Mem, m1 = (mm_u2 m.1 83 (((nI 10) + ((nI 8) * v2)) + v3).toNatClampNeg (m.1 83 (((nI 10) + ((nI 8) * (v2 + (nI 1)))) + v3).toNatClampNeg), m.2) → (mm_wp d sn kX11_drop 72 [some (.ref 82), none, some (.int v2), some (.int (v3 + nI 1))] [] m1 (qI P))))))) :
    mm_wp d sn kX11_drop 72 [some (.ref 82), none, some (.int v2), some (.int v3)] [] m (qI P) := by
  have hb := mb_164
  refine wp_iload_n hb rfl dX11_drop_72 ?_
  refine wp_bipush hb (x := nI 8) rfl dX11_drop_73 ?_
  refine wp_icmp_ge hb (t := 114) ⟨rfl, rfl⟩ dX11_drop_75 ⟨fun c1 => ?_, fun c1 => ?_⟩
  · have hv := hv.1 c1
    refine wp_iinc hb rfl (y := v2 + nI 1) rfl rfl dX11_drop_114 ?_
    refine wp_goto hb (t := 22) ⟨rfl, rfl⟩ dX11_drop_117 ?_
    exact wp_for (mm_ls_k (mm_ls_k (mm_ls_k (mm_ls_f mm_ls_nil)))) hv
  · have hv := hv.2 c1
    refine wp_aload_n hb rfl dX11_drop_78 ?_
    refine wp_getR hb ko_164 lf_11_11 (by decide) m0_82 r0_82_0 dX11_drop_79 ?_
    refine wp_bipush hb (x := nI 10) rfl dX11_drop_82 ?_
    refine wp_bipush hb (x := nI 8) rfl dX11_drop_84 ?_
    refine wp_iload_n hb rfl dX11_drop_86 ?_
    refine wp_imul hb dX11_drop_87 ?_
    refine wp_iadd hb dX11_drop_88 ?_
    refine wp_iload_n hb rfl dX11_drop_89 ?_
    refine wp_iadd hb dX11_drop_90 ?_
    refine wp_aload_n hb rfl dX11_drop_91 ?_
    refine wp_getR hb ko_164 lf_11_11 (by decide) m0_82 r0_82_0 dX11_drop_92 ?_
    refine wp_bipush hb (x := nI 10) rfl dX11_drop_95 ?_
    refine wp_bipush hb (x := nI 8) rfl dX11_drop_97 ?_
    refine wp_iload_n hb rfl dX11_drop_99 ?_
    refine wp_iconst hb (x := nI 1) rfl dX11_drop_100 ?_
    refine wp_iadd hb dX11_drop_101 ?_
    refine wp_imul hb dX11_drop_102 ?_
    refine wp_iadd hb dX11_drop_103 ?_
    refine wp_iload_n hb rfl dX11_drop_104 ?_
    refine wp_iadd hb dX11_drop_105 ?_
    obtain ⟨q2, hv⟩ := hv
    refine wp_iaload hb rfl m0_83 q2 dX11_drop_106 ?_
    obtain ⟨q3, hv⟩ := hv
    refine wp_iastore hb rfl m0_83 (by decide) q3 dX11_drop_107 ?_
    have hv := hv _ rfl
    generalize (mm_u2 m.1 83 (((nI 10) + ((nI 8) * v2)) + v3).toNatClampNeg (m.1 83 (((nI 10) + ((nI 8) * (v2 + (nI 1)))) + v3).toNatClampNeg), m.2) = m1 at hv ⊢
    refine wp_iinc hb rfl (y := v3 + nI 1) rfl rfl dX11_drop_108 ?_
    refine wp_goto hb (t := 72) ⟨rfl, rfl⟩ dX11_drop_111 ?_
    exact wp_for (mm_ls_k (mm_ls_k (mm_ls_k (mm_ls_k mm_ls_nil)))) hv
set_option maxRecDepth 100000 in
theorem v_X11_to {d sn : Nat} {v1 : Int32} {v2 : Int32} {m : mm_Mem} {P : Int32 → mm_Mem → Prop} 
    (hv : vp_in (((nI 10) + ((nI 8) * v1)) + v2) 48 ∧ (P (m.1 83 (((nI 10) + ((nI 8) * v1)) + v2).toNatClampNeg) m)) :
    mm_sp (d + 1) sn kX11_to [.ref 82, .int v1, .int v2] m (qI P) := by
  have hb := mb_165
  refine wp_in (la := [some (.ref 82), some (.int v1), some (.int v2)]) ⟨⟨Nat.le_of_ble_eq_true rfl, by decide, by decide⟩, rfl⟩ ?_
  refine wp_aload_n hb rfl dX11_to_0 ?_
  refine wp_getR hb ko_165 lf_11_11 (by decide) m0_82 r0_82_0 dX11_to_1 ?_
  refine wp_bipush hb (x := nI 10) rfl dX11_to_4 ?_
  refine wp_bipush hb (x := nI 8) rfl dX11_to_6 ?_
  refine wp_iload_n hb rfl dX11_to_8 ?_
  refine wp_imul hb dX11_to_9 ?_
  refine wp_iadd hb dX11_to_10 ?_
  refine wp_iload_n hb rfl dX11_to_11 ?_
  refine wp_iadd hb dX11_to_12 ?_
  obtain ⟨q1, hv⟩ := hv
  refine wp_iaload hb rfl m0_83 q1 dX11_to_13 ?_
  exact wp_retI hb rfl dX11_to_14 hv
set_option maxRecDepth 100000 in
theorem v_X11_moved {d sn : Nat} {v1 : Int32} {v2 : Int32} {m : mm_Mem} {P : Int32 → mm_Mem → Prop} 
    (hv : mm_wp d sn kX11_moved 5 [some (.ref 82), some (.int v1), some (.int v2), some (.int (nI 0)), some (.int (nI 0))] [] m (qI P)) :
    mm_sp (d + 1) sn kX11_moved [.ref 82, .int v1, .int v2] m (qI P) := by
  have hb := mb_166
  refine wp_in (la := [some (.ref 82), some (.int v1), some (.int v2), none, none]) ⟨⟨Nat.le_of_ble_eq_true rfl, by decide, by decide⟩, rfl⟩ ?_
  refine wp_iconst hb (x := nI 0) rfl dX11_moved_0 ?_
  refine wp_istore_n hb rfl dX11_moved_1 ?_
  refine wp_iconst hb (x := nI 0) rfl dX11_moved_2 ?_
  refine wp_istore hb rfl dX11_moved_3 ?_
  exact wp_for (mm_ls_k (mm_ls_k (mm_ls_k (mm_ls_k (mm_ls_k mm_ls_nil))))) hv
set_option maxRecDepth 100000 in
theorem v_X11_moved_5 {d sn : Nat} {v1 : Int32} {v2 : Int32} {v3 : Int32} {v4 : Int32} {m : mm_Mem} {P : Int32 → mm_Mem → Prop} 
    (hv : ((m.1 83 0 ≤ v4) → (P v3 m)) ∧ (¬ (m.1 83 0 ≤ v4) → (((¬ (mm_shr v2 v4) &&& (nI 1) = nI 1) → (mm_wp d sn kX11_moved 5 [some (.ref 82), some (.int v1), some (.int v2), some (.int (v3 ||| (nI 0))), some (.int (v4 + nI 1))] [] m (qI P))) ∧ (¬ (¬ (mm_shr v2 v4) &&& (nI 1) = nI 1) → (mm_sp d sn kX11_to [.ref 82, .int v1, .int v4] m (qI fun x3 m1 => mm_wp d sn kX11_moved 5 [some (.ref 82), some (.int v1), some (.int v2), some (.int (v3 ||| (mm_shl (nI 1) x3))), some (.int (v4 + nI 1))] [] m1 (qI P))))))) :
    mm_wp d sn kX11_moved 5 [some (.ref 82), some (.int v1), some (.int v2), some (.int v3), some (.int v4)] [] m (qI P) := by
  have hb := mb_166
  refine wp_iload hb rfl dX11_moved_5 ?_
  refine wp_aload_n hb rfl dX11_moved_7 ?_
  refine wp_getR hb ko_166 lf_11_11 (by decide) m0_82 r0_82_0 dX11_moved_8 ?_
  refine wp_iconst hb (x := nI 0) rfl dX11_moved_11 ?_
  refine wp_iaload hb (q := 0) (by decide) m0_83 (vp_in_nI (by decide) (by decide)) dX11_moved_12 ?_
  refine wp_icmp_ge hb (t := 48) ⟨rfl, rfl⟩ dX11_moved_13 ⟨fun c1 => ?_, fun c1 => ?_⟩
  · have hv := hv.1 c1
    refine wp_iload_n hb rfl dX11_moved_48 ?_
    exact wp_retI hb rfl dX11_moved_49 hv
  · have hv := hv.2 c1
    refine wp_iload_n hb rfl dX11_moved_16 ?_
    refine wp_iload_n hb rfl dX11_moved_17 ?_
    refine wp_iload hb rfl dX11_moved_18 ?_
    refine wp_ishr hb dX11_moved_20 ?_
    refine wp_iconst hb (x := nI 1) rfl dX11_moved_21 ?_
    refine wp_iand hb dX11_moved_22 ?_
    refine wp_iconst hb (x := nI 1) rfl dX11_moved_23 ?_
    refine wp_icmp_ne hb (t := 39) ⟨rfl, rfl⟩ dX11_moved_24 ⟨fun c2 => ?_, fun c2 => ?_⟩
    · have hv := hv.1 c2
      refine wp_iconst hb (x := nI 0) rfl dX11_moved_39 ?_
      refine wp_ior hb dX11_moved_40 ?_
      refine wp_istore_n hb rfl dX11_moved_41 ?_
      refine wp_iinc hb rfl (y := v4 + nI 1) rfl rfl dX11_moved_42 ?_
      refine wp_goto hb (t := 5) ⟨rfl, rfl⟩ dX11_moved_45 ?_
      exact wp_for (mm_ls_k (mm_ls_k (mm_ls_k (mm_ls_k (mm_ls_k mm_ls_nil))))) hv
    · have hv := hv.2 c2
      refine wp_iconst hb (x := nI 1) rfl dX11_moved_27 ?_
      refine wp_aload_n hb rfl dX11_moved_28 ?_
      refine wp_iload_n hb rfl dX11_moved_29 ?_
      refine wp_iload hb rfl dX11_moved_30 ?_
      refine wp_callV hb (k' := 165) ko_166 lm_11_112 rfl m0_82 (by decide) (Nat.le_of_ble_eq_true rfl) dX11_moved_32 (sp_cI (hv.I (Nat.le_refl _) ?_))
      intro x3 m1 hv
      refine wp_ishl hb dX11_moved_35 ?_
      refine wp_goto hb (t := 40) ⟨rfl, rfl⟩ dX11_moved_36 ?_
      refine wp_ior hb dX11_moved_40 ?_
      refine wp_istore_n hb rfl dX11_moved_41 ?_
      refine wp_iinc hb rfl (y := v4 + nI 1) rfl rfl dX11_moved_42 ?_
      refine wp_goto hb (t := 5) ⟨rfl, rfl⟩ dX11_moved_45 ?_
      exact wp_for (mm_ls_k (mm_ls_k (mm_ls_k (mm_ls_k (mm_ls_k mm_ls_nil))))) hv
set_option maxRecDepth 100000 in
theorem v_X11_timesOf {d sn : Nat} {v1 : Int32} {m : mm_Mem} {P : Int32 → mm_Mem → Prop} 
    (hv : mm_wp d sn kX11_timesOf 4 [some (.ref 82), some (.int v1), some (.int (nI 1)), some (.int (nI 0)), none, none] [] m (qI P)) :
    mm_sp (d + 1) sn kX11_timesOf [.ref 82, .int v1] m (qI P) := by
  have hb := mb_167
  refine wp_in (la := [some (.ref 82), some (.int v1), none, none, none, none]) ⟨⟨Nat.le_of_ble_eq_true rfl, by decide, by decide⟩, rfl⟩ ?_
  refine wp_iconst hb (x := nI 1) rfl dX11_timesOf_0 ?_
  refine wp_istore_n hb rfl dX11_timesOf_1 ?_
  refine wp_iconst hb (x := nI 0) rfl dX11_timesOf_2 ?_
  refine wp_istore_n hb rfl dX11_timesOf_3 ?_
  exact wp_for (mm_ls_k (mm_ls_k (mm_ls_k (mm_ls_k (mm_ls_k (mm_ls_k mm_ls_nil)))))) hv
set_option maxRecDepth 100000 in
theorem v_X11_timesOf_4 {d sn : Nat} {v1 : Int32} {v2 : Int32} {v3 : Int32} {m : mm_Mem} {P : Int32 → mm_Mem → Prop} 
    (hv : ((m.1 83 0 ≤ v3) → (P v2 m)) ∧ (¬ (m.1 83 0 ≤ v3) → (mm_sp d sn kX11_to [.ref 82, .int v1, .int v3] m (qI fun x2 m1 => mm_wp d sn kX11_timesOf 25 [some (.ref 82), some (.int v1), some (.int v2), some (.int v3), some (.int (nI 1)), some (.int x2)] [] m1 (qI P))))) :
    mm_wp d sn kX11_timesOf 4 [some (.ref 82), some (.int v1), some (.int v2), some (.int v3), none, none] [] m (qI P) := by
  have hb := mb_167
  refine wp_iload_n hb rfl dX11_timesOf_4 ?_
  refine wp_aload_n hb rfl dX11_timesOf_5 ?_
  refine wp_getR hb ko_167 lf_11_11 (by decide) m0_82 r0_82_0 dX11_timesOf_6 ?_
  refine wp_iconst hb (x := nI 0) rfl dX11_timesOf_9 ?_
  refine wp_iaload hb (q := 0) (by decide) m0_83 (vp_in_nI (by decide) (by decide)) dX11_timesOf_10 ?_
  refine wp_icmp_ge hb (t := 64) ⟨rfl, rfl⟩ dX11_timesOf_11 ⟨fun c1 => ?_, fun c1 => ?_⟩
  · have hv := hv.1 c1
    refine wp_iload_n hb rfl dX11_timesOf_64 ?_
    exact wp_retI hb rfl dX11_timesOf_65 hv
  · have hv := hv.2 c1
    refine wp_iconst hb (x := nI 1) rfl dX11_timesOf_14 ?_
    refine wp_istore hb rfl dX11_timesOf_15 ?_
    refine wp_aload_n hb rfl dX11_timesOf_17 ?_
    refine wp_iload_n hb rfl dX11_timesOf_18 ?_
    refine wp_iload_n hb rfl dX11_timesOf_19 ?_
    refine wp_callV hb (k' := 165) ko_167 lm_11_112 rfl m0_82 (by decide) (Nat.le_of_ble_eq_true rfl) dX11_timesOf_20 (sp_cI (hv.I (Nat.le_refl _) ?_))
    intro x2 m1 hv
    refine wp_istore hb rfl dX11_timesOf_23 ?_
    exact wp_for (mm_ls_k (mm_ls_k (mm_ls_k (mm_ls_k (mm_ls_k (mm_ls_k mm_ls_nil)))))) hv
set_option maxRecDepth 100000 in
theorem v_X11_timesOf_25 {d sn : Nat} {v1 : Int32} {v2 : Int32} {v3 : Int32} {v4 : Int32} {v5 : Int32} {m : mm_Mem} {P : Int32 → mm_Mem → Prop} 
    (hv : ((v5 = v3) → (mm_sp d sn kX11_common [.int v2, .int v4] m (qI fun x2 m1 => (¬ x2 = 0) ∧ (mm_wp d sn kX11_timesOf 4 [some (.ref 82), some (.int v1), some (.int ((v2 / x2) * v4)), some (.int (v3 + nI 1)), none, none] [] m1 (qI P))))) ∧ (¬ (v5 = v3) → (mm_sp d sn kX11_to [.ref 82, .int v1, .int v5] m (qI fun x4 m2 => mm_wp d sn kX11_timesOf 25 [some (.ref 82), some (.int v1), some (.int v2), some (.int v3), some (.int (v4 + nI 1)), some (.int x4)] [] m2 (qI P))))) :
    mm_wp d sn kX11_timesOf 25 [some (.ref 82), some (.int v1), some (.int v2), some (.int v3), some (.int v4), some (.int v5)] [] m (qI P) := by
  have hb := mb_167
  refine wp_iload hb rfl dX11_timesOf_25 ?_
  refine wp_iload_n hb rfl dX11_timesOf_27 ?_
  refine wp_icmp_eq hb (t := 46) ⟨rfl, rfl⟩ dX11_timesOf_28 ⟨fun c1 => ?_, fun c1 => ?_⟩
  · have hv := hv.1 c1
    refine wp_iload_n hb rfl dX11_timesOf_46 ?_
    refine wp_iload_n hb rfl dX11_timesOf_47 ?_
    refine wp_iload hb rfl dX11_timesOf_48 ?_
    refine wp_callS hb (k' := 160) ko_167 lm_11_93 (by decide) rfl (Nat.le_of_ble_eq_true rfl) dX11_timesOf_50 (sp_cI (hv.I (Nat.le_refl _) ?_))
    intro x2 m1 hv
    obtain ⟨q3, hv⟩ := hv
    refine wp_idiv hb q3 dX11_timesOf_53 ?_
    refine wp_iload hb rfl dX11_timesOf_54 ?_
    refine wp_imul hb dX11_timesOf_56 ?_
    refine wp_istore_n hb rfl dX11_timesOf_57 ?_
    refine wp_iinc hb rfl (y := v3 + nI 1) rfl rfl dX11_timesOf_58 ?_
    refine wp_goto hb (t := 4) ⟨rfl, rfl⟩ dX11_timesOf_61 ?_
    exact wp_for (mm_ls_k (mm_ls_k (mm_ls_k (mm_ls_k (mm_ls_f (mm_ls_f mm_ls_nil)))))) hv
  · have hv := hv.2 c1
    refine wp_iinc hb rfl (y := v4 + nI 1) rfl rfl dX11_timesOf_31 ?_
    refine wp_aload_n hb rfl dX11_timesOf_34 ?_
    refine wp_iload_n hb rfl dX11_timesOf_35 ?_
    refine wp_iload hb rfl dX11_timesOf_36 ?_
    refine wp_callV hb (k' := 165) ko_167 lm_11_112 rfl m0_82 (by decide) (Nat.le_of_ble_eq_true rfl) dX11_timesOf_38 (sp_cI (hv.I (Nat.le_refl _) ?_))
    intro x4 m2 hv
    refine wp_istore hb rfl dX11_timesOf_41 ?_
    refine wp_goto hb (t := 25) ⟨rfl, rfl⟩ dX11_timesOf_43 ?_
    exact wp_for (mm_ls_k (mm_ls_k (mm_ls_k (mm_ls_k (mm_ls_k (mm_ls_k mm_ls_nil)))))) hv
set_option maxRecDepth 100000 in
theorem v_X11_holds {d sn : Nat} {v1 : Int32} {m : mm_Mem} {P : Int32 → mm_Mem → Prop} 
    (hv : mm_wp d sn kX11_holds 2 [some (.ref 82), some (.int v1), some (.int (nI 0))] [] m (qI P)) :
    mm_sp (d + 1) sn kX11_holds [.ref 82, .int v1] m (qI P) := by
  have hb := mb_168
  refine wp_in (la := [some (.ref 82), some (.int v1), none]) ⟨⟨Nat.le_of_ble_eq_true rfl, by decide, by decide⟩, rfl⟩ ?_
  refine wp_iconst hb (x := nI 0) rfl dX11_holds_0 ?_
  refine wp_istore_n hb rfl dX11_holds_1 ?_
  exact wp_for (mm_ls_k (mm_ls_k (mm_ls_k mm_ls_nil))) hv
set_option maxRecDepth 100000 in
theorem v_X11_holds_2 {d sn : Nat} {v1 : Int32} {v2 : Int32} {m : mm_Mem} {P : Int32 → mm_Mem → Prop} 
    (hv : mm_sp d sn kX11_whole [.ref 82] m (qI fun x1 m1 => ((x1 < v2) → (P (nI 1) m1)) ∧ (¬ (x1 < v2) → (vp_in v2 256 ∧ (((m1.1 86 v2.toNatClampNeg = 0) → (mm_wp d sn kX11_holds 2 [some (.ref 82), some (.int v1), some (.int (v2 + nI 1))] [] m1 (qI P))) ∧ (¬ (m1.1 86 v2.toNatClampNeg = 0) → (mm_sp d sn kX11_moved [.ref 82, .int v1, .int v2] m1 (qI fun x5 m2 => vp_in x5 256 ∧ (((¬ m2.1 86 x5.toNatClampNeg = 0) → (mm_wp d sn kX11_holds 2 [some (.ref 82), some (.int v1), some (.int (v2 + nI 1))] [] m2 (qI P))) ∧ (¬ (¬ m2.1 86 x5.toNatClampNeg = 0) → (P (nI 0) m2))))))))))) :
    mm_wp d sn kX11_holds 2 [some (.ref 82), some (.int v1), some (.int v2)] [] m (qI P) := by
  have hb := mb_168
  refine wp_iload_n hb rfl dX11_holds_2 ?_
  refine wp_aload_n hb rfl dX11_holds_3 ?_
  refine wp_callV hb (k' := 155) ko_168 lm_11_81 rfl m0_82 (by decide) (Nat.le_of_ble_eq_true rfl) dX11_holds_4 (sp_cI (hv.I (Nat.le_refl _) ?_))
  intro x1 m1 hv
  refine wp_icmp_gt hb (t := 45) ⟨rfl, rfl⟩ dX11_holds_7 ⟨fun c2 => ?_, fun c2 => ?_⟩
  · have hv := hv.1 c2
    refine wp_iconst hb (x := nI 1) rfl dX11_holds_45 ?_
    exact wp_retZ hb rfl (by decide) dX11_holds_46 hv
  · have hv := hv.2 c2
    refine wp_aload_n hb rfl dX11_holds_10 ?_
    refine wp_getR hb ko_168 lf_11_20 (by decide) m0_82 r0_82_2 dX11_holds_11 ?_
    refine wp_iconst hb (x := nI 0) rfl dX11_holds_14 ?_
    refine wp_aaload hb m0_85 (by decide) (vp_in_nI (by decide) (by decide)) r0_85_0 dX11_holds_15 ?_
    refine wp_iload_n hb rfl dX11_holds_16 ?_
    obtain ⟨q3, hv⟩ := hv
    refine wp_baload hb rfl m0_86 q3 dX11_holds_17 ?_
    refine wp_if_eq hb (y := 0) (t := 39) ⟨rfl, rfl⟩ dX11_holds_18 ⟨fun c4 => ?_, fun c4 => ?_⟩
    · have hv := hv.1 c4
      refine wp_iinc hb rfl (y := v2 + nI 1) rfl rfl dX11_holds_39 ?_
      refine wp_goto hb (t := 2) ⟨rfl, rfl⟩ dX11_holds_42 ?_
      exact wp_for (mm_ls_k (mm_ls_k (mm_ls_k mm_ls_nil))) hv
    · have hv := hv.2 c4
      refine wp_aload_n hb rfl dX11_holds_21 ?_
      refine wp_getR hb ko_168 lf_11_20 (by decide) m0_82 r0_82_2 dX11_holds_22 ?_
      refine wp_iconst hb (x := nI 0) rfl dX11_holds_25 ?_
      refine wp_aaload hb m0_85 (by decide) (vp_in_nI (by decide) (by decide)) r0_85_0 dX11_holds_26 ?_
      refine wp_aload_n hb rfl dX11_holds_27 ?_
      refine wp_iload_n hb rfl dX11_holds_28 ?_
      refine wp_iload_n hb rfl dX11_holds_29 ?_
      refine wp_callV hb (k' := 166) ko_168 lm_11_115 rfl m0_82 (by decide) (Nat.le_of_ble_eq_true rfl) dX11_holds_30 (sp_cI (hv.I (Nat.le_refl _) ?_))
      intro x5 m2 hv
      obtain ⟨q6, hv⟩ := hv
      refine wp_baload hb rfl m0_86 q6 dX11_holds_33 ?_
      refine wp_if_ne hb (y := 0) (t := 39) ⟨rfl, rfl⟩ dX11_holds_34 ⟨fun c7 => ?_, fun c7 => ?_⟩
      · have hv := hv.1 c7
        refine wp_iinc hb rfl (y := v2 + nI 1) rfl rfl dX11_holds_39 ?_
        refine wp_goto hb (t := 2) ⟨rfl, rfl⟩ dX11_holds_42 ?_
        exact wp_for (mm_ls_k (mm_ls_k (mm_ls_k mm_ls_nil))) hv
      · have hv := hv.2 c7
        refine wp_iconst hb (x := nI 0) rfl dX11_holds_37 ?_
        exact wp_retZ hb rfl (by decide) dX11_holds_38 hv
set_option maxRecDepth 100000 in
theorem v_X11_wayOf {d sn : Nat} {v1 : Int32} {v2 : Int32} {m : mm_Mem} {P : Int32 → mm_Mem → Prop} 
    (hv : mm_sp d sn kX11_isWay [.ref 82, .int v1] m (qI fun x1 m1 => ((x1 = 0) → (P (-1) m1)) ∧ (¬ (x1 = 0) → (mm_sp d sn kX11_in [.long v2.toInt64, .long (lN 0), .long (lN 3)] m1 (qI fun x3 m2 => ((¬ x3 = 0) → (((¬ v2 = 0) → (((¬ v2 = nI 1) → (((¬ v2 = nI 2) → (mm_sp d sn kX11_timesOf [.ref 82, .int v1] m2 (qI fun x8 m3 => P x8 m3))) ∧ (¬ (¬ v2 = nI 2) → (mm_sp d sn kX11_holds [.ref 82, .int v1] m2 (qI fun x9 m4 => ((x9 = 0) → (P (nI 0) m4)) ∧ (¬ (x9 = 0) → (P (nI 1) m4))))))) ∧ (¬ (¬ v2 = nI 1) → (vp_in ((nI 6) + v1) 48 ∧ (P (m2.1 83 ((nI 6) + v1).toNatClampNeg) m2))))) ∧ (¬ (¬ v2 = 0) → (vp_in ((nI 2) + v1) 48 ∧ (P (m2.1 83 ((nI 2) + v1).toNatClampNeg) m2))))) ∧ (¬ (¬ x3 = 0) → (P (-1) m2))))))) :
    mm_sp (d + 1) sn kX11_wayOf [.ref 82, .int v1, .int v2] m (qI P) := by
  have hb := mb_169
  refine wp_in (la := [some (.ref 82), some (.int v1), some (.int v2)]) ⟨⟨Nat.le_of_ble_eq_true rfl, by decide, by decide⟩, rfl⟩ ?_
  refine wp_aload_n hb rfl dX11_wayOf_0 ?_
  refine wp_iload_n hb rfl dX11_wayOf_1 ?_
  refine wp_callV hb (k' := 158) ko_169 lm_11_109 rfl m0_82 (by decide) (Nat.le_of_ble_eq_true rfl) dX11_wayOf_2 (sp_cI (hv.I (Nat.le_refl _) ?_))
  intro x1 m1 hv
  refine wp_if_eq hb (y := 0) (t := 20) ⟨rfl, rfl⟩ dX11_wayOf_5 ⟨fun c2 => ?_, fun c2 => ?_⟩
  · have hv := hv.1 c2
    refine wp_iconst hb (x := (-1)) rfl dX11_wayOf_20 ?_
    exact wp_retI hb rfl dX11_wayOf_21 hv
  · have hv := hv.2 c2
    refine wp_iload_n hb rfl dX11_wayOf_8 ?_
    refine wp_i2l hb dX11_wayOf_9 ?_
    refine wp_lconst hb (x := lN 0) rfl dX11_wayOf_10 ?_
    refine wp_ldc2 hb (ko_169) (kl_11_89) dX11_wayOf_11 ?_
    refine wp_callS hb (k' := 152) ko_169 lm_11_85 (by decide) rfl (Nat.le_of_ble_eq_true rfl) dX11_wayOf_14 (sp_cI (hv.I (Nat.le_refl _) ?_))
    intro x3 m2 hv
    refine wp_if_ne hb (y := 0) (t := 22) ⟨rfl, rfl⟩ dX11_wayOf_17 ⟨fun c4 => ?_, fun c4 => ?_⟩
    · have hv := hv.1 c4
      refine wp_iload_n hb rfl dX11_wayOf_22 ?_
      refine wp_if_ne hb (y := 0) (t := 37) ⟨rfl, rfl⟩ dX11_wayOf_23 ⟨fun c5 => ?_, fun c5 => ?_⟩
      · have hv := hv.1 c5
        refine wp_iload_n hb rfl dX11_wayOf_37 ?_
        refine wp_iconst hb (x := nI 1) rfl dX11_wayOf_38 ?_
        refine wp_icmp_ne hb (t := 54) ⟨rfl, rfl⟩ dX11_wayOf_39 ⟨fun c6 => ?_, fun c6 => ?_⟩
        · have hv := hv.1 c6
          refine wp_iload_n hb rfl dX11_wayOf_54 ?_
          refine wp_iconst hb (x := nI 2) rfl dX11_wayOf_55 ?_
          refine wp_icmp_ne hb (t := 75) ⟨rfl, rfl⟩ dX11_wayOf_56 ⟨fun c7 => ?_, fun c7 => ?_⟩
          · have hv := hv.1 c7
            refine wp_aload_n hb rfl dX11_wayOf_75 ?_
            refine wp_iload_n hb rfl dX11_wayOf_76 ?_
            refine wp_callV hb (k' := 167) ko_169 lm_11_121 rfl m0_82 (by decide) (Nat.le_of_ble_eq_true rfl) dX11_wayOf_77 (sp_cI (hv.I (Nat.le_refl _) ?_))
            intro x8 m3 hv
            exact wp_retI hb rfl dX11_wayOf_80 hv
          · have hv := hv.2 c7
            refine wp_aload_n hb rfl dX11_wayOf_59 ?_
            refine wp_iload_n hb rfl dX11_wayOf_60 ?_
            refine wp_callV hb (k' := 168) ko_169 lm_11_118 rfl m0_82 (by decide) (Nat.le_of_ble_eq_true rfl) dX11_wayOf_61 (sp_cI (hv.I (Nat.le_refl _) ?_))
            intro x9 m4 hv
            refine wp_if_eq hb (y := 0) (t := 71) ⟨rfl, rfl⟩ dX11_wayOf_64 ⟨fun c10 => ?_, fun c10 => ?_⟩
            · have hv := hv.1 c10
              refine wp_iconst hb (x := nI 0) rfl dX11_wayOf_71 ?_
              refine wp_goto hb (t := 80) ⟨rfl, rfl⟩ dX11_wayOf_72 ?_
              exact wp_retI hb rfl dX11_wayOf_80 hv
            · have hv := hv.2 c10
              refine wp_iconst hb (x := nI 1) rfl dX11_wayOf_67 ?_
              refine wp_goto hb (t := 80) ⟨rfl, rfl⟩ dX11_wayOf_68 ?_
              exact wp_retI hb rfl dX11_wayOf_80 hv
        · have hv := hv.2 c6
          refine wp_aload_n hb rfl dX11_wayOf_42 ?_
          refine wp_getR hb ko_169 lf_11_11 (by decide) m0_82 r0_82_0 dX11_wayOf_43 ?_
          refine wp_bipush hb (x := nI 6) rfl dX11_wayOf_46 ?_
          refine wp_iload_n hb rfl dX11_wayOf_48 ?_
          refine wp_iadd hb dX11_wayOf_49 ?_
          obtain ⟨q11, hv⟩ := hv
          refine wp_iaload hb rfl m0_83 q11 dX11_wayOf_50 ?_
          refine wp_goto hb (t := 80) ⟨rfl, rfl⟩ dX11_wayOf_51 ?_
          exact wp_retI hb rfl dX11_wayOf_80 hv
      · have hv := hv.2 c5
        refine wp_aload_n hb rfl dX11_wayOf_26 ?_
        refine wp_getR hb ko_169 lf_11_11 (by decide) m0_82 r0_82_0 dX11_wayOf_27 ?_
        refine wp_iconst hb (x := nI 2) rfl dX11_wayOf_30 ?_
        refine wp_iload_n hb rfl dX11_wayOf_31 ?_
        refine wp_iadd hb dX11_wayOf_32 ?_
        obtain ⟨q12, hv⟩ := hv
        refine wp_iaload hb rfl m0_83 q12 dX11_wayOf_33 ?_
        refine wp_goto hb (t := 80) ⟨rfl, rfl⟩ dX11_wayOf_34 ?_
        exact wp_retI hb rfl dX11_wayOf_80 hv
    · have hv := hv.2 c4
      refine wp_iconst hb (x := (-1)) rfl dX11_wayOf_20 ?_
      exact wp_retI hb rfl dX11_wayOf_21 hv
set_option maxRecDepth 100000 in
theorem v_X11_takes {d sn : Nat} {v1 : Int32} {v2 : Int32} {m : mm_Mem} {P : Int32 → mm_Mem → Prop} 
    (hv : mm_sp d sn kX11_isWay [.ref 82, .int v1] m (qI fun x1 m1 => ((x1 = 0) → (P (-1) m1)) ∧ (¬ (x1 = 0) → (mm_sp d sn kX11_isPoint [.ref 82, .int v2] m1 (qI fun x3 m2 => ((x3 = 0) → (P (-1) m2)) ∧ (¬ (x3 = 0) → (mm_sp d sn kX11_to [.ref 82, .int v1, .int v2] m2 (qI fun x5 m3 => P x5 m3)))))))) :
    mm_sp (d + 1) sn kX11_takes [.ref 82, .int v1, .int v2] m (qI P) := by
  have hb := mb_170
  refine wp_in (la := [some (.ref 82), some (.int v1), some (.int v2)]) ⟨⟨Nat.le_of_ble_eq_true rfl, by decide, by decide⟩, rfl⟩ ?_
  refine wp_aload_n hb rfl dX11_takes_0 ?_
  refine wp_iload_n hb rfl dX11_takes_1 ?_
  refine wp_callV hb (k' := 158) ko_170 lm_11_109 rfl m0_82 (by decide) (Nat.le_of_ble_eq_true rfl) dX11_takes_2 (sp_cI (hv.I (Nat.le_refl _) ?_))
  intro x1 m1 hv
  refine wp_if_eq hb (y := 0) (t := 25) ⟨rfl, rfl⟩ dX11_takes_5 ⟨fun c2 => ?_, fun c2 => ?_⟩
  · have hv := hv.1 c2
    refine wp_iconst hb (x := (-1)) rfl dX11_takes_25 ?_
    exact wp_retI hb rfl dX11_takes_26 hv
  · have hv := hv.2 c2
    refine wp_aload_n hb rfl dX11_takes_8 ?_
    refine wp_iload_n hb rfl dX11_takes_9 ?_
    refine wp_callV hb (k' := 157) ko_170 lm_11_105 rfl m0_82 (by decide) (Nat.le_of_ble_eq_true rfl) dX11_takes_10 (sp_cI (hv.I (Nat.le_refl _) ?_))
    intro x3 m2 hv
    refine wp_if_eq hb (y := 0) (t := 25) ⟨rfl, rfl⟩ dX11_takes_13 ⟨fun c4 => ?_, fun c4 => ?_⟩
    · have hv := hv.1 c4
      refine wp_iconst hb (x := (-1)) rfl dX11_takes_25 ?_
      exact wp_retI hb rfl dX11_takes_26 hv
    · have hv := hv.2 c4
      refine wp_aload_n hb rfl dX11_takes_16 ?_
      refine wp_iload_n hb rfl dX11_takes_17 ?_
      refine wp_iload_n hb rfl dX11_takes_18 ?_
      refine wp_callV hb (k' := 165) ko_170 lm_11_112 rfl m0_82 (by decide) (Nat.le_of_ble_eq_true rfl) dX11_takes_19 (sp_cI (hv.I (Nat.le_refl _) ?_))
      intro x5 m3 hv
      refine wp_goto hb (t := 26) ⟨rfl, rfl⟩ dX11_takes_22 ?_
      exact wp_retI hb rfl dX11_takes_26 hv
set_option maxRecDepth 100000 in
theorem v_X11_moves {d sn : Nat} {v1 : Int32} {v2 : Int32} {m : mm_Mem} {P : Int32 → mm_Mem → Prop} 
    (hv : mm_sp d sn kX11_isWay [.ref 82, .int v1] m (qI fun x1 m1 => ((x1 = 0) → (P (-1) m1)) ∧ (¬ (x1 = 0) → (mm_sp d sn kX11_isSet [.ref 82, .int v2] m1 (qI fun x3 m2 => ((x3 = 0) → (P (-1) m2)) ∧ (¬ (x3 = 0) → (mm_sp d sn kX11_moved [.ref 82, .int v1, .int v2] m2 (qI fun x5 m3 => P x5 m3)))))))) :
    mm_sp (d + 1) sn kX11_moves [.ref 82, .int v1, .int v2] m (qI P) := by
  have hb := mb_171
  refine wp_in (la := [some (.ref 82), some (.int v1), some (.int v2)]) ⟨⟨Nat.le_of_ble_eq_true rfl, by decide, by decide⟩, rfl⟩ ?_
  refine wp_aload_n hb rfl dX11_moves_0 ?_
  refine wp_iload_n hb rfl dX11_moves_1 ?_
  refine wp_callV hb (k' := 158) ko_171 lm_11_109 rfl m0_82 (by decide) (Nat.le_of_ble_eq_true rfl) dX11_moves_2 (sp_cI (hv.I (Nat.le_refl _) ?_))
  intro x1 m1 hv
  refine wp_if_eq hb (y := 0) (t := 25) ⟨rfl, rfl⟩ dX11_moves_5 ⟨fun c2 => ?_, fun c2 => ?_⟩
  · have hv := hv.1 c2
    refine wp_iconst hb (x := (-1)) rfl dX11_moves_25 ?_
    exact wp_retI hb rfl dX11_moves_26 hv
  · have hv := hv.2 c2
    refine wp_aload_n hb rfl dX11_moves_8 ?_
    refine wp_iload_n hb rfl dX11_moves_9 ?_
    refine wp_callV hb (k' := 156) ko_171 lm_11_125 rfl m0_82 (by decide) (Nat.le_of_ble_eq_true rfl) dX11_moves_10 (sp_cI (hv.I (Nat.le_refl _) ?_))
    intro x3 m2 hv
    refine wp_if_eq hb (y := 0) (t := 25) ⟨rfl, rfl⟩ dX11_moves_13 ⟨fun c4 => ?_, fun c4 => ?_⟩
    · have hv := hv.1 c4
      refine wp_iconst hb (x := (-1)) rfl dX11_moves_25 ?_
      exact wp_retI hb rfl dX11_moves_26 hv
    · have hv := hv.2 c4
      refine wp_aload_n hb rfl dX11_moves_16 ?_
      refine wp_iload_n hb rfl dX11_moves_17 ?_
      refine wp_iload_n hb rfl dX11_moves_18 ?_
      refine wp_callV hb (k' := 166) ko_171 lm_11_115 rfl m0_82 (by decide) (Nat.le_of_ble_eq_true rfl) dX11_moves_19 (sp_cI (hv.I (Nat.le_refl _) ?_))
      intro x5 m3 hv
      refine wp_goto hb (t := 26) ⟨rfl, rfl⟩ dX11_moves_22 ?_
      exact wp_retI hb rfl dX11_moves_26 hv
set_option maxRecDepth 100000 in
theorem v_X11_order {d sn : Nat} {m : mm_Mem} {P : Int32 → mm_Mem → Prop} 
    (hv : (∀ m1 : mm_Mem, m1 = (mm_u2 m.1 98 0 (nI 0), m.2) → (mm_wp d sn kX11_order 11 [some (.ref 82), some (.int (nI 1)), some (.int (nI 0)), none, none, none] [] m1 (qI P)))) :
    mm_sp (d + 1) sn kX11_order [.ref 82] m (qI P) := by
  have hb := mb_172
  refine wp_in (la := [some (.ref 82), none, none, none, none, none]) ⟨⟨Nat.le_of_ble_eq_true rfl, by decide, by decide⟩, rfl⟩ ?_
  refine wp_iconst hb (x := nI 1) rfl dX11_order_0 ?_
  refine wp_istore_n hb rfl dX11_order_1 ?_
  refine wp_aload_n hb rfl dX11_order_2 ?_
  refine wp_getR hb ko_172 lf_11_29 (by decide) m0_82 r0_82_6 dX11_order_3 ?_
  refine wp_iconst hb (x := nI 0) rfl dX11_order_6 ?_
  refine wp_iconst hb (x := nI 0) rfl dX11_order_7 ?_
  refine wp_iastore hb (q := 0) (by decide) m0_98 (by decide) (vp_in_nI (by decide) (by decide)) dX11_order_8 ?_
  have hv := hv _ rfl
  generalize (mm_u2 m.1 98 0 (nI 0), m.2) = m1 at hv ⊢
  refine wp_iconst hb (x := nI 0) rfl dX11_order_9 ?_
  refine wp_istore_n hb rfl dX11_order_10 ?_
  exact wp_for (mm_ls_k (mm_ls_k (mm_ls_k (mm_ls_k (mm_ls_k (mm_ls_k mm_ls_nil)))))) hv
set_option maxRecDepth 100000 in
theorem v_X11_order_11 {d sn : Nat} {v1 : Int32} {v2 : Int32} {m : mm_Mem} {P : Int32 → mm_Mem → Prop} 
    (hv : ((m.1 83 0 ≤ v2) → (mm_wp d sn kX11_order 43 [some (.ref 82), some (.int v1), some (.int (nI 0)), none, none, none] [] m (qI P))) ∧ (¬ (m.1 83 0 ≤ v2) → (∀ m1 : mm_Mem, m1 = (mm_u2 m.1 98 0 ((m.1 98 0) ||| (mm_shl v2 ((nI 3) * v2))), m.2) → (mm_wp d sn kX11_order 11 [some (.ref 82), some (.int v1), some (.int (v2 + nI 1)), none, none, none] [] m1 (qI P))))) :
    mm_wp d sn kX11_order 11 [some (.ref 82), some (.int v1), some (.int v2), none, none, none] [] m (qI P) := by
  have hb := mb_172
  refine wp_iload_n hb rfl dX11_order_11 ?_
  refine wp_aload_n hb rfl dX11_order_12 ?_
  refine wp_getR hb ko_172 lf_11_11 (by decide) m0_82 r0_82_0 dX11_order_13 ?_
  refine wp_iconst hb (x := nI 0) rfl dX11_order_16 ?_
  refine wp_iaload hb (q := 0) (by decide) m0_83 (vp_in_nI (by decide) (by decide)) dX11_order_17 ?_
  refine wp_icmp_ge hb (t := 41) ⟨rfl, rfl⟩ dX11_order_18 ⟨fun c1 => ?_, fun c1 => ?_⟩
  · have hv := hv.1 c1
    refine wp_iconst hb (x := nI 0) rfl dX11_order_41 ?_
    refine wp_istore_n hb rfl dX11_order_42 ?_
    exact wp_for (mm_ls_k (mm_ls_k (mm_ls_k (mm_ls_k (mm_ls_k (mm_ls_k mm_ls_nil)))))) hv
  · have hv := hv.2 c1
    refine wp_aload_n hb rfl dX11_order_21 ?_
    refine wp_getR hb ko_172 lf_11_29 (by decide) m0_82 r0_82_6 dX11_order_22 ?_
    refine wp_iconst hb (x := nI 0) rfl dX11_order_25 ?_
    refine wp_dup2 hb dX11_order_26 ?_
    refine wp_iaload hb (q := 0) (by decide) m0_98 (vp_in_nI (by decide) (by decide)) dX11_order_27 ?_
    refine wp_iload_n hb rfl dX11_order_28 ?_
    refine wp_iconst hb (x := nI 3) rfl dX11_order_29 ?_
    refine wp_iload_n hb rfl dX11_order_30 ?_
    refine wp_imul hb dX11_order_31 ?_
    refine wp_ishl hb dX11_order_32 ?_
    refine wp_ior hb dX11_order_33 ?_
    refine wp_iastore hb (q := 0) (by decide) m0_98 (by decide) (vp_in_nI (by decide) (by decide)) dX11_order_34 ?_
    have hv := hv _ rfl
    generalize (mm_u2 m.1 98 0 ((m.1 98 0) ||| (mm_shl v2 ((nI 3) * v2))), m.2) = m1 at hv ⊢
    refine wp_iinc hb rfl (y := v2 + nI 1) rfl rfl dX11_order_35 ?_
    refine wp_goto hb (t := 11) ⟨rfl, rfl⟩ dX11_order_38 ?_
    exact wp_for (mm_ls_k (mm_ls_k (mm_ls_k (mm_ls_k (mm_ls_k (mm_ls_k mm_ls_nil)))))) hv
set_option maxRecDepth 100000 in
theorem v_X11_order_43 {d sn : Nat} {v1 : Int32} {v2 : Int32} {m : mm_Mem} {P : Int32 → mm_Mem → Prop} 
    (hv : ((v1 ≤ v2) → (P v1 m)) ∧ (¬ (v1 ≤ v2) → (mm_wp d sn kX11_order 50 [some (.ref 82), some (.int v1), some (.int v2), some (.int (nI 0)), none, none] [] m (qI P)))) :
    mm_wp d sn kX11_order 43 [some (.ref 82), some (.int v1), some (.int v2), none, none, none] [] m (qI P) := by
  have hb := mb_172
  refine wp_iload_n hb rfl dX11_order_43 ?_
  refine wp_iload_n hb rfl dX11_order_44 ?_
  refine wp_icmp_ge hb (t := 179) ⟨rfl, rfl⟩ dX11_order_45 ⟨fun c1 => ?_, fun c1 => ?_⟩
  · have hv := hv.1 c1
    refine wp_iload_n hb rfl dX11_order_179 ?_
    exact wp_retI hb rfl dX11_order_180 hv
  · have hv := hv.2 c1
    refine wp_iconst hb (x := nI 0) rfl dX11_order_48 ?_
    refine wp_istore_n hb rfl dX11_order_49 ?_
    exact wp_for (mm_ls_k (mm_ls_k (mm_ls_k (mm_ls_k (mm_ls_k (mm_ls_k mm_ls_nil)))))) hv
set_option maxRecDepth 100000 in
theorem v_X11_order_50 {d sn : Nat} {v1 : Int32} {v2 : Int32} {v3 : Int32} {m : mm_Mem} {P : Int32 → mm_Mem → Prop} 
    (hv : ((m.1 83 1 ≤ v3) → (mm_wp d sn kX11_order 43 [some (.ref 82), some (.int v1), some (.int (v2 + nI 1)), none, none, none] [] m (qI P))) ∧ (¬ (m.1 83 1 ≤ v3) → (mm_wp d sn kX11_order 66 [some (.ref 82), some (.int v1), some (.int v2), some (.int v3), some (.int (nI 0)), some (.int (nI 0))] [] m (qI P)))) :
    mm_wp d sn kX11_order 50 [some (.ref 82), some (.int v1), some (.int v2), some (.int v3), none, none] [] m (qI P) := by
  have hb := mb_172
  refine wp_iload_n hb rfl dX11_order_50 ?_
  refine wp_aload_n hb rfl dX11_order_51 ?_
  refine wp_getR hb ko_172 lf_11_11 (by decide) m0_82 r0_82_0 dX11_order_52 ?_
  refine wp_iconst hb (x := nI 1) rfl dX11_order_55 ?_
  refine wp_iaload hb (q := 1) (by decide) m0_83 (vp_in_nI (by decide) (by decide)) dX11_order_56 ?_
  refine wp_icmp_ge hb (t := 173) ⟨rfl, rfl⟩ dX11_order_57 ⟨fun c1 => ?_, fun c1 => ?_⟩
  · have hv := hv.1 c1
    refine wp_iinc hb rfl (y := v2 + nI 1) rfl rfl dX11_order_173 ?_
    refine wp_goto hb (t := 43) ⟨rfl, rfl⟩ dX11_order_176 ?_
    exact wp_for (mm_ls_k (mm_ls_k (mm_ls_k (mm_ls_f (mm_ls_k (mm_ls_k mm_ls_nil)))))) hv
  · have hv := hv.2 c1
    refine wp_iconst hb (x := nI 0) rfl dX11_order_60 ?_
    refine wp_istore hb rfl dX11_order_61 ?_
    refine wp_iconst hb (x := nI 0) rfl dX11_order_63 ?_
    refine wp_istore hb rfl dX11_order_64 ?_
    exact wp_for (mm_ls_k (mm_ls_k (mm_ls_k (mm_ls_k (mm_ls_k (mm_ls_k mm_ls_nil)))))) hv
set_option maxRecDepth 100000 in
theorem v_X11_order_66 {d sn : Nat} {v1 : Int32} {v2 : Int32} {v3 : Int32} {v4 : Int32} {v5 : Int32} {m : mm_Mem} {P : Int32 → mm_Mem → Prop} 
    (hv : ((m.1 83 0 ≤ v5) → (mm_wp d sn kX11_order 115 [some (.ref 82), some (.int v1), some (.int v2), some (.int v3), some (.int v4), some (.int (nI 0))] [] m (qI P))) ∧ (¬ (m.1 83 0 ≤ v5) → (vp_in v2 500 ∧ (mm_sp d sn kX11_to [.ref 82, .int v3, .int ((mm_shr (m.1 98 v2.toNatClampNeg) ((nI 3) * v5)) &&& (nI 7))] m (qI fun x3 m1 => mm_wp d sn kX11_order 66 [some (.ref 82), some (.int v1), some (.int v2), some (.int v3), some (.int (v4 ||| (mm_shl x3 ((nI 3) * v5)))), some (.int (v5 + nI 1))] [] m1 (qI P)))))) :
    mm_wp d sn kX11_order 66 [some (.ref 82), some (.int v1), some (.int v2), some (.int v3), some (.int v4), some (.int v5)] [] m (qI P) := by
  have hb := mb_172
  refine wp_iload hb rfl dX11_order_66 ?_
  refine wp_aload_n hb rfl dX11_order_68 ?_
  refine wp_getR hb ko_172 lf_11_11 (by decide) m0_82 r0_82_0 dX11_order_69 ?_
  refine wp_iconst hb (x := nI 0) rfl dX11_order_72 ?_
  refine wp_iaload hb (q := 0) (by decide) m0_83 (vp_in_nI (by decide) (by decide)) dX11_order_73 ?_
  refine wp_icmp_ge hb (t := 112) ⟨rfl, rfl⟩ dX11_order_74 ⟨fun c1 => ?_, fun c1 => ?_⟩
  · have hv := hv.1 c1
    refine wp_iconst hb (x := nI 0) rfl dX11_order_112 ?_
    refine wp_istore hb rfl dX11_order_113 ?_
    exact wp_for (mm_ls_k (mm_ls_k (mm_ls_k (mm_ls_k (mm_ls_k (mm_ls_k mm_ls_nil)))))) hv
  · have hv := hv.2 c1
    refine wp_iload hb rfl dX11_order_77 ?_
    refine wp_aload_n hb rfl dX11_order_79 ?_
    refine wp_iload_n hb rfl dX11_order_80 ?_
    refine wp_aload_n hb rfl dX11_order_81 ?_
    refine wp_getR hb ko_172 lf_11_29 (by decide) m0_82 r0_82_6 dX11_order_82 ?_
    refine wp_iload_n hb rfl dX11_order_85 ?_
    obtain ⟨q2, hv⟩ := hv
    refine wp_iaload hb rfl m0_98 q2 dX11_order_86 ?_
    refine wp_iconst hb (x := nI 3) rfl dX11_order_87 ?_
    refine wp_iload hb rfl dX11_order_88 ?_
    refine wp_imul hb dX11_order_90 ?_
    refine wp_ishr hb dX11_order_91 ?_
    refine wp_bipush hb (x := nI 7) rfl dX11_order_92 ?_
    refine wp_iand hb dX11_order_94 ?_
    refine wp_callV hb (k' := 165) ko_172 lm_11_112 rfl m0_82 (by decide) (Nat.le_of_ble_eq_true rfl) dX11_order_95 (sp_cI (hv.I (Nat.le_refl _) ?_))
    intro x3 m1 hv
    refine wp_iconst hb (x := nI 3) rfl dX11_order_98 ?_
    refine wp_iload hb rfl dX11_order_99 ?_
    refine wp_imul hb dX11_order_101 ?_
    refine wp_ishl hb dX11_order_102 ?_
    refine wp_ior hb dX11_order_103 ?_
    refine wp_istore hb rfl dX11_order_104 ?_
    refine wp_iinc hb rfl (y := v5 + nI 1) rfl rfl dX11_order_106 ?_
    refine wp_goto hb (t := 66) ⟨rfl, rfl⟩ dX11_order_109 ?_
    exact wp_for (mm_ls_k (mm_ls_k (mm_ls_k (mm_ls_k (mm_ls_k (mm_ls_k mm_ls_nil)))))) hv
set_option maxRecDepth 100000 in
theorem v_X11_order_115 {d sn : Nat} {v1 : Int32} {v2 : Int32} {v3 : Int32} {v4 : Int32} {v5 : Int32} {m : mm_Mem} {P : Int32 → mm_Mem → Prop} 
    (hv : ((v1 ≤ v5) → (((¬ v5 = v1) → (mm_wp d sn kX11_order 50 [some (.ref 82), some (.int v1), some (.int v2), some (.int (v3 + nI 1)), none, none] [] m (qI P))) ∧ (¬ (¬ v5 = v1) → (((¬ v1 = nI 500) → (vp_in v1 500 ∧ (∀ m1 : mm_Mem, m1 = (mm_u2 m.1 98 v1.toNatClampNeg v4, m.2) → (mm_wp d sn kX11_order 50 [some (.ref 82), some (.int (v1 + nI 1)), some (.int v2), some (.int (v3 + nI 1)), none, none] [] m1 (qI P))))) ∧ (¬ (¬ v1 = nI 500) → (P (nI 500) m)))))) ∧ (¬ (v1 ≤ v5) → (vp_in v5 500 ∧ (((m.1 98 v5.toNatClampNeg = v4) → (((¬ v5 = v1) → (mm_wp d sn kX11_order 50 [some (.ref 82), some (.int v1), some (.int v2), some (.int (v3 + nI 1)), none, none] [] m (qI P))) ∧ (¬ (¬ v5 = v1) → (((¬ v1 = nI 500) → (vp_in v1 500 ∧ (∀ m2 : mm_Mem, m2 = (mm_u2 m.1 98 v1.toNatClampNeg v4, m.2) → (mm_wp d sn kX11_order 50 [some (.ref 82), some (.int (v1 + nI 1)), some (.int v2), some (.int (v3 + nI 1)), none, none] [] m2 (qI P))))) ∧ (¬ (¬ v1 = nI 500) → (P (nI 500) m)))))) ∧ (¬ (m.1 98 v5.toNatClampNeg = v4) → (mm_wp d sn kX11_order 115 [some (.ref 82), some (.int v1), some (.int v2), some (.int v3), some (.int v4), some (.int (v5 + nI 1))] [] m (qI P))))))) :
    mm_wp d sn kX11_order 115 [some (.ref 82), some (.int v1), some (.int v2), some (.int v3), some (.int v4), some (.int v5)] [] m (qI P) := by
  have hb := mb_172
  refine wp_iload hb rfl dX11_order_115 ?_
  refine wp_iload_n hb rfl dX11_order_117 ?_
  refine wp_icmp_ge hb (t := 139) ⟨rfl, rfl⟩ dX11_order_118 ⟨fun c1 => ?_, fun c1 => ?_⟩
  · have hv := hv.1 c1
    refine wp_iload hb rfl dX11_order_139 ?_
    refine wp_iload_n hb rfl dX11_order_141 ?_
    refine wp_icmp_ne hb (t := 167) ⟨rfl, rfl⟩ dX11_order_142 ⟨fun c2 => ?_, fun c2 => ?_⟩
    · have hv := hv.1 c2
      refine wp_iinc hb rfl (y := v3 + nI 1) rfl rfl dX11_order_167 ?_
      refine wp_goto hb (t := 50) ⟨rfl, rfl⟩ dX11_order_170 ?_
      exact wp_for (mm_ls_k (mm_ls_k (mm_ls_k (mm_ls_k (mm_ls_f (mm_ls_f mm_ls_nil)))))) hv
    · have hv := hv.2 c2
      refine wp_iload_n hb rfl dX11_order_145 ?_
      refine wp_sipush hb (x := nI 500) rfl dX11_order_146 ?_
      refine wp_icmp_ne hb (t := 156) ⟨rfl, rfl⟩ dX11_order_149 ⟨fun c3 => ?_, fun c3 => ?_⟩
      · have hv := hv.1 c3
        refine wp_aload_n hb rfl dX11_order_156 ?_
        refine wp_getR hb ko_172 lf_11_29 (by decide) m0_82 r0_82_6 dX11_order_157 ?_
        refine wp_iload_n hb rfl dX11_order_160 ?_
        refine wp_iload hb rfl dX11_order_161 ?_
        obtain ⟨q4, hv⟩ := hv
        refine wp_iastore hb rfl m0_98 (by decide) q4 dX11_order_163 ?_
        have hv := hv _ rfl
        generalize (mm_u2 m.1 98 v1.toNatClampNeg v4, m.2) = m1 at hv ⊢
        refine wp_iinc hb rfl (y := v1 + nI 1) rfl rfl dX11_order_164 ?_
        refine wp_iinc hb rfl (y := v3 + nI 1) rfl rfl dX11_order_167 ?_
        refine wp_goto hb (t := 50) ⟨rfl, rfl⟩ dX11_order_170 ?_
        exact wp_for (mm_ls_k (mm_ls_k (mm_ls_k (mm_ls_k (mm_ls_f (mm_ls_f mm_ls_nil)))))) hv
      · have hv := hv.2 c3
        refine wp_sipush hb (x := nI 500) rfl dX11_order_152 ?_
        exact wp_retI hb rfl dX11_order_155 hv
  · have hv := hv.2 c1
    refine wp_aload_n hb rfl dX11_order_121 ?_
    refine wp_getR hb ko_172 lf_11_29 (by decide) m0_82 r0_82_6 dX11_order_122 ?_
    refine wp_iload hb rfl dX11_order_125 ?_
    obtain ⟨q5, hv⟩ := hv
    refine wp_iaload hb rfl m0_98 q5 dX11_order_127 ?_
    refine wp_iload hb rfl dX11_order_128 ?_
    refine wp_icmp_eq hb (t := 139) ⟨rfl, rfl⟩ dX11_order_130 ⟨fun c6 => ?_, fun c6 => ?_⟩
    · have hv := hv.1 c6
      refine wp_iload hb rfl dX11_order_139 ?_
      refine wp_iload_n hb rfl dX11_order_141 ?_
      refine wp_icmp_ne hb (t := 167) ⟨rfl, rfl⟩ dX11_order_142 ⟨fun c7 => ?_, fun c7 => ?_⟩
      · have hv := hv.1 c7
        refine wp_iinc hb rfl (y := v3 + nI 1) rfl rfl dX11_order_167 ?_
        refine wp_goto hb (t := 50) ⟨rfl, rfl⟩ dX11_order_170 ?_
        exact wp_for (mm_ls_k (mm_ls_k (mm_ls_k (mm_ls_k (mm_ls_f (mm_ls_f mm_ls_nil)))))) hv
      · have hv := hv.2 c7
        refine wp_iload_n hb rfl dX11_order_145 ?_
        refine wp_sipush hb (x := nI 500) rfl dX11_order_146 ?_
        refine wp_icmp_ne hb (t := 156) ⟨rfl, rfl⟩ dX11_order_149 ⟨fun c8 => ?_, fun c8 => ?_⟩
        · have hv := hv.1 c8
          refine wp_aload_n hb rfl dX11_order_156 ?_
          refine wp_getR hb ko_172 lf_11_29 (by decide) m0_82 r0_82_6 dX11_order_157 ?_
          refine wp_iload_n hb rfl dX11_order_160 ?_
          refine wp_iload hb rfl dX11_order_161 ?_
          obtain ⟨q9, hv⟩ := hv
          refine wp_iastore hb rfl m0_98 (by decide) q9 dX11_order_163 ?_
          have hv := hv _ rfl
          generalize (mm_u2 m.1 98 v1.toNatClampNeg v4, m.2) = m2 at hv ⊢
          refine wp_iinc hb rfl (y := v1 + nI 1) rfl rfl dX11_order_164 ?_
          refine wp_iinc hb rfl (y := v3 + nI 1) rfl rfl dX11_order_167 ?_
          refine wp_goto hb (t := 50) ⟨rfl, rfl⟩ dX11_order_170 ?_
          exact wp_for (mm_ls_k (mm_ls_k (mm_ls_k (mm_ls_k (mm_ls_f (mm_ls_f mm_ls_nil)))))) hv
        · have hv := hv.2 c8
          refine wp_sipush hb (x := nI 500) rfl dX11_order_152 ?_
          exact wp_retI hb rfl dX11_order_155 hv
    · have hv := hv.2 c6
      refine wp_iinc hb rfl (y := v5 + nI 1) rfl rfl dX11_order_133 ?_
      refine wp_goto hb (t := 115) ⟨rfl, rfl⟩ dX11_order_136 ?_
      exact wp_for (mm_ls_k (mm_ls_k (mm_ls_k (mm_ls_k (mm_ls_k (mm_ls_k mm_ls_nil)))))) hv
set_option maxRecDepth 100000 in
theorem v_X11_finds {d sn : Nat} {m : mm_Mem} {P : mm_Mem → Prop} 
    (hv : mm_wp d sn kX11_finds 2 [some (.ref 82), some (.int (nI 0)), none, none, none, none, none] [] m (qV P)) :
    mm_sp (d + 1) sn kX11_finds [.ref 82] m (qV P) := by
  have hb := mb_173
  refine wp_in (la := [some (.ref 82), none, none, none, none, none, none]) ⟨⟨Nat.le_of_ble_eq_true rfl, by decide, by decide⟩, rfl⟩ ?_
  refine wp_iconst hb (x := nI 0) rfl dX11_finds_0 ?_
  refine wp_istore_n hb rfl dX11_finds_1 ?_
  exact wp_for (mm_ls_k (mm_ls_k (mm_ls_k (mm_ls_k (mm_ls_k (mm_ls_k (mm_ls_k mm_ls_nil))))))) hv
set_option maxRecDepth 100000 in
theorem v_X11_finds_2 {d sn : Nat} {v1 : Int32} {m : mm_Mem} {P : mm_Mem → Prop} 
    (hv : mm_sp d sn kX11_whole [.ref 82] m (qI fun x1 m1 => ((x1 < v1) → (mm_wp d sn kX11_finds 25 [some (.ref 82), some (.int (nI 0)), none, none, none, none, none] [] m1 (qV P))) ∧ (¬ (x1 < v1) → (vp_in v1 256 ∧ (∀ m2 : mm_Mem, m2 = (mm_u2 m1.1 99 v1.toNatClampNeg (-1), m1.2) → (mm_wp d sn kX11_finds 2 [some (.ref 82), some (.int (v1 + nI 1)), none, none, none, none, none] [] m2 (qV P))))))) :
    mm_wp d sn kX11_finds 2 [some (.ref 82), some (.int v1), none, none, none, none, none] [] m (qV P) := by
  have hb := mb_173
  refine wp_iload_n hb rfl dX11_finds_2 ?_
  refine wp_aload_n hb rfl dX11_finds_3 ?_
  refine wp_callV hb (k' := 155) ko_173 lm_11_81 rfl m0_82 (by decide) (Nat.le_of_ble_eq_true rfl) dX11_finds_4 (sp_cI (hv.I (Nat.le_refl _) ?_))
  intro x1 m1 hv
  refine wp_icmp_gt hb (t := 23) ⟨rfl, rfl⟩ dX11_finds_7 ⟨fun c2 => ?_, fun c2 => ?_⟩
  · have hv := hv.1 c2
    refine wp_iconst hb (x := nI 0) rfl dX11_finds_23 ?_
    refine wp_istore_n hb rfl dX11_finds_24 ?_
    exact wp_for (mm_ls_k (mm_ls_k (mm_ls_k (mm_ls_k (mm_ls_k (mm_ls_k (mm_ls_k mm_ls_nil))))))) hv
  · have hv := hv.2 c2
    refine wp_aload_n hb rfl dX11_finds_10 ?_
    refine wp_getR hb ko_173 lf_11_32 (by decide) m0_82 r0_82_7 dX11_finds_11 ?_
    refine wp_iload_n hb rfl dX11_finds_14 ?_
    refine wp_iconst hb (x := (-1)) rfl dX11_finds_15 ?_
    obtain ⟨q3, hv⟩ := hv
    refine wp_iastore hb rfl m0_99 (by decide) q3 dX11_finds_16 ?_
    have hv := hv _ rfl
    generalize (mm_u2 m1.1 99 v1.toNatClampNeg (-1), m1.2) = m2 at hv ⊢
    refine wp_iinc hb rfl (y := v1 + nI 1) rfl rfl dX11_finds_17 ?_
    refine wp_goto hb (t := 2) ⟨rfl, rfl⟩ dX11_finds_20 ?_
    exact wp_for (mm_ls_k (mm_ls_k (mm_ls_k (mm_ls_k (mm_ls_k (mm_ls_k (mm_ls_k mm_ls_nil))))))) hv
set_option maxRecDepth 100000 in
theorem v_X11_finds_25 {d sn : Nat} {v1 : Int32} {m : mm_Mem} {P : mm_Mem → Prop} 
    (hv : ((m.1 83 0 < v1) → (mm_wp d sn kX11_finds 50 [some (.ref 82), some (.int (nI 0)), none, none, none, none, none] [] m (qV P))) ∧ (¬ (m.1 83 0 < v1) → (vp_in v1 9 ∧ (∀ m1 : mm_Mem, m1 = (mm_u2 m.1 100 v1.toNatClampNeg (nI 0), m.2) → (mm_wp d sn kX11_finds 25 [some (.ref 82), some (.int (v1 + nI 1)), none, none, none, none, none] [] m1 (qV P)))))) :
    mm_wp d sn kX11_finds 25 [some (.ref 82), some (.int v1), none, none, none, none, none] [] m (qV P) := by
  have hb := mb_173
  refine wp_iload_n hb rfl dX11_finds_25 ?_
  refine wp_aload_n hb rfl dX11_finds_26 ?_
  refine wp_getR hb ko_173 lf_11_11 (by decide) m0_82 r0_82_0 dX11_finds_27 ?_
  refine wp_iconst hb (x := nI 0) rfl dX11_finds_30 ?_
  refine wp_iaload hb (q := 0) (by decide) m0_83 (vp_in_nI (by decide) (by decide)) dX11_finds_31 ?_
  refine wp_icmp_gt hb (t := 48) ⟨rfl, rfl⟩ dX11_finds_32 ⟨fun c1 => ?_, fun c1 => ?_⟩
  · have hv := hv.1 c1
    refine wp_iconst hb (x := nI 0) rfl dX11_finds_48 ?_
    refine wp_istore_n hb rfl dX11_finds_49 ?_
    exact wp_for (mm_ls_k (mm_ls_k (mm_ls_k (mm_ls_k (mm_ls_k (mm_ls_k (mm_ls_k mm_ls_nil))))))) hv
  · have hv := hv.2 c1
    refine wp_aload_n hb rfl dX11_finds_35 ?_
    refine wp_getR hb ko_173 lf_11_35 (by decide) m0_82 r0_82_8 dX11_finds_36 ?_
    refine wp_iload_n hb rfl dX11_finds_39 ?_
    refine wp_iconst hb (x := nI 0) rfl dX11_finds_40 ?_
    obtain ⟨q2, hv⟩ := hv
    refine wp_iastore hb rfl m0_100 (by decide) q2 dX11_finds_41 ?_
    have hv := hv _ rfl
    generalize (mm_u2 m.1 100 v1.toNatClampNeg (nI 0), m.2) = m1 at hv ⊢
    refine wp_iinc hb rfl (y := v1 + nI 1) rfl rfl dX11_finds_42 ?_
    refine wp_goto hb (t := 25) ⟨rfl, rfl⟩ dX11_finds_45 ?_
    exact wp_for (mm_ls_k (mm_ls_k (mm_ls_k (mm_ls_k (mm_ls_k (mm_ls_k (mm_ls_k mm_ls_nil))))))) hv
set_option maxRecDepth 100000 in
theorem v_X11_finds_50 {d sn : Nat} {v1 : Int32} {m : mm_Mem} {P : mm_Mem → Prop} 
    (hv : mm_sp d sn kX11_whole [.ref 82] m (qI fun x1 m1 => ((x1 < v1) → (P m1)) ∧ (¬ (x1 < v1) → (vp_in v1 256 ∧ (((0 ≤ m1.1 99 v1.toNatClampNeg) → (mm_wp d sn kX11_finds 50 [some (.ref 82), some (.int (v1 + nI 1)), none, none, none, none, none] [] m1 (qV P))) ∧ (¬ (0 ≤ m1.1 99 v1.toNatClampNeg) → (mm_sp d sn kX11_size [.int v1] m1 (qI fun x5 m2 => vp_in x5 9 ∧ (mm_sp d sn kX11_size [.int v1] m2 (qI fun x7 m3 => vp_in x7 9 ∧ (vp_in x7 9 ∧ (∀ m4 : mm_Mem, m4 = (mm_u2 m3.1 100 x7.toNatClampNeg ((m3.1 100 x7.toNatClampNeg) + (nI 1)), m3.2) → (vp_in v1 256 ∧ (∀ m5 : mm_Mem, m5 = (mm_u2 m4.1 99 v1.toNatClampNeg (m2.1 100 x5.toNatClampNeg), m4.2) → (∀ m6 : mm_Mem, m6 = (mm_u2 m5.1 101 0 v1, m5.2) → (mm_wp d sn kX11_finds 109 [some (.ref 82), some (.int v1), some (.int (m2.1 100 x5.toNatClampNeg)), some (.int (nI 1)), some (.int (nI 0)), none, none] [] m6 (qV P))))))))))))))))) :
    mm_wp d sn kX11_finds 50 [some (.ref 82), some (.int v1), none, none, none, none, none] [] m (qV P) := by
  have hb := mb_173
  refine wp_iload_n hb rfl dX11_finds_50 ?_
  refine wp_aload_n hb rfl dX11_finds_51 ?_
  refine wp_callV hb (k' := 155) ko_173 lm_11_81 rfl m0_82 (by decide) (Nat.le_of_ble_eq_true rfl) dX11_finds_52 (sp_cI (hv.I (Nat.le_refl _) ?_))
  intro x1 m1 hv
  refine wp_icmp_gt hb (t := 191) ⟨rfl, rfl⟩ dX11_finds_55 ⟨fun c2 => ?_, fun c2 => ?_⟩
  · have hv := hv.1 c2
    exact wp_retV hb rfl dX11_finds_191 hv
  · have hv := hv.2 c2
    refine wp_aload_n hb rfl dX11_finds_58 ?_
    refine wp_getR hb ko_173 lf_11_32 (by decide) m0_82 r0_82_7 dX11_finds_59 ?_
    refine wp_iload_n hb rfl dX11_finds_62 ?_
    obtain ⟨q3, hv⟩ := hv
    refine wp_iaload hb rfl m0_99 q3 dX11_finds_63 ?_
    refine wp_if_ge hb (y := 0) (t := 185) ⟨rfl, rfl⟩ dX11_finds_64 ⟨fun c4 => ?_, fun c4 => ?_⟩
    · have hv := hv.1 c4
      refine wp_iinc hb rfl (y := v1 + nI 1) rfl rfl dX11_finds_185 ?_
      refine wp_goto hb (t := 50) ⟨rfl, rfl⟩ dX11_finds_188 ?_
      exact wp_for (mm_ls_k (mm_ls_k (mm_ls_k (mm_ls_k (mm_ls_k (mm_ls_k (mm_ls_k mm_ls_nil))))))) hv
    · have hv := hv.2 c4
      refine wp_aload_n hb rfl dX11_finds_67 ?_
      refine wp_getR hb ko_173 lf_11_35 (by decide) m0_82 r0_82_8 dX11_finds_68 ?_
      refine wp_iload_n hb rfl dX11_finds_71 ?_
      refine wp_callS hb (k' := 154) ko_173 lm_11_128 (by decide) rfl (Nat.le_of_ble_eq_true rfl) dX11_finds_72 (sp_cI (hv.I (Nat.le_refl _) ?_))
      intro x5 m2 hv
      obtain ⟨q6, hv⟩ := hv
      refine wp_iaload hb rfl m0_100 q6 dX11_finds_75 ?_
      refine wp_istore_n hb rfl dX11_finds_76 ?_
      refine wp_aload_n hb rfl dX11_finds_77 ?_
      refine wp_getR hb ko_173 lf_11_35 (by decide) m0_82 r0_82_8 dX11_finds_78 ?_
      refine wp_iload_n hb rfl dX11_finds_81 ?_
      refine wp_callS hb (k' := 154) ko_173 lm_11_128 (by decide) rfl (Nat.le_of_ble_eq_true rfl) dX11_finds_82 (sp_cI (hv.I (Nat.le_refl _) ?_))
      intro x7 m3 hv
      refine wp_dup2 hb dX11_finds_85 ?_
      obtain ⟨q8, hv⟩ := hv
      refine wp_iaload hb rfl m0_100 q8 dX11_finds_86 ?_
      refine wp_iconst hb (x := nI 1) rfl dX11_finds_87 ?_
      refine wp_iadd hb dX11_finds_88 ?_
      obtain ⟨q9, hv⟩ := hv
      refine wp_iastore hb rfl m0_100 (by decide) q9 dX11_finds_89 ?_
      have hv := hv _ rfl
      generalize (mm_u2 m3.1 100 x7.toNatClampNeg ((m3.1 100 x7.toNatClampNeg) + (nI 1)), m3.2) = m4 at hv ⊢
      refine wp_aload_n hb rfl dX11_finds_90 ?_
      refine wp_getR hb ko_173 lf_11_32 (by decide) m0_82 r0_82_7 dX11_finds_91 ?_
      refine wp_iload_n hb rfl dX11_finds_94 ?_
      refine wp_iload_n hb rfl dX11_finds_95 ?_
      obtain ⟨q10, hv⟩ := hv
      refine wp_iastore hb rfl m0_99 (by decide) q10 dX11_finds_96 ?_
      have hv := hv _ rfl
      generalize (mm_u2 m4.1 99 v1.toNatClampNeg (m2.1 100 x5.toNatClampNeg), m4.2) = m5 at hv ⊢
      refine wp_aload_n hb rfl dX11_finds_97 ?_
      refine wp_getR hb ko_173 lf_11_38 (by decide) m0_82 r0_82_9 dX11_finds_98 ?_
      refine wp_iconst hb (x := nI 0) rfl dX11_finds_101 ?_
      refine wp_iload_n hb rfl dX11_finds_102 ?_
      refine wp_iastore hb (q := 0) (by decide) m0_101 (by decide) (vp_in_nI (by decide) (by decide)) dX11_finds_103 ?_
      have hv := hv _ rfl
      generalize (mm_u2 m5.1 101 0 v1, m5.2) = m6 at hv ⊢
      refine wp_iconst hb (x := nI 1) rfl dX11_finds_104 ?_
      refine wp_istore_n hb rfl dX11_finds_105 ?_
      refine wp_iconst hb (x := nI 0) rfl dX11_finds_106 ?_
      refine wp_istore hb rfl dX11_finds_107 ?_
      exact wp_for (mm_ls_k (mm_ls_k (mm_ls_k (mm_ls_k (mm_ls_k (mm_ls_k (mm_ls_k mm_ls_nil))))))) hv
set_option maxRecDepth 100000 in
theorem v_X11_finds_109 {d sn : Nat} {v1 : Int32} {v2 : Int32} {v3 : Int32} {v4 : Int32} {m : mm_Mem} {P : mm_Mem → Prop} 
    (hv : ((v3 ≤ v4) → (mm_wp d sn kX11_finds 50 [some (.ref 82), some (.int (v1 + nI 1)), none, none, none, none, none] [] m (qV P))) ∧ (¬ (v3 ≤ v4) → (mm_wp d sn kX11_finds 118 [some (.ref 82), some (.int v1), some (.int v2), some (.int v3), some (.int v4), some (.int (nI 0)), none] [] m (qV P)))) :
    mm_wp d sn kX11_finds 109 [some (.ref 82), some (.int v1), some (.int v2), some (.int v3), some (.int v4), none, none] [] m (qV P) := by
  have hb := mb_173
  refine wp_iload hb rfl dX11_finds_109 ?_
  refine wp_iload_n hb rfl dX11_finds_111 ?_
  refine wp_icmp_ge hb (t := 185) ⟨rfl, rfl⟩ dX11_finds_112 ⟨fun c1 => ?_, fun c1 => ?_⟩
  · have hv := hv.1 c1
    refine wp_iinc hb rfl (y := v1 + nI 1) rfl rfl dX11_finds_185 ?_
    refine wp_goto hb (t := 50) ⟨rfl, rfl⟩ dX11_finds_188 ?_
    exact wp_for (mm_ls_k (mm_ls_k (mm_ls_f (mm_ls_f (mm_ls_f (mm_ls_k (mm_ls_k mm_ls_nil))))))) hv
  · have hv := hv.2 c1
    refine wp_iconst hb (x := nI 0) rfl dX11_finds_115 ?_
    refine wp_istore hb rfl dX11_finds_116 ?_
    exact wp_for (mm_ls_k (mm_ls_k (mm_ls_k (mm_ls_k (mm_ls_k (mm_ls_k (mm_ls_k mm_ls_nil))))))) hv
set_option maxRecDepth 100000 in
theorem v_X11_finds_118 {d sn : Nat} {v1 : Int32} {v2 : Int32} {v3 : Int32} {v4 : Int32} {v5 : Int32} {m : mm_Mem} {P : mm_Mem → Prop} 
    (hv : ((m.1 83 1 ≤ v5) → (mm_wp d sn kX11_finds 109 [some (.ref 82), some (.int v1), some (.int v2), some (.int v3), some (.int (v4 + nI 1)), none, none] [] m (qV P))) ∧ (¬ (m.1 83 1 ≤ v5) → (vp_in v4 256 ∧ (mm_sp d sn kX11_moved [.ref 82, .int v5, .int (m.1 101 v4.toNatClampNeg)] m (qI fun x3 m1 => vp_in x3 256 ∧ (((0 ≤ m1.1 99 x3.toNatClampNeg) → (mm_wp d sn kX11_finds 118 [some (.ref 82), some (.int v1), some (.int v2), some (.int v3), some (.int v4), some (.int (v5 + nI 1)), none] [] m1 (qV P))) ∧ (¬ (0 ≤ m1.1 99 x3.toNatClampNeg) → (vp_in x3 256 ∧ (∀ m2 : mm_Mem, m2 = (mm_u2 m1.1 99 x3.toNatClampNeg v2, m1.2) → (vp_in v3 256 ∧ (∀ m3 : mm_Mem, m3 = (mm_u2 m2.1 101 v3.toNatClampNeg x3, m2.2) → (mm_wp d sn kX11_finds 118 [some (.ref 82), some (.int v1), some (.int v2), some (.int (v3 + nI 1)), some (.int v4), some (.int (v5 + nI 1)), none] [] m3 (qV P))))))))))))) :
    mm_wp d sn kX11_finds 118 [some (.ref 82), some (.int v1), some (.int v2), some (.int v3), some (.int v4), some (.int v5), none] [] m (qV P) := by
  have hb := mb_173
  refine wp_iload hb rfl dX11_finds_118 ?_
  refine wp_aload_n hb rfl dX11_finds_120 ?_
  refine wp_getR hb ko_173 lf_11_11 (by decide) m0_82 r0_82_0 dX11_finds_121 ?_
  refine wp_iconst hb (x := nI 1) rfl dX11_finds_124 ?_
  refine wp_iaload hb (q := 1) (by decide) m0_83 (vp_in_nI (by decide) (by decide)) dX11_finds_125 ?_
  refine wp_icmp_ge hb (t := 179) ⟨rfl, rfl⟩ dX11_finds_126 ⟨fun c1 => ?_, fun c1 => ?_⟩
  · have hv := hv.1 c1
    refine wp_iinc hb rfl (y := v4 + nI 1) rfl rfl dX11_finds_179 ?_
    refine wp_goto hb (t := 109) ⟨rfl, rfl⟩ dX11_finds_182 ?_
    exact wp_for (mm_ls_k (mm_ls_k (mm_ls_k (mm_ls_k (mm_ls_k (mm_ls_f (mm_ls_k mm_ls_nil))))))) hv
  · have hv := hv.2 c1
    refine wp_aload_n hb rfl dX11_finds_129 ?_
    refine wp_iload hb rfl dX11_finds_130 ?_
    refine wp_aload_n hb rfl dX11_finds_132 ?_
    refine wp_getR hb ko_173 lf_11_38 (by decide) m0_82 r0_82_9 dX11_finds_133 ?_
    refine wp_iload hb rfl dX11_finds_136 ?_
    obtain ⟨q2, hv⟩ := hv
    refine wp_iaload hb rfl m0_101 q2 dX11_finds_138 ?_
    refine wp_callV hb (k' := 166) ko_173 lm_11_115 rfl m0_82 (by decide) (Nat.le_of_ble_eq_true rfl) dX11_finds_139 (sp_cI (hv.I (Nat.le_refl _) ?_))
    intro x3 m1 hv
    refine wp_istore hb rfl dX11_finds_142 ?_
    refine wp_aload_n hb rfl dX11_finds_144 ?_
    refine wp_getR hb ko_173 lf_11_32 (by decide) m0_82 r0_82_7 dX11_finds_145 ?_
    refine wp_iload hb rfl dX11_finds_148 ?_
    obtain ⟨q4, hv⟩ := hv
    refine wp_iaload hb rfl m0_99 q4 dX11_finds_150 ?_
    refine wp_if_ge hb (y := 0) (t := 173) ⟨rfl, rfl⟩ dX11_finds_151 ⟨fun c5 => ?_, fun c5 => ?_⟩
    · have hv := hv.1 c5
      refine wp_iinc hb rfl (y := v5 + nI 1) rfl rfl dX11_finds_173 ?_
      refine wp_goto hb (t := 118) ⟨rfl, rfl⟩ dX11_finds_176 ?_
      exact wp_for (mm_ls_k (mm_ls_k (mm_ls_k (mm_ls_k (mm_ls_k (mm_ls_k (mm_ls_f mm_ls_nil))))))) hv
    · have hv := hv.2 c5
      refine wp_aload_n hb rfl dX11_finds_154 ?_
      refine wp_getR hb ko_173 lf_11_32 (by decide) m0_82 r0_82_7 dX11_finds_155 ?_
      refine wp_iload hb rfl dX11_finds_158 ?_
      refine wp_iload_n hb rfl dX11_finds_160 ?_
      obtain ⟨q6, hv⟩ := hv
      refine wp_iastore hb rfl m0_99 (by decide) q6 dX11_finds_161 ?_
      have hv := hv _ rfl
      generalize (mm_u2 m1.1 99 x3.toNatClampNeg v2, m1.2) = m2 at hv ⊢
      refine wp_aload_n hb rfl dX11_finds_162 ?_
      refine wp_getR hb ko_173 lf_11_38 (by decide) m0_82 r0_82_9 dX11_finds_163 ?_
      refine wp_iload_n hb rfl dX11_finds_166 ?_
      refine wp_iload hb rfl dX11_finds_167 ?_
      obtain ⟨q7, hv⟩ := hv
      refine wp_iastore hb rfl m0_101 (by decide) q7 dX11_finds_169 ?_
      have hv := hv _ rfl
      generalize (mm_u2 m2.1 101 v3.toNatClampNeg x3, m2.2) = m3 at hv ⊢
      refine wp_iinc hb rfl (y := v3 + nI 1) rfl rfl dX11_finds_170 ?_
      refine wp_iinc hb rfl (y := v5 + nI 1) rfl rfl dX11_finds_173 ?_
      refine wp_goto hb (t := 118) ⟨rfl, rfl⟩ dX11_finds_176 ?_
      exact wp_for (mm_ls_k (mm_ls_k (mm_ls_k (mm_ls_k (mm_ls_k (mm_ls_k (mm_ls_f mm_ls_nil))))))) hv
set_option maxRecDepth 100000 in
theorem v_X11_isSize {d sn : Nat} {v1 : Int32} {m : mm_Mem} {P : Int32 → mm_Mem → Prop} 
    (hv : mm_sp d sn kX11_in [.long v1.toInt64, .long (lN 0), .long ((m.1 83 0).toInt64)] m (qI fun x1 m1 => (x1 = 0 ∨ x1 = 1) ∧ P x1 m1)) :
    mm_sp (d + 1) sn kX11_isSize [.ref 82, .int v1] m (qI P) := by
  have hb := mb_174
  refine wp_in (la := [some (.ref 82), some (.int v1)]) ⟨⟨Nat.le_of_ble_eq_true rfl, by decide, by decide⟩, rfl⟩ ?_
  refine wp_iload_n hb rfl dX11_isSize_0 ?_
  refine wp_i2l hb dX11_isSize_1 ?_
  refine wp_lconst hb (x := lN 0) rfl dX11_isSize_2 ?_
  refine wp_aload_n hb rfl dX11_isSize_3 ?_
  refine wp_getR hb ko_174 lf_11_11 (by decide) m0_82 r0_82_0 dX11_isSize_4 ?_
  refine wp_iconst hb (x := nI 0) rfl dX11_isSize_7 ?_
  refine wp_iaload hb (q := 0) (by decide) m0_83 (vp_in_nI (by decide) (by decide)) dX11_isSize_8 ?_
  refine wp_i2l hb dX11_isSize_9 ?_
  refine wp_callS hb (k' := 152) ko_174 lm_11_85 (by decide) rfl (Nat.le_of_ble_eq_true rfl) dX11_isSize_10 (sp_cI (hv.I (Nat.le_refl _) ?_))
  intro x1 m1 hv
  exact wp_retZ hb rfl hv.1 dX11_isSize_13 hv.2
set_option maxRecDepth 100000 in
theorem v_X11_orbits {d sn : Nat} {v1 : Int32} {m : mm_Mem} {P : Int32 → mm_Mem → Prop} 
    (hv : mm_sp d sn kX11_isSize [.ref 82, .int v1] m (qI fun x1 m1 => ((¬ x1 = 0) → (mm_sp d sn kX11_finds [.ref 82] m1 (qV fun m2 => vp_in v1 9 ∧ (P (m2.1 100 v1.toNatClampNeg) m2)))) ∧ (¬ (¬ x1 = 0) → (P (-2) m1)))) :
    mm_sp (d + 1) sn kX11_orbits [.ref 82, .int v1] m (qI P) := by
  have hb := mb_175
  refine wp_in (la := [some (.ref 82), some (.int v1)]) ⟨⟨Nat.le_of_ble_eq_true rfl, by decide, by decide⟩, rfl⟩ ?_
  refine wp_aload_n hb rfl dX11_orbits_0 ?_
  refine wp_iload_n hb rfl dX11_orbits_1 ?_
  refine wp_callV hb (k' := 174) ko_175 lm_11_131 rfl m0_82 (by decide) (Nat.le_of_ble_eq_true rfl) dX11_orbits_2 (sp_cI (hv.I (Nat.le_refl _) ?_))
  intro x1 m1 hv
  refine wp_if_ne hb (y := 0) (t := 11) ⟨rfl, rfl⟩ dX11_orbits_5 ⟨fun c2 => ?_, fun c2 => ?_⟩
  · have hv := hv.1 c2
    refine wp_aload_n hb rfl dX11_orbits_11 ?_
    refine wp_callV hb (k' := 173) ko_175 lm_11_134 rfl m0_82 (by decide) (Nat.le_of_ble_eq_true rfl) dX11_orbits_12 (sp_cV (hv.V (Nat.le_refl _) ?_))
    intro m2 hv
    refine wp_aload_n hb rfl dX11_orbits_15 ?_
    refine wp_getR hb ko_175 lf_11_35 (by decide) m0_82 r0_82_8 dX11_orbits_16 ?_
    refine wp_iload_n hb rfl dX11_orbits_19 ?_
    obtain ⟨q4, hv⟩ := hv
    refine wp_iaload hb rfl m0_100 q4 dX11_orbits_20 ?_
    exact wp_retI hb rfl dX11_orbits_21 hv
  · have hv := hv.2 c2
    refine wp_bipush hb (x := (-2)) rfl dX11_orbits_8 ?_
    exact wp_retI hb rfl dX11_orbits_10 hv
set_option maxRecDepth 100000 in
theorem v_X11_isIn {d sn : Nat} {v1 : Int32} {v2 : Int32} {v3 : Int32} {m : mm_Mem} {P : Int32 → mm_Mem → Prop} 
    (hv : mm_sp d sn kX11_size [.int v1] m (qI fun x1 m1 => ((¬ x1 = v2) → (P (nI 0) m1)) ∧ (¬ (¬ x1 = v2) → (vp_in v1 256 ∧ (((¬ m1.1 99 v1.toNatClampNeg = v3) → (P (nI 0) m1)) ∧ (¬ (¬ m1.1 99 v1.toNatClampNeg = v3) → (P (nI 1) m1))))))) :
    mm_sp (d + 1) sn kX11_isIn [.ref 82, .int v1, .int v2, .int v3] m (qI P) := by
  have hb := mb_176
  refine wp_in (la := [some (.ref 82), some (.int v1), some (.int v2), some (.int v3)]) ⟨⟨Nat.le_of_ble_eq_true rfl, by decide, by decide⟩, rfl⟩ ?_
  refine wp_iload_n hb rfl dX11_isIn_0 ?_
  refine wp_callS hb (k' := 154) ko_176 lm_11_128 (by decide) rfl (Nat.le_of_ble_eq_true rfl) dX11_isIn_1 (sp_cI (hv.I (Nat.le_refl _) ?_))
  intro x1 m1 hv
  refine wp_iload_n hb rfl dX11_isIn_4 ?_
  refine wp_icmp_ne hb (t := 22) ⟨rfl, rfl⟩ dX11_isIn_5 ⟨fun c2 => ?_, fun c2 => ?_⟩
  · have hv := hv.1 c2
    refine wp_iconst hb (x := nI 0) rfl dX11_isIn_22 ?_
    exact wp_retZ hb rfl (by decide) dX11_isIn_23 hv
  · have hv := hv.2 c2
    refine wp_aload_n hb rfl dX11_isIn_8 ?_
    refine wp_getR hb ko_176 lf_11_32 (by decide) m0_82 r0_82_7 dX11_isIn_9 ?_
    refine wp_iload_n hb rfl dX11_isIn_12 ?_
    obtain ⟨q3, hv⟩ := hv
    refine wp_iaload hb rfl m0_99 q3 dX11_isIn_13 ?_
    refine wp_iload_n hb rfl dX11_isIn_14 ?_
    refine wp_icmp_ne hb (t := 22) ⟨rfl, rfl⟩ dX11_isIn_15 ⟨fun c4 => ?_, fun c4 => ?_⟩
    · have hv := hv.1 c4
      refine wp_iconst hb (x := nI 0) rfl dX11_isIn_22 ?_
      exact wp_retZ hb rfl (by decide) dX11_isIn_23 hv
    · have hv := hv.2 c4
      refine wp_iconst hb (x := nI 1) rfl dX11_isIn_18 ?_
      refine wp_goto hb (t := 23) ⟨rfl, rfl⟩ dX11_isIn_19 ?_
      exact wp_retZ hb rfl (by decide) dX11_isIn_23 hv
set_option maxRecDepth 100000 in
theorem v_X11_least {d sn : Nat} {v1 : Int32} {v2 : Int32} {m : mm_Mem} {P : Int32 → mm_Mem → Prop} 
    (hv : mm_wp d sn kX11_least 2 [some (.ref 82), some (.int v1), some (.int v2), some (.int (nI 0))] [] m (qI P)) :
    mm_sp (d + 1) sn kX11_least [.ref 82, .int v1, .int v2] m (qI P) := by
  have hb := mb_177
  refine wp_in (la := [some (.ref 82), some (.int v1), some (.int v2), none]) ⟨⟨Nat.le_of_ble_eq_true rfl, by decide, by decide⟩, rfl⟩ ?_
  refine wp_iconst hb (x := nI 0) rfl dX11_least_0 ?_
  refine wp_istore_n hb rfl dX11_least_1 ?_
  exact wp_for (mm_ls_k (mm_ls_k (mm_ls_k (mm_ls_k mm_ls_nil)))) hv
set_option maxRecDepth 100000 in
theorem v_X11_least_2 {d sn : Nat} {v1 : Int32} {v2 : Int32} {v3 : Int32} {m : mm_Mem} {P : Int32 → mm_Mem → Prop} 
    (hv : mm_sp d sn kX11_isIn [.ref 82, .int v3, .int v1, .int v2] m (qI fun x1 m1 => ((¬ x1 = 0) → (P v3 m1)) ∧ (¬ (¬ x1 = 0) → (mm_wp d sn kX11_least 2 [some (.ref 82), some (.int v1), some (.int v2), some (.int (v3 + nI 1))] [] m1 (qI P))))) :
    mm_wp d sn kX11_least 2 [some (.ref 82), some (.int v1), some (.int v2), some (.int v3)] [] m (qI P) := by
  have hb := mb_177
  refine wp_aload_n hb rfl dX11_least_2 ?_
  refine wp_iload_n hb rfl dX11_least_3 ?_
  refine wp_iload_n hb rfl dX11_least_4 ?_
  refine wp_iload_n hb rfl dX11_least_5 ?_
  refine wp_callV hb (k' := 176) ko_177 lm_11_137 rfl m0_82 (by decide) (Nat.le_of_ble_eq_true rfl) dX11_least_6 (sp_cI (hv.I (Nat.le_refl _) ?_))
  intro x1 m1 hv
  refine wp_if_ne hb (y := 0) (t := 18) ⟨rfl, rfl⟩ dX11_least_9 ⟨fun c2 => ?_, fun c2 => ?_⟩
  · have hv := hv.1 c2
    refine wp_iload_n hb rfl dX11_least_18 ?_
    exact wp_retI hb rfl dX11_least_19 hv
  · have hv := hv.2 c2
    refine wp_iinc hb rfl (y := v3 + nI 1) rfl rfl dX11_least_12 ?_
    refine wp_goto hb (t := 2) ⟨rfl, rfl⟩ dX11_least_15 ?_
    exact wp_for (mm_ls_k (mm_ls_k (mm_ls_k (mm_ls_k mm_ls_nil)))) hv
set_option maxRecDepth 100000 in
theorem v_X11_orbit {d sn : Nat} {v1 : Int32} {v2 : Int32} {v3 : Int32} {m : mm_Mem} {P : Int32 → mm_Mem → Prop} 
    (hv : mm_sp d sn kX11_isSize [.ref 82, .int v1] m (qI fun x1 m1 => ((¬ x1 = 0) → (mm_sp d sn kX11_finds [.ref 82] m1 (qV fun m2 => vp_in v1 9 ∧ (mm_sp d sn kX11_in [.long v2.toInt64, .long (lN 0), .long (((m2.1 100 v1.toNatClampNeg) - (nI 1)).toInt64)] m2 (qI fun x5 m3 => ((x5 = 0) → (P (-1) m3)) ∧ (¬ (x5 = 0) → (mm_sp d sn kX11_in [.long v3.toInt64, .long (lN 0), .long (lN 2)] m3 (qI fun x7 m4 => ((¬ x7 = 0) → (mm_wp d sn kX11_orbit 56 [some (.ref 82), some (.int v1), some (.int v2), some (.int v3), some (.int (nI 0)), some (.int (nI 0)), some (.int (nI 0))] [] m4 (qI P))) ∧ (¬ (¬ x7 = 0) → (P (-1) m4)))))))))) ∧ (¬ (¬ x1 = 0) → (P (-2) m1)))) :
    mm_sp (d + 1) sn kX11_orbit [.ref 82, .int v1, .int v2, .int v3] m (qI P) := by
  have hb := mb_178
  refine wp_in (la := [some (.ref 82), some (.int v1), some (.int v2), some (.int v3), none, none, none]) ⟨⟨Nat.le_of_ble_eq_true rfl, by decide, by decide⟩, rfl⟩ ?_
  refine wp_aload_n hb rfl dX11_orbit_0 ?_
  refine wp_iload_n hb rfl dX11_orbit_1 ?_
  refine wp_callV hb (k' := 174) ko_178 lm_11_131 rfl m0_82 (by decide) (Nat.le_of_ble_eq_true rfl) dX11_orbit_2 (sp_cI (hv.I (Nat.le_refl _) ?_))
  intro x1 m1 hv
  refine wp_if_ne hb (y := 0) (t := 11) ⟨rfl, rfl⟩ dX11_orbit_5 ⟨fun c2 => ?_, fun c2 => ?_⟩
  · have hv := hv.1 c2
    refine wp_aload_n hb rfl dX11_orbit_11 ?_
    refine wp_callV hb (k' := 173) ko_178 lm_11_134 rfl m0_82 (by decide) (Nat.le_of_ble_eq_true rfl) dX11_orbit_12 (sp_cV (hv.V (Nat.le_refl _) ?_))
    intro m2 hv
    refine wp_iload_n hb rfl dX11_orbit_15 ?_
    refine wp_i2l hb dX11_orbit_16 ?_
    refine wp_lconst hb (x := lN 0) rfl dX11_orbit_17 ?_
    refine wp_aload_n hb rfl dX11_orbit_18 ?_
    refine wp_getR hb ko_178 lf_11_35 (by decide) m0_82 r0_82_8 dX11_orbit_19 ?_
    refine wp_iload_n hb rfl dX11_orbit_22 ?_
    obtain ⟨q4, hv⟩ := hv
    refine wp_iaload hb rfl m0_100 q4 dX11_orbit_23 ?_
    refine wp_iconst hb (x := nI 1) rfl dX11_orbit_24 ?_
    refine wp_isub hb dX11_orbit_25 ?_
    refine wp_i2l hb dX11_orbit_26 ?_
    refine wp_callS hb (k' := 152) ko_178 lm_11_85 (by decide) rfl (Nat.le_of_ble_eq_true rfl) dX11_orbit_27 (sp_cI (hv.I (Nat.le_refl _) ?_))
    intro x5 m3 hv
    refine wp_if_eq hb (y := 0) (t := 45) ⟨rfl, rfl⟩ dX11_orbit_30 ⟨fun c6 => ?_, fun c6 => ?_⟩
    · have hv := hv.1 c6
      refine wp_iconst hb (x := (-1)) rfl dX11_orbit_45 ?_
      exact wp_retI hb rfl dX11_orbit_46 hv
    · have hv := hv.2 c6
      refine wp_iload_n hb rfl dX11_orbit_33 ?_
      refine wp_i2l hb dX11_orbit_34 ?_
      refine wp_lconst hb (x := lN 0) rfl dX11_orbit_35 ?_
      refine wp_ldc2 hb (ko_178) (kl_11_141) dX11_orbit_36 ?_
      refine wp_callS hb (k' := 152) ko_178 lm_11_85 (by decide) rfl (Nat.le_of_ble_eq_true rfl) dX11_orbit_39 (sp_cI (hv.I (Nat.le_refl _) ?_))
      intro x7 m4 hv
      refine wp_if_ne hb (y := 0) (t := 47) ⟨rfl, rfl⟩ dX11_orbit_42 ⟨fun c8 => ?_, fun c8 => ?_⟩
      · have hv := hv.1 c8
        refine wp_iconst hb (x := nI 0) rfl dX11_orbit_47 ?_
        refine wp_istore hb rfl dX11_orbit_48 ?_
        refine wp_iconst hb (x := nI 0) rfl dX11_orbit_50 ?_
        refine wp_istore hb rfl dX11_orbit_51 ?_
        refine wp_iconst hb (x := nI 0) rfl dX11_orbit_53 ?_
        refine wp_istore hb rfl dX11_orbit_54 ?_
        exact wp_for (mm_ls_k (mm_ls_k (mm_ls_k (mm_ls_k (mm_ls_k (mm_ls_k (mm_ls_k mm_ls_nil))))))) hv
      · have hv := hv.2 c8
        refine wp_iconst hb (x := (-1)) rfl dX11_orbit_45 ?_
        exact wp_retI hb rfl dX11_orbit_46 hv
  · have hv := hv.2 c2
    refine wp_bipush hb (x := (-2)) rfl dX11_orbit_8 ?_
    exact wp_retI hb rfl dX11_orbit_10 hv
set_option maxRecDepth 100000 in
theorem v_X11_orbit_56 {d sn : Nat} {v1 : Int32} {v2 : Int32} {v3 : Int32} {v4 : Int32} {v5 : Int32} {v6 : Int32} {m : mm_Mem} {P : Int32 → mm_Mem → Prop} 
    (hv : mm_sp d sn kX11_whole [.ref 82] m (qI fun x1 m1 => ((x1 < v6) → (((¬ v3 = 0) → (((¬ v3 = nI 1) → (P v5 m1)) ∧ (¬ (¬ v3 = nI 1) → (P v4 m1)))) ∧ (¬ (¬ v3 = 0) → (mm_sp d sn kX11_least [.ref 82, .int v1, .int v2] m1 (qI fun x5 m2 => P x5 m2))))) ∧ (¬ (x1 < v6) → (mm_sp d sn kX11_isIn [.ref 82, .int v6, .int v1, .int v2] m1 (qI fun x6 m3 => ((x6 = 0) → (mm_wp d sn kX11_orbit 56 [some (.ref 82), some (.int v1), some (.int v2), some (.int v3), some (.int v4), some (.int v5), some (.int (v6 + nI 1))] [] m3 (qI P))) ∧ (¬ (x6 = 0) → (mm_wp d sn kX11_orbit 56 [some (.ref 82), some (.int v1), some (.int v2), some (.int v3), some (.int (v4 + nI 1)), some (.int v6), some (.int (v6 + nI 1))] [] m3 (qI P)))))))) :
    mm_wp d sn kX11_orbit 56 [some (.ref 82), some (.int v1), some (.int v2), some (.int v3), some (.int v4), some (.int v5), some (.int v6)] [] m (qI P) := by
  have hb := mb_178
  refine wp_iload hb rfl dX11_orbit_56 ?_
  refine wp_aload_n hb rfl dX11_orbit_58 ?_
  refine wp_callV hb (k' := 155) ko_178 lm_11_81 rfl m0_82 (by decide) (Nat.le_of_ble_eq_true rfl) dX11_orbit_59 (sp_cI (hv.I (Nat.le_refl _) ?_))
  intro x1 m1 hv
  refine wp_icmp_gt hb (t := 89) ⟨rfl, rfl⟩ dX11_orbit_62 ⟨fun c2 => ?_, fun c2 => ?_⟩
  · have hv := hv.1 c2
    refine wp_iload_n hb rfl dX11_orbit_89 ?_
    refine wp_if_ne hb (y := 0) (t := 102) ⟨rfl, rfl⟩ dX11_orbit_90 ⟨fun c3 => ?_, fun c3 => ?_⟩
    · have hv := hv.1 c3
      refine wp_iload_n hb rfl dX11_orbit_102 ?_
      refine wp_iconst hb (x := nI 1) rfl dX11_orbit_103 ?_
      refine wp_icmp_ne hb (t := 112) ⟨rfl, rfl⟩ dX11_orbit_104 ⟨fun c4 => ?_, fun c4 => ?_⟩
      · have hv := hv.1 c4
        refine wp_iload hb rfl dX11_orbit_112 ?_
        exact wp_retI hb rfl dX11_orbit_114 hv
      · have hv := hv.2 c4
        refine wp_iload hb rfl dX11_orbit_107 ?_
        refine wp_goto hb (t := 114) ⟨rfl, rfl⟩ dX11_orbit_109 ?_
        exact wp_retI hb rfl dX11_orbit_114 hv
    · have hv := hv.2 c3
      refine wp_aload_n hb rfl dX11_orbit_93 ?_
      refine wp_iload_n hb rfl dX11_orbit_94 ?_
      refine wp_iload_n hb rfl dX11_orbit_95 ?_
      refine wp_callV hb (k' := 177) ko_178 lm_11_143 rfl m0_82 (by decide) (Nat.le_of_ble_eq_true rfl) dX11_orbit_96 (sp_cI (hv.I (Nat.le_refl _) ?_))
      intro x5 m2 hv
      refine wp_goto hb (t := 114) ⟨rfl, rfl⟩ dX11_orbit_99 ?_
      exact wp_retI hb rfl dX11_orbit_114 hv
  · have hv := hv.2 c2
    refine wp_aload_n hb rfl dX11_orbit_65 ?_
    refine wp_iload hb rfl dX11_orbit_66 ?_
    refine wp_iload_n hb rfl dX11_orbit_68 ?_
    refine wp_iload_n hb rfl dX11_orbit_69 ?_
    refine wp_callV hb (k' := 176) ko_178 lm_11_137 rfl m0_82 (by decide) (Nat.le_of_ble_eq_true rfl) dX11_orbit_70 (sp_cI (hv.I (Nat.le_refl _) ?_))
    intro x6 m3 hv
    refine wp_if_eq hb (y := 0) (t := 83) ⟨rfl, rfl⟩ dX11_orbit_73 ⟨fun c7 => ?_, fun c7 => ?_⟩
    · have hv := hv.1 c7
      refine wp_iinc hb rfl (y := v6 + nI 1) rfl rfl dX11_orbit_83 ?_
      refine wp_goto hb (t := 56) ⟨rfl, rfl⟩ dX11_orbit_86 ?_
      exact wp_for (mm_ls_k (mm_ls_k (mm_ls_k (mm_ls_k (mm_ls_k (mm_ls_k (mm_ls_k mm_ls_nil))))))) hv
    · have hv := hv.2 c7
      refine wp_iinc hb rfl (y := v4 + nI 1) rfl rfl dX11_orbit_76 ?_
      refine wp_iload hb rfl dX11_orbit_79 ?_
      refine wp_istore hb rfl dX11_orbit_81 ?_
      refine wp_iinc hb rfl (y := v6 + nI 1) rfl rfl dX11_orbit_83 ?_
      refine wp_goto hb (t := 56) ⟨rfl, rfl⟩ dX11_orbit_86 ?_
      exact wp_for (mm_ls_k (mm_ls_k (mm_ls_k (mm_ls_k (mm_ls_k (mm_ls_k (mm_ls_k mm_ls_nil))))))) hv
