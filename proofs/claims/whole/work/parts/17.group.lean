set_option maxRecDepth 100000 in
theorem v_X2_orderOf {d sn : Nat} {m : mm_Mem} {P : Int32 → mm_Mem → Prop} 
    (hv : mm_sp d sn kJ7_fill_53178 [.ref 65, .int (-1)] m (qV fun m1 => ∀ m2 : mm_Mem, m2 = (mm_u2 m1.1 63 2 (nI 0), m1.2) → (mm_sp d sn kX2_stillness [] m2 (qI fun x2 m3 => mm_sp d sn kX2_enter [.ref 63, .int x2] m3 (qV fun m4 => mm_wp d sn kX2_orderOf 22 [some (.ref 63), some (.ref 2), some (.int (nI 0)), none, none] [] m4 (qI P)))))) :
    mm_sp (d + 1) sn kX2_orderOf [.ref 63, .ref 2] m (qI P) := by
  have hb := mb_30
  refine wp_in (la := [some (.ref 63), some (.ref 2), none, none, none]) ⟨⟨Nat.le_of_ble_eq_true rfl, by decide, by decide⟩, rfl⟩ ?_
  refine wp_aload_n hb rfl dX2_orderOf_0 ?_
  refine wp_getR hb ko_30 lf_2_15 (by decide) m0_63 r0_63_1 dX2_orderOf_1 ?_
  refine wp_iconst hb (x := (-1)) rfl dX2_orderOf_4 ?_
  refine wp_callS hb (k' := 231) ko_30 lm_2_18 (by decide) rfl (Nat.le_of_ble_eq_true rfl) dX2_orderOf_5 (sp_cV (hv.V (Nat.le_refl _) ?_))
  intro m1 hv
  refine wp_aload_n hb rfl dX2_orderOf_8 ?_
  refine wp_iconst hb (x := nI 0) rfl dX2_orderOf_9 ?_
  refine wp_putI hb ko_30 lf_2_24 (by decide) m0_63 dX2_orderOf_10 ?_
  have hv := hv _ rfl
  generalize (mm_u2 m1.1 63 2 (nI 0), m1.2) = m2 at hv ⊢
  refine wp_aload_n hb rfl dX2_orderOf_13 ?_
  refine wp_callS hb (k' := 31) ko_30 lm_2_28 (by decide) rfl (Nat.le_of_ble_eq_true rfl) dX2_orderOf_14 (sp_cI (hv.I (Nat.le_refl _) ?_))
  intro x2 m3 hv
  refine wp_callV hb (k' := 33) ko_30 lm_2_32 rfl m0_63 (by decide) (Nat.le_of_ble_eq_true rfl) dX2_orderOf_17 (sp_cV (hv.V (Nat.le_refl _) ?_))
  intro m4 hv
  refine wp_iconst hb (x := nI 0) rfl dX2_orderOf_20 ?_
  refine wp_istore_n hb rfl dX2_orderOf_21 ?_
  exact wp_for (mm_ls_k (mm_ls_k (mm_ls_k (mm_ls_k (mm_ls_k mm_ls_nil))))) hv
set_option maxRecDepth 100000 in
theorem v_X2_orderOf_22 {d sn : Nat} {v2 : Int32} {m : mm_Mem} {P : Int32 → mm_Mem → Prop} 
    (hv : ((m.1 63 2 ≤ v2) → (P (m.1 63 2) m)) ∧ (¬ (m.1 63 2 ≤ v2) → (((nI 500 ≤ v2) → (P (m.1 63 2) m)) ∧ (¬ (nI 500 ≤ v2) → (mm_wp d sn kX2_orderOf 41 [some (.ref 63), some (.ref 2), some (.int v2), some (.int (nI 0)), none] [] m (qI P)))))) :
    mm_wp d sn kX2_orderOf 22 [some (.ref 63), some (.ref 2), some (.int v2), none, none] [] m (qI P) := by
  have hb := mb_30
  refine wp_iload_n hb rfl dX2_orderOf_22 ?_
  refine wp_aload_n hb rfl dX2_orderOf_23 ?_
  refine wp_getI hb ko_30 lf_2_24 (by decide) m0_63 dX2_orderOf_24 ?_
  refine wp_icmp_ge hb (t := 88) ⟨rfl, rfl⟩ dX2_orderOf_27 ⟨fun c1 => ?_, fun c1 => ?_⟩
  · have hv := hv.1 c1
    refine wp_aload_n hb rfl dX2_orderOf_88 ?_
    refine wp_getI hb ko_30 lf_2_24 (by decide) m0_63 dX2_orderOf_89 ?_
    exact wp_retI hb rfl dX2_orderOf_92 hv
  · have hv := hv.2 c1
    refine wp_iload_n hb rfl dX2_orderOf_30 ?_
    refine wp_aload_n hb rfl dX2_orderOf_31 ?_
    refine wp_getR hb ko_30 lf_2_9 (by decide) m0_63 r0_63_0 dX2_orderOf_32 ?_
    refine wp_alen hb (x := nI 500) m0_64 (by decide) rfl dX2_orderOf_35 ?_
    refine wp_icmp_ge hb (t := 88) ⟨rfl, rfl⟩ dX2_orderOf_36 ⟨fun c2 => ?_, fun c2 => ?_⟩
    · have hv := hv.1 c2
      refine wp_aload_n hb rfl dX2_orderOf_88 ?_
      refine wp_getI hb ko_30 lf_2_24 (by decide) m0_63 dX2_orderOf_89 ?_
      exact wp_retI hb rfl dX2_orderOf_92 hv
    · have hv := hv.2 c2
      refine wp_iconst hb (x := nI 0) rfl dX2_orderOf_39 ?_
      refine wp_istore_n hb rfl dX2_orderOf_40 ?_
      exact wp_for (mm_ls_k (mm_ls_k (mm_ls_k (mm_ls_k (mm_ls_k mm_ls_nil))))) hv
set_option maxRecDepth 100000 in
theorem v_X2_orderOf_41 {d sn : Nat} {v2 : Int32} {v3 : Int32} {m : mm_Mem} {P : Int32 → mm_Mem → Prop} 
    (hv : ((m.1 2 1 ≤ v3) → (mm_wp d sn kX2_orderOf 22 [some (.ref 63), some (.ref 2), some (.int (v2 + nI 1)), none, none] [] m (qI P))) ∧ (¬ (m.1 2 1 ≤ v3) → (mm_sp d sn kX6_wayAt [.ref 2, .int v3] m (qR fun x2 m1 => (x2 = none → (mm_wp d sn kX2_orderOf 41 [some (.ref 63), some (.ref 2), some (.int v2), some (.int (v3 + nI 1)), none] [] m1 (qI P))) ∧ (∀ a3, x2 = some a3 → shY a3 ∧ (vp_in v2 500 ∧ (mm_sp d sn kX2_followedBy [.int (m1.1 64 v2.toNatClampNeg), .ref a3] m1 (qI fun x5 m2 => mm_sp d sn kX2_enter [.ref 63, .int x5] m2 (qV fun m3 => mm_wp d sn kX2_orderOf 41 [some (.ref 63), some (.ref 2), some (.int v2), some (.int (v3 + nI 1)), none] [] m3 (qI P)))))))))) :
    mm_wp d sn kX2_orderOf 41 [some (.ref 63), some (.ref 2), some (.int v2), some (.int v3), none] [] m (qI P) := by
  have hb := mb_30
  refine wp_iload_n hb rfl dX2_orderOf_41 ?_
  refine wp_aload_n hb rfl dX2_orderOf_42 ?_
  refine wp_getI hb ko_30 lf_2_36 (by decide) m0_2 dX2_orderOf_43 ?_
  refine wp_icmp_ge hb (t := 82) ⟨rfl, rfl⟩ dX2_orderOf_46 ⟨fun c1 => ?_, fun c1 => ?_⟩
  · have hv := hv.1 c1
    refine wp_iinc hb rfl (y := v2 + nI 1) rfl rfl dX2_orderOf_82 ?_
    refine wp_goto hb (t := 22) ⟨rfl, rfl⟩ dX2_orderOf_85 ?_
    exact wp_for (mm_ls_k (mm_ls_k (mm_ls_k (mm_ls_f (mm_ls_k mm_ls_nil))))) hv
  · have hv := hv.2 c1
    refine wp_aload_n hb rfl dX2_orderOf_49 ?_
    refine wp_iload_n hb rfl dX2_orderOf_50 ?_
    refine wp_callV hb (k' := 66) ko_30 lm_2_41 rfl m0_2 (by decide) (Nat.le_of_ble_eq_true rfl) dX2_orderOf_51 (sp_cR (hv.R (Nat.le_refl _) ?_))
    intro x2 m1 hv
    refine ⟨fun e9 => ?_, fun a9 e9 => ?_⟩
    · have hv := hv.1 e9
      refine wp_astoreN hb rfl dX2_orderOf_54 ?_
      refine wp_aloadN hb rfl dX2_orderOf_56 ?_
      refine wp_ifnullN hb (t := 76) ⟨rfl, rfl⟩ dX2_orderOf_58 ?_
      refine wp_iinc hb rfl (y := v3 + nI 1) rfl rfl dX2_orderOf_76 ?_
      refine wp_goto hb (t := 41) ⟨rfl, rfl⟩ dX2_orderOf_79 ?_
      exact wp_for (mm_ls_k (mm_ls_k (mm_ls_k (mm_ls_k (mm_ls_f mm_ls_nil))))) hv
    · obtain ⟨ha3, hv⟩ := hv.2 a9 e9
      revert hv ha3
      generalize a9 = a3
      intro ha3 hv
      refine wp_astore hb rfl dX2_orderOf_54 ?_
      refine wp_aload hb rfl dX2_orderOf_56 ?_
      refine wp_ifnull hb dX2_orderOf_58 ?_
      refine wp_aload_n hb rfl dX2_orderOf_61 ?_
      refine wp_aload_n hb rfl dX2_orderOf_62 ?_
      refine wp_getR hb ko_30 lf_2_9 (by decide) m0_63 r0_63_0 dX2_orderOf_63 ?_
      refine wp_iload_n hb rfl dX2_orderOf_66 ?_
      obtain ⟨q4, hv⟩ := hv
      refine wp_iaload hb rfl m0_64 q4 dX2_orderOf_67 ?_
      refine wp_aload hb rfl dX2_orderOf_68 ?_
      refine wp_callS hb (k' := 32) ko_30 lm_2_45 (by decide) rfl (Nat.le_of_ble_eq_true rfl) dX2_orderOf_70 (sp_cI (hv.I (Nat.le_refl _) ?_))
      intro x5 m2 hv
      refine wp_callV hb (k' := 33) ko_30 lm_2_32 rfl m0_63 (by decide) (Nat.le_of_ble_eq_true rfl) dX2_orderOf_73 (sp_cV (hv.V (Nat.le_refl _) ?_))
      intro m3 hv
      refine wp_iinc hb rfl (y := v3 + nI 1) rfl rfl dX2_orderOf_76 ?_
      refine wp_goto hb (t := 41) ⟨rfl, rfl⟩ dX2_orderOf_79 ?_
      exact wp_for (mm_ls_k (mm_ls_k (mm_ls_k (mm_ls_k (mm_ls_f mm_ls_nil))))) hv
set_option maxRecDepth 100000 in
theorem v_X2_stillness {d sn : Nat} {m : mm_Mem} {P : Int32 → mm_Mem → Prop} 
    (hv : mm_wp d sn kX2_stillness 4 [some (.int (nI 0)), some (.int (nI 0))] [] m (qI P)) :
    mm_sp (d + 1) sn kX2_stillness [] m (qI P) := by
  have hb := mb_31
  refine wp_in (la := [none, none]) ⟨⟨Nat.le_of_ble_eq_true rfl, by decide, by decide⟩, rfl⟩ ?_
  refine wp_iconst hb (x := nI 0) rfl dX2_stillness_0 ?_
  refine wp_istore_n hb rfl dX2_stillness_1 ?_
  refine wp_iconst hb (x := nI 0) rfl dX2_stillness_2 ?_
  refine wp_istore_n hb rfl dX2_stillness_3 ?_
  exact wp_for (mm_ls_k (mm_ls_k mm_ls_nil)) hv
set_option maxRecDepth 100000 in
theorem v_X2_stillness_4 {d sn : Nat} {v0 : Int32} {v1 : Int32} {m : mm_Mem} {P : Int32 → mm_Mem → Prop} 
    (hv : ((nI 8 ≤ v1) → (P v0 m)) ∧ (¬ (nI 8 ≤ v1) → (mm_wp d sn kX2_stillness 4 [some (.int (v0 ||| (mm_shl v1 ((nI 3) * v1)))), some (.int (v1 + nI 1))] [] m (qI P)))) :
    mm_wp d sn kX2_stillness 4 [some (.int v0), some (.int v1)] [] m (qI P) := by
  have hb := mb_31
  refine wp_iload_n hb rfl dX2_stillness_4 ?_
  refine wp_bipush hb (x := nI 8) rfl dX2_stillness_5 ?_
  refine wp_icmp_ge hb (t := 24) ⟨rfl, rfl⟩ dX2_stillness_7 ⟨fun c1 => ?_, fun c1 => ?_⟩
  · have hv := hv.1 c1
    refine wp_iload_n hb rfl dX2_stillness_24 ?_
    exact wp_retI hb rfl dX2_stillness_25 hv
  · have hv := hv.2 c1
    refine wp_iload_n hb rfl dX2_stillness_10 ?_
    refine wp_iload_n hb rfl dX2_stillness_11 ?_
    refine wp_iconst hb (x := nI 3) rfl dX2_stillness_12 ?_
    refine wp_iload_n hb rfl dX2_stillness_13 ?_
    refine wp_imul hb dX2_stillness_14 ?_
    refine wp_ishl hb dX2_stillness_15 ?_
    refine wp_ior hb dX2_stillness_16 ?_
    refine wp_istore_n hb rfl dX2_stillness_17 ?_
    refine wp_iinc hb rfl (y := v1 + nI 1) rfl rfl dX2_stillness_18 ?_
    refine wp_goto hb (t := 4) ⟨rfl, rfl⟩ dX2_stillness_21 ?_
    exact wp_for (mm_ls_k (mm_ls_k mm_ls_nil)) hv
set_option maxRecDepth 100000 in
theorem v_X2_followedBy {d sn : Nat} {v0 : Int32} {a1 : Nat} {m : mm_Mem} {P : Int32 → mm_Mem → Prop} (ha1 : shY a1) 
    (hv : mm_wp d sn kX2_followedBy 4 [some (.int v0), some (.ref a1), some (.int (nI 0)), some (.int (nI 0))] [] m (qI P)) :
    mm_sp (d + 1) sn kX2_followedBy [.int v0, .ref a1] m (qI P) := by
  have hb := mb_32
  refine wp_in (la := [some (.int v0), some (.ref a1), none, none]) ⟨⟨Nat.le_of_ble_eq_true rfl, by decide, by decide⟩, rfl⟩ ?_
  refine wp_iconst hb (x := nI 0) rfl dX2_followedBy_0 ?_
  refine wp_istore_n hb rfl dX2_followedBy_1 ?_
  refine wp_iconst hb (x := nI 0) rfl dX2_followedBy_2 ?_
  refine wp_istore_n hb rfl dX2_followedBy_3 ?_
  exact wp_for (mm_ls_k (mm_ls_k (mm_ls_k (mm_ls_k mm_ls_nil)))) hv
set_option maxRecDepth 100000 in
theorem v_X2_followedBy_4 {d sn : Nat} {v0 : Int32} {a1 : Nat} {v2 : Int32} {v3 : Int32} {m : mm_Mem} {P : Int32 → mm_Mem → Prop} (ha1 : shY a1) 
    (hv : ((nI 8 ≤ v3) → (P v2 m)) ∧ (¬ (nI 8 ≤ v3) → (mm_sp d sn kX9_pointFor [.ref a1, .int ((mm_shr v0 ((nI 3) * v3)) &&& (nI 7))] m (qI fun x2 m1 => mm_wp d sn kX2_followedBy 4 [some (.int v0), some (.ref a1), some (.int (v2 ||| (mm_shl x2 ((nI 3) * v3)))), some (.int (v3 + nI 1))] [] m1 (qI P))))) :
    mm_wp d sn kX2_followedBy 4 [some (.int v0), some (.ref a1), some (.int v2), some (.int v3)] [] m (qI P) := by
  have hb := mb_32
  refine wp_iload_n hb rfl dX2_followedBy_4 ?_
  refine wp_bipush hb (x := nI 8) rfl dX2_followedBy_5 ?_
  refine wp_icmp_ge hb (t := 35) ⟨rfl, rfl⟩ dX2_followedBy_7 ⟨fun c1 => ?_, fun c1 => ?_⟩
  · have hv := hv.1 c1
    refine wp_iload_n hb rfl dX2_followedBy_35 ?_
    exact wp_retI hb rfl dX2_followedBy_36 hv
  · have hv := hv.2 c1
    refine wp_iload_n hb rfl dX2_followedBy_10 ?_
    refine wp_aload_n hb rfl dX2_followedBy_11 ?_
    refine wp_iload_n hb rfl dX2_followedBy_12 ?_
    refine wp_iconst hb (x := nI 3) rfl dX2_followedBy_13 ?_
    refine wp_iload_n hb rfl dX2_followedBy_14 ?_
    refine wp_imul hb dX2_followedBy_15 ?_
    refine wp_ishr hb dX2_followedBy_16 ?_
    refine wp_bipush hb (x := nI 7) rfl dX2_followedBy_17 ?_
    refine wp_iand hb dX2_followedBy_19 ?_
    refine wp_callV hb (k' := 94) ko_32 lm_2_49 rfl (ha1.2.1 _) (by decide) (Nat.le_of_ble_eq_true rfl) dX2_followedBy_20 (sp_cI (hv.I (Nat.le_refl _) ?_))
    intro x2 m1 hv
    refine wp_iconst hb (x := nI 3) rfl dX2_followedBy_23 ?_
    refine wp_iload_n hb rfl dX2_followedBy_24 ?_
    refine wp_imul hb dX2_followedBy_25 ?_
    refine wp_ishl hb dX2_followedBy_26 ?_
    refine wp_ior hb dX2_followedBy_27 ?_
    refine wp_istore_n hb rfl dX2_followedBy_28 ?_
    refine wp_iinc hb rfl (y := v3 + nI 1) rfl rfl dX2_followedBy_29 ?_
    refine wp_goto hb (t := 4) ⟨rfl, rfl⟩ dX2_followedBy_32 ?_
    exact wp_for (mm_ls_k (mm_ls_k (mm_ls_k (mm_ls_k mm_ls_nil)))) hv
set_option maxRecDepth 100000 in
theorem v_X2_enter {d sn : Nat} {v1 : Int32} {m : mm_Mem} {P : mm_Mem → Prop} 
    (hv : mm_wp d sn kX2_enter 10 [some (.ref 63), some (.int v1), some (.int (mm_ushr (v1 * (-1640531535)) (nI 22))), some (.int (nI 0))] [] m (qV P)) :
    mm_sp (d + 1) sn kX2_enter [.ref 63, .int v1] m (qV P) := by
  have hb := mb_33
  refine wp_in (la := [some (.ref 63), some (.int v1), none, none]) ⟨⟨Nat.le_of_ble_eq_true rfl, by decide, by decide⟩, rfl⟩ ?_
  refine wp_iload_n hb rfl dX2_enter_0 ?_
  refine wp_ldc hb (ko_33) (ki_2_55) dX2_enter_1 ?_
  refine wp_imul hb dX2_enter_3 ?_
  refine wp_bipush hb (x := nI 22) rfl dX2_enter_4 ?_
  refine wp_iushr hb dX2_enter_6 ?_
  refine wp_istore_n hb rfl dX2_enter_7 ?_
  refine wp_iconst hb (x := nI 0) rfl dX2_enter_8 ?_
  refine wp_istore_n hb rfl dX2_enter_9 ?_
  exact wp_for (mm_ls_k (mm_ls_k (mm_ls_k (mm_ls_k mm_ls_nil)))) hv
set_option maxRecDepth 100000 in
theorem v_X2_enter_10 {d sn : Nat} {v1 : Int32} {v2 : Int32} {v3 : Int32} {m : mm_Mem} {P : mm_Mem → Prop} 
    (hv : ((nI 1024 ≤ v3) → (P m)) ∧ (¬ (nI 1024 ≤ v3) → (((v2 < 0) → (((¬ m.1 65 0 = v1) → (((¬ m.1 65 0 = (-1)) → (mm_wp d sn kX2_enter 10 [some (.ref 63), some (.int v1), some (.int ((nI 0) + nI 1)), some (.int (v3 + nI 1))] [] m (qV P))) ∧ (¬ (¬ m.1 65 0 = (-1)) → (mm_sp d sn kX2_append [.ref 63, .int (nI 0), .int v1] m (qV fun m1 => P m1))))) ∧ (¬ (¬ m.1 65 0 = v1) → (P m)))) ∧ (¬ (v2 < 0) → (((v2 < nI 1024) → (vp_in v2 1024 ∧ (((¬ m.1 65 v2.toNatClampNeg = v1) → (vp_in v2 1024 ∧ (((¬ m.1 65 v2.toNatClampNeg = (-1)) → (mm_wp d sn kX2_enter 10 [some (.ref 63), some (.int v1), some (.int (v2 + nI 1)), some (.int (v3 + nI 1))] [] m (qV P))) ∧ (¬ (¬ m.1 65 v2.toNatClampNeg = (-1)) → (mm_sp d sn kX2_append [.ref 63, .int v2, .int v1] m (qV fun m2 => P m2)))))) ∧ (¬ (¬ m.1 65 v2.toNatClampNeg = v1) → (P m))))) ∧ (¬ (v2 < nI 1024) → (((¬ m.1 65 0 = v1) → (((¬ m.1 65 0 = (-1)) → (mm_wp d sn kX2_enter 10 [some (.ref 63), some (.int v1), some (.int ((nI 0) + nI 1)), some (.int (v3 + nI 1))] [] m (qV P))) ∧ (¬ (¬ m.1 65 0 = (-1)) → (mm_sp d sn kX2_append [.ref 63, .int (nI 0), .int v1] m (qV fun m3 => P m3))))) ∧ (¬ (¬ m.1 65 0 = v1) → (P m))))))))) :
    mm_wp d sn kX2_enter 10 [some (.ref 63), some (.int v1), some (.int v2), some (.int v3)] [] m (qV P) := by
  have hb := mb_33
  refine wp_iload_n hb rfl dX2_enter_10 ?_
  refine wp_aload_n hb rfl dX2_enter_11 ?_
  refine wp_getR hb ko_33 lf_2_15 (by decide) m0_63 r0_63_1 dX2_enter_12 ?_
  refine wp_alen hb (x := nI 1024) m0_65 (by decide) rfl dX2_enter_15 ?_
  refine wp_icmp_ge hb (t := 71) ⟨rfl, rfl⟩ dX2_enter_16 ⟨fun c1 => ?_, fun c1 => ?_⟩
  · have hv := hv.1 c1
    exact wp_retV hb rfl dX2_enter_71 hv
  · have hv := hv.2 c1
    refine wp_iload_n hb rfl dX2_enter_19 ?_
    refine wp_if_lt hb (y := 0) (t := 32) ⟨rfl, rfl⟩ dX2_enter_20 ⟨fun c2 => ?_, fun c2 => ?_⟩
    · have hv := hv.1 c2
      refine wp_iconst hb (x := nI 0) rfl dX2_enter_32 ?_
      refine wp_istore_n hb rfl dX2_enter_33 ?_
      refine wp_aload_n hb rfl dX2_enter_34 ?_
      refine wp_getR hb ko_33 lf_2_15 (by decide) m0_63 r0_63_1 dX2_enter_35 ?_
      refine wp_iload_n hb rfl dX2_enter_38 ?_
      refine wp_iaload hb (q := 0) (by decide) m0_65 (vp_in_nI (by decide) (by decide)) dX2_enter_39 ?_
      refine wp_iload_n hb rfl dX2_enter_40 ?_
      refine wp_icmp_ne hb (t := 45) ⟨rfl, rfl⟩ dX2_enter_41 ⟨fun c3 => ?_, fun c3 => ?_⟩
      · have hv := hv.1 c3
        refine wp_aload_n hb rfl dX2_enter_45 ?_
        refine wp_getR hb ko_33 lf_2_15 (by decide) m0_63 r0_63_1 dX2_enter_46 ?_
        refine wp_iload_n hb rfl dX2_enter_49 ?_
        refine wp_iaload hb (q := 0) (by decide) m0_65 (vp_in_nI (by decide) (by decide)) dX2_enter_50 ?_
        refine wp_iconst hb (x := (-1)) rfl dX2_enter_51 ?_
        refine wp_icmp_ne hb (t := 62) ⟨rfl, rfl⟩ dX2_enter_52 ⟨fun c4 => ?_, fun c4 => ?_⟩
        · have hv := hv.1 c4
          refine wp_iinc hb rfl (y := (nI 0) + nI 1) rfl rfl dX2_enter_62 ?_
          refine wp_iinc hb rfl (y := v3 + nI 1) rfl rfl dX2_enter_65 ?_
          refine wp_goto hb (t := 10) ⟨rfl, rfl⟩ dX2_enter_68 ?_
          exact wp_for (mm_ls_k (mm_ls_k (mm_ls_k (mm_ls_k mm_ls_nil)))) hv
        · have hv := hv.2 c4
          refine wp_aload_n hb rfl dX2_enter_55 ?_
          refine wp_iload_n hb rfl dX2_enter_56 ?_
          refine wp_iload_n hb rfl dX2_enter_57 ?_
          refine wp_callV hb (k' := 34) ko_33 lm_2_56 rfl m0_63 (by decide) (Nat.le_of_ble_eq_true rfl) dX2_enter_58 (sp_cV (hv.V (Nat.le_refl _) ?_))
          intro m1 hv
          exact wp_retV hb rfl dX2_enter_61 hv
      · have hv := hv.2 c3
        exact wp_retV hb rfl dX2_enter_44 hv
    · have hv := hv.2 c2
      refine wp_iload_n hb rfl dX2_enter_23 ?_
      refine wp_aload_n hb rfl dX2_enter_24 ?_
      refine wp_getR hb ko_33 lf_2_15 (by decide) m0_63 r0_63_1 dX2_enter_25 ?_
      refine wp_alen hb (x := nI 1024) m0_65 (by decide) rfl dX2_enter_28 ?_
      refine wp_icmp_lt hb (t := 34) ⟨rfl, rfl⟩ dX2_enter_29 ⟨fun c6 => ?_, fun c6 => ?_⟩
      · have hv := hv.1 c6
        refine wp_aload_n hb rfl dX2_enter_34 ?_
        refine wp_getR hb ko_33 lf_2_15 (by decide) m0_63 r0_63_1 dX2_enter_35 ?_
        refine wp_iload_n hb rfl dX2_enter_38 ?_
        obtain ⟨q7, hv⟩ := hv
        refine wp_iaload hb rfl m0_65 q7 dX2_enter_39 ?_
        refine wp_iload_n hb rfl dX2_enter_40 ?_
        refine wp_icmp_ne hb (t := 45) ⟨rfl, rfl⟩ dX2_enter_41 ⟨fun c8 => ?_, fun c8 => ?_⟩
        · have hv := hv.1 c8
          refine wp_aload_n hb rfl dX2_enter_45 ?_
          refine wp_getR hb ko_33 lf_2_15 (by decide) m0_63 r0_63_1 dX2_enter_46 ?_
          refine wp_iload_n hb rfl dX2_enter_49 ?_
          obtain ⟨q9, hv⟩ := hv
          refine wp_iaload hb rfl m0_65 q9 dX2_enter_50 ?_
          refine wp_iconst hb (x := (-1)) rfl dX2_enter_51 ?_
          refine wp_icmp_ne hb (t := 62) ⟨rfl, rfl⟩ dX2_enter_52 ⟨fun c10 => ?_, fun c10 => ?_⟩
          · have hv := hv.1 c10
            refine wp_iinc hb rfl (y := v2 + nI 1) rfl rfl dX2_enter_62 ?_
            refine wp_iinc hb rfl (y := v3 + nI 1) rfl rfl dX2_enter_65 ?_
            refine wp_goto hb (t := 10) ⟨rfl, rfl⟩ dX2_enter_68 ?_
            exact wp_for (mm_ls_k (mm_ls_k (mm_ls_k (mm_ls_k mm_ls_nil)))) hv
          · have hv := hv.2 c10
            refine wp_aload_n hb rfl dX2_enter_55 ?_
            refine wp_iload_n hb rfl dX2_enter_56 ?_
            refine wp_iload_n hb rfl dX2_enter_57 ?_
            refine wp_callV hb (k' := 34) ko_33 lm_2_56 rfl m0_63 (by decide) (Nat.le_of_ble_eq_true rfl) dX2_enter_58 (sp_cV (hv.V (Nat.le_refl _) ?_))
            intro m2 hv
            exact wp_retV hb rfl dX2_enter_61 hv
        · have hv := hv.2 c8
          exact wp_retV hb rfl dX2_enter_44 hv
      · have hv := hv.2 c6
        refine wp_iconst hb (x := nI 0) rfl dX2_enter_32 ?_
        refine wp_istore_n hb rfl dX2_enter_33 ?_
        refine wp_aload_n hb rfl dX2_enter_34 ?_
        refine wp_getR hb ko_33 lf_2_15 (by decide) m0_63 r0_63_1 dX2_enter_35 ?_
        refine wp_iload_n hb rfl dX2_enter_38 ?_
        refine wp_iaload hb (q := 0) (by decide) m0_65 (vp_in_nI (by decide) (by decide)) dX2_enter_39 ?_
        refine wp_iload_n hb rfl dX2_enter_40 ?_
        refine wp_icmp_ne hb (t := 45) ⟨rfl, rfl⟩ dX2_enter_41 ⟨fun c12 => ?_, fun c12 => ?_⟩
        · have hv := hv.1 c12
          refine wp_aload_n hb rfl dX2_enter_45 ?_
          refine wp_getR hb ko_33 lf_2_15 (by decide) m0_63 r0_63_1 dX2_enter_46 ?_
          refine wp_iload_n hb rfl dX2_enter_49 ?_
          refine wp_iaload hb (q := 0) (by decide) m0_65 (vp_in_nI (by decide) (by decide)) dX2_enter_50 ?_
          refine wp_iconst hb (x := (-1)) rfl dX2_enter_51 ?_
          refine wp_icmp_ne hb (t := 62) ⟨rfl, rfl⟩ dX2_enter_52 ⟨fun c13 => ?_, fun c13 => ?_⟩
          · have hv := hv.1 c13
            refine wp_iinc hb rfl (y := (nI 0) + nI 1) rfl rfl dX2_enter_62 ?_
            refine wp_iinc hb rfl (y := v3 + nI 1) rfl rfl dX2_enter_65 ?_
            refine wp_goto hb (t := 10) ⟨rfl, rfl⟩ dX2_enter_68 ?_
            exact wp_for (mm_ls_k (mm_ls_k (mm_ls_k (mm_ls_k mm_ls_nil)))) hv
          · have hv := hv.2 c13
            refine wp_aload_n hb rfl dX2_enter_55 ?_
            refine wp_iload_n hb rfl dX2_enter_56 ?_
            refine wp_iload_n hb rfl dX2_enter_57 ?_
            refine wp_callV hb (k' := 34) ko_33 lm_2_56 rfl m0_63 (by decide) (Nat.le_of_ble_eq_true rfl) dX2_enter_58 (sp_cV (hv.V (Nat.le_refl _) ?_))
            intro m3 hv
            exact wp_retV hb rfl dX2_enter_61 hv
        · have hv := hv.2 c12
          exact wp_retV hb rfl dX2_enter_44 hv
set_option maxRecDepth 100000 in
theorem v_X2_append {d sn : Nat} {v1 : Int32} {v2 : Int32} {m : mm_Mem} {P : mm_Mem → Prop} 
    (hv : ((nI 500 ≤ m.1 63 2) → (P m)) ∧ (¬ (nI 500 ≤ m.1 63 2) → (((0 ≤ m.1 63 2) → (((v1 < 0) → (P m)) ∧ (¬ (v1 < 0) → (((v1 < nI 1024) → (vp_in v1 1024 ∧ (∀ m1 : mm_Mem, m1 = (mm_u2 m.1 65 v1.toNatClampNeg v2, m.2) → (vp_in (m1.1 63 2) 500 ∧ (∀ m2 : mm_Mem, m2 = (mm_u2 m1.1 64 (m1.1 63 2).toNatClampNeg v2, m1.2) → (∀ m3 : mm_Mem, m3 = (mm_u2 m2.1 63 2 ((m2.1 63 2) + (nI 1)), m2.2) → (P m3))))))) ∧ (¬ (v1 < nI 1024) → (P m)))))) ∧ (¬ (0 ≤ m.1 63 2) → (P m))))) :
    mm_sp (d + 1) sn kX2_append [.ref 63, .int v1, .int v2] m (qV P) := by
  have hb := mb_34
  refine wp_in (la := [some (.ref 63), some (.int v1), some (.int v2)]) ⟨⟨Nat.le_of_ble_eq_true rfl, by decide, by decide⟩, rfl⟩ ?_
  refine wp_aload_n hb rfl dX2_append_0 ?_
  refine wp_getI hb ko_34 lf_2_24 (by decide) m0_63 dX2_append_1 ?_
  refine wp_aload_n hb rfl dX2_append_4 ?_
  refine wp_getR hb ko_34 lf_2_9 (by decide) m0_63 r0_63_0 dX2_append_5 ?_
  refine wp_alen hb (x := nI 500) m0_64 (by decide) rfl dX2_append_8 ?_
  refine wp_icmp_ge hb (t := 19) ⟨rfl, rfl⟩ dX2_append_9 ⟨fun c1 => ?_, fun c1 => ?_⟩
  · have hv := hv.1 c1
    exact wp_retV hb rfl dX2_append_19 hv
  · have hv := hv.2 c1
    refine wp_aload_n hb rfl dX2_append_12 ?_
    refine wp_getI hb ko_34 lf_2_24 (by decide) m0_63 dX2_append_13 ?_
    refine wp_if_ge hb (y := 0) (t := 20) ⟨rfl, rfl⟩ dX2_append_16 ⟨fun c2 => ?_, fun c2 => ?_⟩
    · have hv := hv.1 c2
      refine wp_iload_n hb rfl dX2_append_20 ?_
      refine wp_if_lt hb (y := 0) (t := 33) ⟨rfl, rfl⟩ dX2_append_21 ⟨fun c3 => ?_, fun c3 => ?_⟩
      · have hv := hv.1 c3
        exact wp_retV hb rfl dX2_append_33 hv
      · have hv := hv.2 c3
        refine wp_iload_n hb rfl dX2_append_24 ?_
        refine wp_aload_n hb rfl dX2_append_25 ?_
        refine wp_getR hb ko_34 lf_2_15 (by decide) m0_63 r0_63_1 dX2_append_26 ?_
        refine wp_alen hb (x := nI 1024) m0_65 (by decide) rfl dX2_append_29 ?_
        refine wp_icmp_lt hb (t := 34) ⟨rfl, rfl⟩ dX2_append_30 ⟨fun c4 => ?_, fun c4 => ?_⟩
        · have hv := hv.1 c4
          refine wp_aload_n hb rfl dX2_append_34 ?_
          refine wp_getR hb ko_34 lf_2_15 (by decide) m0_63 r0_63_1 dX2_append_35 ?_
          refine wp_iload_n hb rfl dX2_append_38 ?_
          refine wp_iload_n hb rfl dX2_append_39 ?_
          obtain ⟨q5, hv⟩ := hv
          refine wp_iastore hb rfl m0_65 (by decide) q5 dX2_append_40 ?_
          have hv := hv _ rfl
          generalize (mm_u2 m.1 65 v1.toNatClampNeg v2, m.2) = m1 at hv ⊢
          refine wp_aload_n hb rfl dX2_append_41 ?_
          refine wp_getR hb ko_34 lf_2_9 (by decide) m0_63 r0_63_0 dX2_append_42 ?_
          refine wp_aload_n hb rfl dX2_append_45 ?_
          refine wp_getI hb ko_34 lf_2_24 (by decide) m0_63 dX2_append_46 ?_
          refine wp_iload_n hb rfl dX2_append_49 ?_
          obtain ⟨q6, hv⟩ := hv
          refine wp_iastore hb rfl m0_64 (by decide) q6 dX2_append_50 ?_
          have hv := hv _ rfl
          generalize (mm_u2 m1.1 64 (m1.1 63 2).toNatClampNeg v2, m1.2) = m2 at hv ⊢
          refine wp_aload_n hb rfl dX2_append_51 ?_
          refine wp_dupR hb dX2_append_52 ?_
          refine wp_getI hb ko_34 lf_2_24 (by decide) m0_63 dX2_append_53 ?_
          refine wp_iconst hb (x := nI 1) rfl dX2_append_56 ?_
          refine wp_iadd hb dX2_append_57 ?_
          refine wp_putI hb ko_34 lf_2_24 (by decide) m0_63 dX2_append_58 ?_
          have hv := hv _ rfl
          generalize (mm_u2 m2.1 63 2 ((m2.1 63 2) + (nI 1)), m2.2) = m3 at hv ⊢
          exact wp_retV hb rfl dX2_append_61 hv
        · have hv := hv.2 c4
          exact wp_retV hb rfl dX2_append_33 hv
    · have hv := hv.2 c2
      exact wp_retV hb rfl dX2_append_19 hv
