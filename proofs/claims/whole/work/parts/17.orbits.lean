set_option maxRecDepth 100000 in
theorem v_X5_find {d sn : Nat} {m : mm_Mem} {P : mm_Mem → Prop} 
    (hv : mm_sp d sn kJ7_fill_53178 [.ref 60, .int (-1)] m (qV fun m1 => mm_sp d sn kJ7_fill_53178 [.ref 61, .int (nI 0)] m1 (qV fun m2 => mm_wp d sn kX5_find 18 [some (.ref 59), some (.ref 2), some (.int (nI 0)), none] [] m2 (qV P)))) :
    mm_sp (d + 1) sn kX5_find [.ref 59, .ref 2] m (qV P) := by
  have hb := mb_48
  refine wp_in (la := [some (.ref 59), some (.ref 2), none, none]) ⟨⟨Nat.le_of_ble_eq_true rfl, by decide, by decide⟩, rfl⟩ ?_
  refine wp_aload_n hb rfl dX5_find_0 ?_
  refine wp_getR hb ko_48 lf_5_9 (by decide) m0_59 r0_59_0 dX5_find_1 ?_
  refine wp_iconst hb (x := (-1)) rfl dX5_find_4 ?_
  refine wp_callS hb (k' := 231) ko_48 lm_5_21 (by decide) rfl (Nat.le_of_ble_eq_true rfl) dX5_find_5 (sp_cV (hv.V (Nat.le_refl _) ?_))
  intro m1 hv
  refine wp_aload_n hb rfl dX5_find_8 ?_
  refine wp_getR hb ko_48 lf_5_15 (by decide) m0_59 r0_59_1 dX5_find_9 ?_
  refine wp_iconst hb (x := nI 0) rfl dX5_find_12 ?_
  refine wp_callS hb (k' := 231) ko_48 lm_5_21 (by decide) rfl (Nat.le_of_ble_eq_true rfl) dX5_find_13 (sp_cV (hv.V (Nat.le_refl _) ?_))
  intro m2 hv
  refine wp_iconst hb (x := nI 0) rfl dX5_find_16 ?_
  refine wp_istore_n hb rfl dX5_find_17 ?_
  exact wp_for (mm_ls_k (mm_ls_k (mm_ls_k (mm_ls_k mm_ls_nil)))) hv
set_option maxRecDepth 100000 in
theorem v_X5_find_18 {d sn : Nat} {v2 : Int32} {m : mm_Mem} {P : mm_Mem → Prop} 
    (hv : ((nI 256 ≤ v2) → (P m)) ∧ (¬ (nI 256 ≤ v2) → (mm_sp d sn kX6_whole [.ref 2] m (qI fun x2 m1 => ((x2 < v2) → (P m1)) ∧ (¬ (x2 < v2) → (mm_sp d sn kJ6_bitCount_0f7a4 [.int v2] m1 (qI fun x4 m2 => vp_in v2 256 ∧ (((¬ m2.1 60 v2.toNatClampNeg = (-1)) → (mm_wp d sn kX5_find 18 [some (.ref 59), some (.ref 2), some (.int (v2 + nI 1)), none] [] m2 (qV P))) ∧ (¬ (¬ m2.1 60 v2.toNatClampNeg = (-1)) → (((nI 9 ≤ x4) → (mm_wp d sn kX5_find 18 [some (.ref 59), some (.ref 2), some (.int (v2 + nI 1)), none] [] m2 (qV P))) ∧ (¬ (nI 9 ≤ x4) → (vp_in x4 9 ∧ (mm_sp d sn kX5_spread [.ref 59, .ref 2, .int v2, .int (m2.1 61 x4.toNatClampNeg)] m2 (qV fun m3 => vp_in x4 9 ∧ (vp_in x4 9 ∧ (∀ m4 : mm_Mem, m4 = (mm_u2 m3.1 61 x4.toNatClampNeg ((m3.1 61 x4.toNatClampNeg) + (nI 1)), m3.2) → (mm_wp d sn kX5_find 18 [some (.ref 59), some (.ref 2), some (.int (v2 + nI 1)), none] [] m4 (qV P)))))))))))))))))) :
    mm_wp d sn kX5_find 18 [some (.ref 59), some (.ref 2), some (.int v2), none] [] m (qV P) := by
  have hb := mb_48
  refine wp_iload_n hb rfl dX5_find_18 ?_
  refine wp_aload_n hb rfl dX5_find_19 ?_
  refine wp_getR hb ko_48 lf_5_9 (by decide) m0_59 r0_59_0 dX5_find_20 ?_
  refine wp_alen hb (x := nI 256) m0_60 (by decide) rfl dX5_find_23 ?_
  refine wp_icmp_ge hb (t := 87) ⟨rfl, rfl⟩ dX5_find_24 ⟨fun c1 => ?_, fun c1 => ?_⟩
  · have hv := hv.1 c1
    exact wp_retV hb rfl dX5_find_87 hv
  · have hv := hv.2 c1
    refine wp_iload_n hb rfl dX5_find_27 ?_
    refine wp_aload_n hb rfl dX5_find_28 ?_
    refine wp_callV hb (k' := 65) ko_48 lm_5_27 rfl m0_2 (by decide) (Nat.le_of_ble_eq_true rfl) dX5_find_29 (sp_cI (hv.I (Nat.le_refl _) ?_))
    intro x2 m1 hv
    refine wp_icmp_gt hb (t := 87) ⟨rfl, rfl⟩ dX5_find_32 ⟨fun c3 => ?_, fun c3 => ?_⟩
    · have hv := hv.1 c3
      exact wp_retV hb rfl dX5_find_87 hv
    · have hv := hv.2 c3
      refine wp_iload_n hb rfl dX5_find_35 ?_
      refine wp_callS hb (k' := 227) ko_48 lm_5_33 (by decide) rfl (Nat.le_of_ble_eq_true rfl) dX5_find_36 (sp_cI (hv.I (Nat.le_refl _) ?_))
      intro x4 m2 hv
      refine wp_istore_n hb rfl dX5_find_39 ?_
      refine wp_aload_n hb rfl dX5_find_40 ?_
      refine wp_getR hb ko_48 lf_5_9 (by decide) m0_59 r0_59_0 dX5_find_41 ?_
      refine wp_iload_n hb rfl dX5_find_44 ?_
      obtain ⟨q5, hv⟩ := hv
      refine wp_iaload hb rfl m0_60 q5 dX5_find_45 ?_
      refine wp_iconst hb (x := (-1)) rfl dX5_find_46 ?_
      refine wp_icmp_ne hb (t := 81) ⟨rfl, rfl⟩ dX5_find_47 ⟨fun c6 => ?_, fun c6 => ?_⟩
      · have hv := hv.1 c6
        refine wp_iinc hb rfl (y := v2 + nI 1) rfl rfl dX5_find_81 ?_
        refine wp_goto hb (t := 18) ⟨rfl, rfl⟩ dX5_find_84 ?_
        exact wp_for (mm_ls_k (mm_ls_k (mm_ls_k (mm_ls_f mm_ls_nil)))) hv
      · have hv := hv.2 c6
        refine wp_iload_n hb rfl dX5_find_50 ?_
        refine wp_aload_n hb rfl dX5_find_51 ?_
        refine wp_getR hb ko_48 lf_5_15 (by decide) m0_59 r0_59_1 dX5_find_52 ?_
        refine wp_alen hb (x := nI 9) m0_61 (by decide) rfl dX5_find_55 ?_
        refine wp_icmp_ge hb (t := 81) ⟨rfl, rfl⟩ dX5_find_56 ⟨fun c7 => ?_, fun c7 => ?_⟩
        · have hv := hv.1 c7
          refine wp_iinc hb rfl (y := v2 + nI 1) rfl rfl dX5_find_81 ?_
          refine wp_goto hb (t := 18) ⟨rfl, rfl⟩ dX5_find_84 ?_
          exact wp_for (mm_ls_k (mm_ls_k (mm_ls_k (mm_ls_f mm_ls_nil)))) hv
        · have hv := hv.2 c7
          refine wp_aload_n hb rfl dX5_find_59 ?_
          refine wp_aload_n hb rfl dX5_find_60 ?_
          refine wp_iload_n hb rfl dX5_find_61 ?_
          refine wp_aload_n hb rfl dX5_find_62 ?_
          refine wp_getR hb ko_48 lf_5_15 (by decide) m0_59 r0_59_1 dX5_find_63 ?_
          refine wp_iload_n hb rfl dX5_find_66 ?_
          obtain ⟨q8, hv⟩ := hv
          refine wp_iaload hb rfl m0_61 q8 dX5_find_67 ?_
          refine wp_callV hb (k' := 49) ko_48 lm_5_39 rfl m0_59 (by decide) (Nat.le_of_ble_eq_true rfl) dX5_find_68 (sp_cV (hv.V (Nat.le_refl _) ?_))
          intro m3 hv
          refine wp_aload_n hb rfl dX5_find_71 ?_
          refine wp_getR hb ko_48 lf_5_15 (by decide) m0_59 r0_59_1 dX5_find_72 ?_
          refine wp_iload_n hb rfl dX5_find_75 ?_
          refine wp_dup2 hb dX5_find_76 ?_
          obtain ⟨q10, hv⟩ := hv
          refine wp_iaload hb rfl m0_61 q10 dX5_find_77 ?_
          refine wp_iconst hb (x := nI 1) rfl dX5_find_78 ?_
          refine wp_iadd hb dX5_find_79 ?_
          obtain ⟨q11, hv⟩ := hv
          refine wp_iastore hb rfl m0_61 (by decide) q11 dX5_find_80 ?_
          have hv := hv _ rfl
          generalize (mm_u2 m3.1 61 x4.toNatClampNeg ((m3.1 61 x4.toNatClampNeg) + (nI 1)), m3.2) = m4 at hv ⊢
          refine wp_iinc hb rfl (y := v2 + nI 1) rfl rfl dX5_find_81 ?_
          refine wp_goto hb (t := 18) ⟨rfl, rfl⟩ dX5_find_84 ?_
          exact wp_for (mm_ls_k (mm_ls_k (mm_ls_k (mm_ls_f mm_ls_nil)))) hv
set_option maxRecDepth 100000 in
theorem v_X5_spread {d sn : Nat} {v2 : Int32} {v3 : Int32} {m : mm_Mem} {P : mm_Mem → Prop} 
    (hv : mm_sp d sn kX5_enter [.ref 59, .int v2, .int v3, .int (nI 0)] m (qI fun x1 m1 => mm_wp d sn kX5_spread 12 [some (.ref 59), some (.ref 2), none, some (.int v3), some (.int x1), some (.int (nI 0)), none, none] [] m1 (qV P))) :
    mm_sp (d + 1) sn kX5_spread [.ref 59, .ref 2, .int v2, .int v3] m (qV P) := by
  have hb := mb_49
  refine wp_in (la := [some (.ref 59), some (.ref 2), some (.int v2), some (.int v3), none, none, none, none]) ⟨⟨Nat.le_of_ble_eq_true rfl, by decide, by decide⟩, rfl⟩ ?_
  refine wp_aload_n hb rfl dX5_spread_0 ?_
  refine wp_iload_n hb rfl dX5_spread_1 ?_
  refine wp_iload_n hb rfl dX5_spread_2 ?_
  refine wp_iconst hb (x := nI 0) rfl dX5_spread_3 ?_
  refine wp_callV hb (k' := 50) ko_49 lm_5_43 rfl m0_59 (by decide) (Nat.le_of_ble_eq_true rfl) dX5_spread_4 (sp_cI (hv.I (Nat.le_refl _) ?_))
  intro x1 m1 hv
  refine wp_istore hb rfl dX5_spread_7 ?_
  refine wp_iconst hb (x := nI 0) rfl dX5_spread_9 ?_
  refine wp_istore hb rfl dX5_spread_10 ?_
  exact wp_for (mm_ls_k (mm_ls_k (mm_ls_f (mm_ls_k (mm_ls_k (mm_ls_k (mm_ls_k (mm_ls_k mm_ls_nil)))))))) hv
set_option maxRecDepth 100000 in
theorem v_X5_spread_12 {d sn : Nat} {v3 : Int32} {v4 : Int32} {v5 : Int32} {m : mm_Mem} {P : mm_Mem → Prop} 
    (hv : ((v4 ≤ v5) → (P m)) ∧ (¬ (v4 ≤ v5) → (((nI 256 ≤ v5) → (P m)) ∧ (¬ (nI 256 ≤ v5) → (mm_wp d sn kX5_spread 32 [some (.ref 59), some (.ref 2), none, some (.int v3), some (.int v4), some (.int v5), some (.int (nI 0)), none] [] m (qV P)))))) :
    mm_wp d sn kX5_spread 12 [some (.ref 59), some (.ref 2), none, some (.int v3), some (.int v4), some (.int v5), none, none] [] m (qV P) := by
  have hb := mb_49
  refine wp_iload hb rfl dX5_spread_12 ?_
  refine wp_iload hb rfl dX5_spread_14 ?_
  refine wp_icmp_ge hb (t := 87) ⟨rfl, rfl⟩ dX5_spread_16 ⟨fun c1 => ?_, fun c1 => ?_⟩
  · have hv := hv.1 c1
    exact wp_retV hb rfl dX5_spread_87 hv
  · have hv := hv.2 c1
    refine wp_iload hb rfl dX5_spread_19 ?_
    refine wp_aload_n hb rfl dX5_spread_21 ?_
    refine wp_getR hb ko_49 lf_5_18 (by decide) m0_59 r0_59_2 dX5_spread_22 ?_
    refine wp_alen hb (x := nI 256) m0_62 (by decide) rfl dX5_spread_25 ?_
    refine wp_icmp_ge hb (t := 87) ⟨rfl, rfl⟩ dX5_spread_26 ⟨fun c2 => ?_, fun c2 => ?_⟩
    · have hv := hv.1 c2
      exact wp_retV hb rfl dX5_spread_87 hv
    · have hv := hv.2 c2
      refine wp_iconst hb (x := nI 0) rfl dX5_spread_29 ?_
      refine wp_istore hb rfl dX5_spread_30 ?_
      exact wp_for (mm_ls_k (mm_ls_k (mm_ls_k (mm_ls_k (mm_ls_k (mm_ls_k (mm_ls_k (mm_ls_k mm_ls_nil)))))))) hv
set_option maxRecDepth 100000 in
theorem v_X5_spread_32 {d sn : Nat} {v3 : Int32} {v4 : Int32} {v5 : Int32} {v6 : Int32} {m : mm_Mem} {P : mm_Mem → Prop} 
    (hv : ((m.1 2 1 ≤ v6) → (mm_wp d sn kX5_spread 12 [some (.ref 59), some (.ref 2), none, some (.int v3), some (.int v4), some (.int (v5 + nI 1)), none, none] [] m (qV P))) ∧ (¬ (m.1 2 1 ≤ v6) → (mm_sp d sn kX6_wayAt [.ref 2, .int v6] m (qR fun x2 m1 => (x2 = none → (mm_wp d sn kX5_spread 32 [some (.ref 59), some (.ref 2), none, some (.int v3), some (.int v4), some (.int v5), some (.int (v6 + nI 1)), none] [] m1 (qV P))) ∧ (∀ a3, x2 = some a3 → shY a3 ∧ (vp_in v5 256 ∧ (mm_sp d sn kX9_setFor [.ref a3, .int (m1.1 62 v5.toNatClampNeg)] m1 (qI fun x5 m2 => mm_sp d sn kX5_enter [.ref 59, .int x5, .int v3, .int v4] m2 (qI fun x6 m3 => mm_wp d sn kX5_spread 32 [some (.ref 59), some (.ref 2), none, some (.int v3), some (.int x6), some (.int v5), some (.int (v6 + nI 1)), none] [] m3 (qV P)))))))))) :
    mm_wp d sn kX5_spread 32 [some (.ref 59), some (.ref 2), none, some (.int v3), some (.int v4), some (.int v5), some (.int v6), none] [] m (qV P) := by
  have hb := mb_49
  refine wp_iload hb rfl dX5_spread_32 ?_
  refine wp_aload_n hb rfl dX5_spread_34 ?_
  refine wp_getI hb ko_49 lf_5_47 (by decide) m0_2 dX5_spread_35 ?_
  refine wp_icmp_ge hb (t := 81) ⟨rfl, rfl⟩ dX5_spread_38 ⟨fun c1 => ?_, fun c1 => ?_⟩
  · have hv := hv.1 c1
    refine wp_iinc hb rfl (y := v5 + nI 1) rfl rfl dX5_spread_81 ?_
    refine wp_goto hb (t := 12) ⟨rfl, rfl⟩ dX5_spread_84 ?_
    exact wp_for (mm_ls_k (mm_ls_k (mm_ls_k (mm_ls_k (mm_ls_k (mm_ls_k (mm_ls_f (mm_ls_k mm_ls_nil)))))))) hv
  · have hv := hv.2 c1
    refine wp_aload_n hb rfl dX5_spread_41 ?_
    refine wp_iload hb rfl dX5_spread_42 ?_
    refine wp_callV hb (k' := 66) ko_49 lm_5_51 rfl m0_2 (by decide) (Nat.le_of_ble_eq_true rfl) dX5_spread_44 (sp_cR (hv.R (Nat.le_refl _) ?_))
    intro x2 m1 hv
    refine ⟨fun e9 => ?_, fun a9 e9 => ?_⟩
    · have hv := hv.1 e9
      refine wp_astoreN hb rfl dX5_spread_47 ?_
      refine wp_aloadN hb rfl dX5_spread_49 ?_
      refine wp_ifnullN hb (t := 75) ⟨rfl, rfl⟩ dX5_spread_51 ?_
      refine wp_iinc hb rfl (y := v6 + nI 1) rfl rfl dX5_spread_75 ?_
      refine wp_goto hb (t := 32) ⟨rfl, rfl⟩ dX5_spread_78 ?_
      exact wp_for (mm_ls_k (mm_ls_k (mm_ls_k (mm_ls_k (mm_ls_k (mm_ls_k (mm_ls_k (mm_ls_f mm_ls_nil)))))))) hv
    · obtain ⟨ha3, hv⟩ := hv.2 a9 e9
      revert hv ha3
      generalize a9 = a3
      intro ha3 hv
      refine wp_astore hb rfl dX5_spread_47 ?_
      refine wp_aload hb rfl dX5_spread_49 ?_
      refine wp_ifnull hb dX5_spread_51 ?_
      refine wp_aload_n hb rfl dX5_spread_54 ?_
      refine wp_aload hb rfl dX5_spread_55 ?_
      refine wp_aload_n hb rfl dX5_spread_57 ?_
      refine wp_getR hb ko_49 lf_5_18 (by decide) m0_59 r0_59_2 dX5_spread_58 ?_
      refine wp_iload hb rfl dX5_spread_61 ?_
      obtain ⟨q4, hv⟩ := hv
      refine wp_iaload hb rfl m0_62 q4 dX5_spread_63 ?_
      refine wp_callV hb (k' := 95) ko_49 lm_5_55 rfl (ha3.2.1 _) (by decide) (Nat.le_of_ble_eq_true rfl) dX5_spread_64 (sp_cI (hv.I (Nat.le_refl _) ?_))
      intro x5 m2 hv
      refine wp_iload_n hb rfl dX5_spread_67 ?_
      refine wp_iload hb rfl dX5_spread_68 ?_
      refine wp_callV hb (k' := 50) ko_49 lm_5_43 rfl m0_59 (by decide) (Nat.le_of_ble_eq_true rfl) dX5_spread_70 (sp_cI (hv.I (Nat.le_refl _) ?_))
      intro x6 m3 hv
      refine wp_istore hb rfl dX5_spread_73 ?_
      refine wp_iinc hb rfl (y := v6 + nI 1) rfl rfl dX5_spread_75 ?_
      refine wp_goto hb (t := 32) ⟨rfl, rfl⟩ dX5_spread_78 ?_
      exact wp_for (mm_ls_k (mm_ls_k (mm_ls_k (mm_ls_k (mm_ls_k (mm_ls_k (mm_ls_k (mm_ls_f mm_ls_nil)))))))) hv
set_option maxRecDepth 100000 in
theorem v_X5_enter {d sn : Nat} {v1 : Int32} {v2 : Int32} {v3 : Int32} {m : mm_Mem} {P : Int32 → mm_Mem → Prop} 
    (hv : ((v1 < 0) → (P v3 m)) ∧ (¬ (v1 < 0) → (((nI 256 ≤ v1) → (P v3 m)) ∧ (¬ (nI 256 ≤ v1) → (vp_in v1 256 ∧ (((m.1 60 v1.toNatClampNeg = (-1)) → (((v3 < 0) → (P v3 m)) ∧ (¬ (v3 < 0) → (((v3 < nI 256) → (vp_in v1 256 ∧ (∀ m1 : mm_Mem, m1 = (mm_u2 m.1 60 v1.toNatClampNeg v2, m.2) → (vp_in v3 256 ∧ (∀ m2 : mm_Mem, m2 = (mm_u2 m1.1 62 v3.toNatClampNeg v1, m1.2) → (P (v3 + (nI 1)) m2)))))) ∧ (¬ (v3 < nI 256) → (P v3 m)))))) ∧ (¬ (m.1 60 v1.toNatClampNeg = (-1)) → (P v3 m)))))))) :
    mm_sp (d + 1) sn kX5_enter [.ref 59, .int v1, .int v2, .int v3] m (qI P) := by
  have hb := mb_50
  refine wp_in (la := [some (.ref 59), some (.int v1), some (.int v2), some (.int v3)]) ⟨⟨Nat.le_of_ble_eq_true rfl, by decide, by decide⟩, rfl⟩ ?_
  refine wp_iload_n hb rfl dX5_enter_0 ?_
  refine wp_if_lt hb (y := 0) (t := 23) ⟨rfl, rfl⟩ dX5_enter_1 ⟨fun c1 => ?_, fun c1 => ?_⟩
  · have hv := hv.1 c1
    refine wp_iload_n hb rfl dX5_enter_23 ?_
    exact wp_retI hb rfl dX5_enter_24 hv
  · have hv := hv.2 c1
    refine wp_iload_n hb rfl dX5_enter_4 ?_
    refine wp_aload_n hb rfl dX5_enter_5 ?_
    refine wp_getR hb ko_50 lf_5_9 (by decide) m0_59 r0_59_0 dX5_enter_6 ?_
    refine wp_alen hb (x := nI 256) m0_60 (by decide) rfl dX5_enter_9 ?_
    refine wp_icmp_ge hb (t := 23) ⟨rfl, rfl⟩ dX5_enter_10 ⟨fun c2 => ?_, fun c2 => ?_⟩
    · have hv := hv.1 c2
      refine wp_iload_n hb rfl dX5_enter_23 ?_
      exact wp_retI hb rfl dX5_enter_24 hv
    · have hv := hv.2 c2
      refine wp_aload_n hb rfl dX5_enter_13 ?_
      refine wp_getR hb ko_50 lf_5_9 (by decide) m0_59 r0_59_0 dX5_enter_14 ?_
      refine wp_iload_n hb rfl dX5_enter_17 ?_
      obtain ⟨q3, hv⟩ := hv
      refine wp_iaload hb rfl m0_60 q3 dX5_enter_18 ?_
      refine wp_iconst hb (x := (-1)) rfl dX5_enter_19 ?_
      refine wp_icmp_eq hb (t := 25) ⟨rfl, rfl⟩ dX5_enter_20 ⟨fun c4 => ?_, fun c4 => ?_⟩
      · have hv := hv.1 c4
        refine wp_iload_n hb rfl dX5_enter_25 ?_
        refine wp_if_lt hb (y := 0) (t := 38) ⟨rfl, rfl⟩ dX5_enter_26 ⟨fun c5 => ?_, fun c5 => ?_⟩
        · have hv := hv.1 c5
          refine wp_iload_n hb rfl dX5_enter_38 ?_
          exact wp_retI hb rfl dX5_enter_39 hv
        · have hv := hv.2 c5
          refine wp_iload_n hb rfl dX5_enter_29 ?_
          refine wp_aload_n hb rfl dX5_enter_30 ?_
          refine wp_getR hb ko_50 lf_5_18 (by decide) m0_59 r0_59_2 dX5_enter_31 ?_
          refine wp_alen hb (x := nI 256) m0_62 (by decide) rfl dX5_enter_34 ?_
          refine wp_icmp_lt hb (t := 40) ⟨rfl, rfl⟩ dX5_enter_35 ⟨fun c6 => ?_, fun c6 => ?_⟩
          · have hv := hv.1 c6
            refine wp_aload_n hb rfl dX5_enter_40 ?_
            refine wp_getR hb ko_50 lf_5_9 (by decide) m0_59 r0_59_0 dX5_enter_41 ?_
            refine wp_iload_n hb rfl dX5_enter_44 ?_
            refine wp_iload_n hb rfl dX5_enter_45 ?_
            obtain ⟨q7, hv⟩ := hv
            refine wp_iastore hb rfl m0_60 (by decide) q7 dX5_enter_46 ?_
            have hv := hv _ rfl
            generalize (mm_u2 m.1 60 v1.toNatClampNeg v2, m.2) = m1 at hv ⊢
            refine wp_aload_n hb rfl dX5_enter_47 ?_
            refine wp_getR hb ko_50 lf_5_18 (by decide) m0_59 r0_59_2 dX5_enter_48 ?_
            refine wp_iload_n hb rfl dX5_enter_51 ?_
            refine wp_iload_n hb rfl dX5_enter_52 ?_
            obtain ⟨q8, hv⟩ := hv
            refine wp_iastore hb rfl m0_62 (by decide) q8 dX5_enter_53 ?_
            have hv := hv _ rfl
            generalize (mm_u2 m1.1 62 v3.toNatClampNeg v1, m1.2) = m2 at hv ⊢
            refine wp_iload_n hb rfl dX5_enter_54 ?_
            refine wp_iconst hb (x := nI 1) rfl dX5_enter_55 ?_
            refine wp_iadd hb dX5_enter_56 ?_
            exact wp_retI hb rfl dX5_enter_57 hv
          · have hv := hv.2 c6
            refine wp_iload_n hb rfl dX5_enter_38 ?_
            exact wp_retI hb rfl dX5_enter_39 hv
      · have hv := hv.2 c4
        refine wp_iload_n hb rfl dX5_enter_23 ?_
        exact wp_retI hb rfl dX5_enter_24 hv
set_option maxRecDepth 100000 in
theorem v_X5_amountOf {d sn : Nat} {v1 : Int32} {m : mm_Mem} {P : Int32 → mm_Mem → Prop} 
    (hv : ((v1 < 0) → (P (nI 0) m)) ∧ (¬ (v1 < 0) → (((nI 9 ≤ v1) → (P (nI 0) m)) ∧ (¬ (nI 9 ≤ v1) → (vp_in v1 9 ∧ (P (m.1 61 v1.toNatClampNeg) m)))))) :
    mm_sp (d + 1) sn kX5_amountOf [.ref 59, .int v1] m (qI P) := by
  have hb := mb_51
  refine wp_in (la := [some (.ref 59), some (.int v1)]) ⟨⟨Nat.le_of_ble_eq_true rfl, by decide, by decide⟩, rfl⟩ ?_
  refine wp_iload_n hb rfl dX5_amountOf_0 ?_
  refine wp_if_lt hb (y := 0) (t := 22) ⟨rfl, rfl⟩ dX5_amountOf_1 ⟨fun c1 => ?_, fun c1 => ?_⟩
  · have hv := hv.1 c1
    refine wp_iconst hb (x := nI 0) rfl dX5_amountOf_22 ?_
    exact wp_retI hb rfl dX5_amountOf_23 hv
  · have hv := hv.2 c1
    refine wp_iload_n hb rfl dX5_amountOf_4 ?_
    refine wp_aload_n hb rfl dX5_amountOf_5 ?_
    refine wp_getR hb ko_51 lf_5_15 (by decide) m0_59 r0_59_1 dX5_amountOf_6 ?_
    refine wp_alen hb (x := nI 9) m0_61 (by decide) rfl dX5_amountOf_9 ?_
    refine wp_icmp_ge hb (t := 22) ⟨rfl, rfl⟩ dX5_amountOf_10 ⟨fun c2 => ?_, fun c2 => ?_⟩
    · have hv := hv.1 c2
      refine wp_iconst hb (x := nI 0) rfl dX5_amountOf_22 ?_
      exact wp_retI hb rfl dX5_amountOf_23 hv
    · have hv := hv.2 c2
      refine wp_aload_n hb rfl dX5_amountOf_13 ?_
      refine wp_getR hb ko_51 lf_5_15 (by decide) m0_59 r0_59_1 dX5_amountOf_14 ?_
      refine wp_iload_n hb rfl dX5_amountOf_17 ?_
      obtain ⟨q3, hv⟩ := hv
      refine wp_iaload hb rfl m0_61 q3 dX5_amountOf_18 ?_
      refine wp_goto hb (t := 23) ⟨rfl, rfl⟩ dX5_amountOf_19 ?_
      exact wp_retI hb rfl dX5_amountOf_23 hv
set_option maxRecDepth 100000 in
theorem v_X5_isOrbit {d sn : Nat} {v1 : Int32} {v2 : Int32} {m : mm_Mem} {P : Int32 → mm_Mem → Prop} 
    (hv : ((v2 < 0) → (P (nI 0) m)) ∧ (¬ (v2 < 0) → (mm_sp d sn kX5_amountOf [.ref 59, .int v1] m (qI fun x2 m1 => ((x2 ≤ v2) → (P (nI 0) m1)) ∧ (¬ (x2 ≤ v2) → (P (nI 1) m1)))))) :
    mm_sp (d + 1) sn kX5_isOrbit [.ref 59, .int v1, .int v2] m (qI P) := by
  have hb := mb_52
  refine wp_in (la := [some (.ref 59), some (.int v1), some (.int v2)]) ⟨⟨Nat.le_of_ble_eq_true rfl, by decide, by decide⟩, rfl⟩ ?_
  refine wp_iload_n hb rfl dX5_isOrbit_0 ?_
  refine wp_if_lt hb (y := 0) (t := 17) ⟨rfl, rfl⟩ dX5_isOrbit_1 ⟨fun c1 => ?_, fun c1 => ?_⟩
  · have hv := hv.1 c1
    refine wp_iconst hb (x := nI 0) rfl dX5_isOrbit_17 ?_
    exact wp_retZ hb rfl (by decide) dX5_isOrbit_18 hv
  · have hv := hv.2 c1
    refine wp_iload_n hb rfl dX5_isOrbit_4 ?_
    refine wp_aload_n hb rfl dX5_isOrbit_5 ?_
    refine wp_iload_n hb rfl dX5_isOrbit_6 ?_
    refine wp_callV hb (k' := 51) ko_52 lm_5_60 rfl m0_59 (by decide) (Nat.le_of_ble_eq_true rfl) dX5_isOrbit_7 (sp_cI (hv.I (Nat.le_refl _) ?_))
    intro x2 m1 hv
    refine wp_icmp_ge hb (t := 17) ⟨rfl, rfl⟩ dX5_isOrbit_10 ⟨fun c3 => ?_, fun c3 => ?_⟩
    · have hv := hv.1 c3
      refine wp_iconst hb (x := nI 0) rfl dX5_isOrbit_17 ?_
      exact wp_retZ hb rfl (by decide) dX5_isOrbit_18 hv
    · have hv := hv.2 c3
      refine wp_iconst hb (x := nI 1) rfl dX5_isOrbit_13 ?_
      refine wp_goto hb (t := 18) ⟨rfl, rfl⟩ dX5_isOrbit_14 ?_
      exact wp_retZ hb rfl (by decide) dX5_isOrbit_18 hv
set_option maxRecDepth 100000 in
theorem v_X5_numberOf {d sn : Nat} {v1 : Int32} {m : mm_Mem} {P : Int32 → mm_Mem → Prop} 
    (hv : ((v1 < 0) → (P (-1) m)) ∧ (¬ (v1 < 0) → (((nI 256 ≤ v1) → (P (-1) m)) ∧ (¬ (nI 256 ≤ v1) → (vp_in v1 256 ∧ (P (m.1 60 v1.toNatClampNeg) m)))))) :
    mm_sp (d + 1) sn kX5_numberOf [.ref 59, .int v1] m (qI P) := by
  have hb := mb_53
  refine wp_in (la := [some (.ref 59), some (.int v1)]) ⟨⟨Nat.le_of_ble_eq_true rfl, by decide, by decide⟩, rfl⟩ ?_
  refine wp_iload_n hb rfl dX5_numberOf_0 ?_
  refine wp_if_lt hb (y := 0) (t := 22) ⟨rfl, rfl⟩ dX5_numberOf_1 ⟨fun c1 => ?_, fun c1 => ?_⟩
  · have hv := hv.1 c1
    refine wp_iconst hb (x := (-1)) rfl dX5_numberOf_22 ?_
    exact wp_retI hb rfl dX5_numberOf_23 hv
  · have hv := hv.2 c1
    refine wp_iload_n hb rfl dX5_numberOf_4 ?_
    refine wp_aload_n hb rfl dX5_numberOf_5 ?_
    refine wp_getR hb ko_53 lf_5_9 (by decide) m0_59 r0_59_0 dX5_numberOf_6 ?_
    refine wp_alen hb (x := nI 256) m0_60 (by decide) rfl dX5_numberOf_9 ?_
    refine wp_icmp_ge hb (t := 22) ⟨rfl, rfl⟩ dX5_numberOf_10 ⟨fun c2 => ?_, fun c2 => ?_⟩
    · have hv := hv.1 c2
      refine wp_iconst hb (x := (-1)) rfl dX5_numberOf_22 ?_
      exact wp_retI hb rfl dX5_numberOf_23 hv
    · have hv := hv.2 c2
      refine wp_aload_n hb rfl dX5_numberOf_13 ?_
      refine wp_getR hb ko_53 lf_5_9 (by decide) m0_59 r0_59_0 dX5_numberOf_14 ?_
      refine wp_iload_n hb rfl dX5_numberOf_17 ?_
      obtain ⟨q3, hv⟩ := hv
      refine wp_iaload hb rfl m0_60 q3 dX5_numberOf_18 ?_
      refine wp_goto hb (t := 23) ⟨rfl, rfl⟩ dX5_numberOf_19 ?_
      exact wp_retI hb rfl dX5_numberOf_23 hv
set_option maxRecDepth 100000 in
theorem v_X5_holds {d sn : Nat} {v1 : Int32} {v2 : Int32} {v3 : Int32} {m : mm_Mem} {P : Int32 → mm_Mem → Prop} 
    (hv : mm_sp d sn kX5_numberOf [.ref 59, .int v3] m (qI fun x1 m1 => ((¬ x1 = v2) → (P (nI 0) m1)) ∧ (¬ (¬ x1 = v2) → (mm_sp d sn kJ6_bitCount_0f7a4 [.int v3] m1 (qI fun x3 m2 => ((¬ x3 = v1) → (P (nI 0) m2)) ∧ (¬ (¬ x3 = v1) → (P (nI 1) m2))))))) :
    mm_sp (d + 1) sn kX5_holds [.ref 59, .int v1, .int v2, .int v3] m (qI P) := by
  have hb := mb_54
  refine wp_in (la := [some (.ref 59), some (.int v1), some (.int v2), some (.int v3)]) ⟨⟨Nat.le_of_ble_eq_true rfl, by decide, by decide⟩, rfl⟩ ?_
  refine wp_aload_n hb rfl dX5_holds_0 ?_
  refine wp_iload_n hb rfl dX5_holds_1 ?_
  refine wp_callV hb (k' := 53) ko_54 lm_5_63 rfl m0_59 (by decide) (Nat.le_of_ble_eq_true rfl) dX5_holds_2 (sp_cI (hv.I (Nat.le_refl _) ?_))
  intro x1 m1 hv
  refine wp_iload_n hb rfl dX5_holds_5 ?_
  refine wp_icmp_ne hb (t := 21) ⟨rfl, rfl⟩ dX5_holds_6 ⟨fun c2 => ?_, fun c2 => ?_⟩
  · have hv := hv.1 c2
    refine wp_iconst hb (x := nI 0) rfl dX5_holds_21 ?_
    exact wp_retZ hb rfl (by decide) dX5_holds_22 hv
  · have hv := hv.2 c2
    refine wp_iload_n hb rfl dX5_holds_9 ?_
    refine wp_callS hb (k' := 227) ko_54 lm_5_33 (by decide) rfl (Nat.le_of_ble_eq_true rfl) dX5_holds_10 (sp_cI (hv.I (Nat.le_refl _) ?_))
    intro x3 m2 hv
    refine wp_iload_n hb rfl dX5_holds_13 ?_
    refine wp_icmp_ne hb (t := 21) ⟨rfl, rfl⟩ dX5_holds_14 ⟨fun c4 => ?_, fun c4 => ?_⟩
    · have hv := hv.1 c4
      refine wp_iconst hb (x := nI 0) rfl dX5_holds_21 ?_
      exact wp_retZ hb rfl (by decide) dX5_holds_22 hv
    · have hv := hv.2 c4
      refine wp_iconst hb (x := nI 1) rfl dX5_holds_17 ?_
      refine wp_goto hb (t := 22) ⟨rfl, rfl⟩ dX5_holds_18 ?_
      exact wp_retZ hb rfl (by decide) dX5_holds_22 hv
set_option maxRecDepth 100000 in
theorem v_X5_setAt {d sn : Nat} {v1 : Int32} {v2 : Int32} {v3 : Int32} {m : mm_Mem} {P : Int32 → mm_Mem → Prop} 
    (hv : mm_wp d sn kX5_setAt 6 [some (.ref 59), some (.int v1), some (.int v2), some (.int v3), some (.int (nI 0)), some (.int (nI 0))] [] m (qI P)) :
    mm_sp (d + 1) sn kX5_setAt [.ref 59, .int v1, .int v2, .int v3] m (qI P) := by
  have hb := mb_55
  refine wp_in (la := [some (.ref 59), some (.int v1), some (.int v2), some (.int v3), none, none]) ⟨⟨Nat.le_of_ble_eq_true rfl, by decide, by decide⟩, rfl⟩ ?_
  refine wp_iconst hb (x := nI 0) rfl dX5_setAt_0 ?_
  refine wp_istore hb rfl dX5_setAt_1 ?_
  refine wp_iconst hb (x := nI 0) rfl dX5_setAt_3 ?_
  refine wp_istore hb rfl dX5_setAt_4 ?_
  exact wp_for (mm_ls_k (mm_ls_k (mm_ls_k (mm_ls_k (mm_ls_k (mm_ls_k mm_ls_nil)))))) hv
set_option maxRecDepth 100000 in
theorem v_X5_setAt_6 {d sn : Nat} {v1 : Int32} {v2 : Int32} {v3 : Int32} {v4 : Int32} {v5 : Int32} {m : mm_Mem} {P : Int32 → mm_Mem → Prop} 
    (hv : ((nI 256 ≤ v5) → (P (-5) m)) ∧ (¬ (nI 256 ≤ v5) → (mm_sp d sn kX5_holds [.ref 59, .int v1, .int v2, .int v5] m (qI fun x2 m1 => ((x2 = 0) → (mm_wp d sn kX5_setAt 6 [some (.ref 59), some (.int v1), some (.int v2), some (.int v3), some (.int v4), some (.int (v5 + nI 1))] [] m1 (qI P))) ∧ (¬ (x2 = 0) → (((¬ v4 = v3) → (mm_wp d sn kX5_setAt 6 [some (.ref 59), some (.int v1), some (.int v2), some (.int v3), some (.int (v4 + nI 1)), some (.int (v5 + nI 1))] [] m1 (qI P))) ∧ (¬ (¬ v4 = v3) → (P v5 m1)))))))) :
    mm_wp d sn kX5_setAt 6 [some (.ref 59), some (.int v1), some (.int v2), some (.int v3), some (.int v4), some (.int v5)] [] m (qI P) := by
  have hb := mb_55
  refine wp_iload hb rfl dX5_setAt_6 ?_
  refine wp_aload_n hb rfl dX5_setAt_8 ?_
  refine wp_getR hb ko_55 lf_5_9 (by decide) m0_59 r0_59_0 dX5_setAt_9 ?_
  refine wp_alen hb (x := nI 256) m0_60 (by decide) rfl dX5_setAt_12 ?_
  refine wp_icmp_ge hb (t := 45) ⟨rfl, rfl⟩ dX5_setAt_13 ⟨fun c1 => ?_, fun c1 => ?_⟩
  · have hv := hv.1 c1
    refine wp_bipush hb (x := (-5)) rfl dX5_setAt_45 ?_
    exact wp_retI hb rfl dX5_setAt_47 hv
  · have hv := hv.2 c1
    refine wp_aload_n hb rfl dX5_setAt_16 ?_
    refine wp_iload_n hb rfl dX5_setAt_17 ?_
    refine wp_iload_n hb rfl dX5_setAt_18 ?_
    refine wp_iload hb rfl dX5_setAt_19 ?_
    refine wp_callV hb (k' := 54) ko_55 lm_5_66 rfl m0_59 (by decide) (Nat.le_of_ble_eq_true rfl) dX5_setAt_21 (sp_cI (hv.I (Nat.le_refl _) ?_))
    intro x2 m1 hv
    refine wp_if_eq hb (y := 0) (t := 39) ⟨rfl, rfl⟩ dX5_setAt_24 ⟨fun c3 => ?_, fun c3 => ?_⟩
    · have hv := hv.1 c3
      refine wp_iinc hb rfl (y := v5 + nI 1) rfl rfl dX5_setAt_39 ?_
      refine wp_goto hb (t := 6) ⟨rfl, rfl⟩ dX5_setAt_42 ?_
      exact wp_for (mm_ls_k (mm_ls_k (mm_ls_k (mm_ls_k (mm_ls_k (mm_ls_k mm_ls_nil)))))) hv
    · have hv := hv.2 c3
      refine wp_iload hb rfl dX5_setAt_27 ?_
      refine wp_iinc hb rfl (y := v4 + nI 1) rfl rfl dX5_setAt_29 ?_
      refine wp_iload_n hb rfl dX5_setAt_32 ?_
      refine wp_icmp_ne hb (t := 39) ⟨rfl, rfl⟩ dX5_setAt_33 ⟨fun c4 => ?_, fun c4 => ?_⟩
      · have hv := hv.1 c4
        refine wp_iinc hb rfl (y := v5 + nI 1) rfl rfl dX5_setAt_39 ?_
        refine wp_goto hb (t := 6) ⟨rfl, rfl⟩ dX5_setAt_42 ?_
        exact wp_for (mm_ls_k (mm_ls_k (mm_ls_k (mm_ls_k (mm_ls_k (mm_ls_k mm_ls_nil)))))) hv
      · have hv := hv.2 c4
        refine wp_iload hb rfl dX5_setAt_36 ?_
        exact wp_retI hb rfl dX5_setAt_38 hv
set_option maxRecDepth 100000 in
theorem v_X5_greatestOf {d sn : Nat} {v1 : Int32} {v2 : Int32} {m : mm_Mem} {P : Int32 → mm_Mem → Prop} 
    (hv : mm_wp d sn kX5_greatestOf 8 [some (.ref 59), some (.int v1), some (.int v2), some (.int ((nI 256) - (nI 1)))] [] m (qI P)) :
    mm_sp (d + 1) sn kX5_greatestOf [.ref 59, .int v1, .int v2] m (qI P) := by
  have hb := mb_56
  refine wp_in (la := [some (.ref 59), some (.int v1), some (.int v2), none]) ⟨⟨Nat.le_of_ble_eq_true rfl, by decide, by decide⟩, rfl⟩ ?_
  refine wp_aload_n hb rfl dX5_greatestOf_0 ?_
  refine wp_getR hb ko_56 lf_5_9 (by decide) m0_59 r0_59_0 dX5_greatestOf_1 ?_
  refine wp_alen hb (x := nI 256) m0_60 (by decide) rfl dX5_greatestOf_4 ?_
  refine wp_iconst hb (x := nI 1) rfl dX5_greatestOf_5 ?_
  refine wp_isub hb dX5_greatestOf_6 ?_
  refine wp_istore_n hb rfl dX5_greatestOf_7 ?_
  exact wp_for (mm_ls_k (mm_ls_k (mm_ls_k (mm_ls_k mm_ls_nil)))) hv
set_option maxRecDepth 100000 in
theorem v_X5_greatestOf_8 {d sn : Nat} {v1 : Int32} {v2 : Int32} {v3 : Int32} {m : mm_Mem} {P : Int32 → mm_Mem → Prop} 
    (hv : ((v3 < 0) → (P (-5) m)) ∧ (¬ (v3 < 0) → (mm_sp d sn kX5_holds [.ref 59, .int v1, .int v2, .int v3] m (qI fun x2 m1 => ((x2 = 0) → (mm_wp d sn kX5_greatestOf 8 [some (.ref 59), some (.int v1), some (.int v2), some (.int (v3 + (-1)))] [] m1 (qI P))) ∧ (¬ (x2 = 0) → (P v3 m1)))))) :
    mm_wp d sn kX5_greatestOf 8 [some (.ref 59), some (.int v1), some (.int v2), some (.int v3)] [] m (qI P) := by
  have hb := mb_56
  refine wp_iload_n hb rfl dX5_greatestOf_8 ?_
  refine wp_if_lt hb (y := 0) (t := 30) ⟨rfl, rfl⟩ dX5_greatestOf_9 ⟨fun c1 => ?_, fun c1 => ?_⟩
  · have hv := hv.1 c1
    refine wp_bipush hb (x := (-5)) rfl dX5_greatestOf_30 ?_
    exact wp_retI hb rfl dX5_greatestOf_32 hv
  · have hv := hv.2 c1
    refine wp_aload_n hb rfl dX5_greatestOf_12 ?_
    refine wp_iload_n hb rfl dX5_greatestOf_13 ?_
    refine wp_iload_n hb rfl dX5_greatestOf_14 ?_
    refine wp_iload_n hb rfl dX5_greatestOf_15 ?_
    refine wp_callV hb (k' := 54) ko_56 lm_5_66 rfl m0_59 (by decide) (Nat.le_of_ble_eq_true rfl) dX5_greatestOf_16 (sp_cI (hv.I (Nat.le_refl _) ?_))
    intro x2 m1 hv
    refine wp_if_eq hb (y := 0) (t := 24) ⟨rfl, rfl⟩ dX5_greatestOf_19 ⟨fun c3 => ?_, fun c3 => ?_⟩
    · have hv := hv.1 c3
      refine wp_iinc hb rfl (y := v3 + (-1)) (congrArg (fun z => v3 + z) (by decide : Int32.ofInt (-1) = (-1))) rfl dX5_greatestOf_24 ?_
      refine wp_goto hb (t := 8) ⟨rfl, rfl⟩ dX5_greatestOf_27 ?_
      exact wp_for (mm_ls_k (mm_ls_k (mm_ls_k (mm_ls_k mm_ls_nil)))) hv
    · have hv := hv.2 c3
      refine wp_iload_n hb rfl dX5_greatestOf_22 ?_
      exact wp_retI hb rfl dX5_greatestOf_23 hv
set_option maxRecDepth 100000 in
theorem v_X5_setsIn {d sn : Nat} {v1 : Int32} {v2 : Int32} {m : mm_Mem} {P : Int32 → mm_Mem → Prop} 
    (hv : mm_sp d sn kX5_setsAround [.ref 59, .int v1, .int v2, .int (nI 0)] m (qI fun x1 m1 => P x1 m1)) :
    mm_sp (d + 1) sn kX5_setsIn [.ref 59, .int v1, .int v2] m (qI P) := by
  have hb := mb_57
  refine wp_in (la := [some (.ref 59), some (.int v1), some (.int v2)]) ⟨⟨Nat.le_of_ble_eq_true rfl, by decide, by decide⟩, rfl⟩ ?_
  refine wp_aload_n hb rfl dX5_setsIn_0 ?_
  refine wp_iload_n hb rfl dX5_setsIn_1 ?_
  refine wp_iload_n hb rfl dX5_setsIn_2 ?_
  refine wp_iconst hb (x := nI 0) rfl dX5_setsIn_3 ?_
  refine wp_callV hb (k' := 58) ko_57 lm_5_70 rfl m0_59 (by decide) (Nat.le_of_ble_eq_true rfl) dX5_setsIn_4 (sp_cI (hv.I (Nat.le_refl _) ?_))
  intro x1 m1 hv
  exact wp_retI hb rfl dX5_setsIn_7 hv
set_option maxRecDepth 100000 in
theorem v_X5_setsAround {d sn : Nat} {v1 : Int32} {v2 : Int32} {v3 : Int32} {m : mm_Mem} {P : Int32 → mm_Mem → Prop} 
    (hv : mm_wp d sn kX5_setsAround 6 [some (.ref 59), some (.int v1), some (.int v2), some (.int v3), some (.int (nI 0)), some (.int (nI 0))] [] m (qI P)) :
    mm_sp (d + 1) sn kX5_setsAround [.ref 59, .int v1, .int v2, .int v3] m (qI P) := by
  have hb := mb_58
  refine wp_in (la := [some (.ref 59), some (.int v1), some (.int v2), some (.int v3), none, none]) ⟨⟨Nat.le_of_ble_eq_true rfl, by decide, by decide⟩, rfl⟩ ?_
  refine wp_iconst hb (x := nI 0) rfl dX5_setsAround_0 ?_
  refine wp_istore hb rfl dX5_setsAround_1 ?_
  refine wp_iconst hb (x := nI 0) rfl dX5_setsAround_3 ?_
  refine wp_istore hb rfl dX5_setsAround_4 ?_
  exact wp_for (mm_ls_k (mm_ls_k (mm_ls_k (mm_ls_k (mm_ls_k (mm_ls_k mm_ls_nil)))))) hv
set_option maxRecDepth 100000 in
theorem v_X5_setsAround_6 {d sn : Nat} {v1 : Int32} {v2 : Int32} {v3 : Int32} {v4 : Int32} {v5 : Int32} {m : mm_Mem} {P : Int32 → mm_Mem → Prop} 
    (hv : ((nI 256 ≤ v5) → (P v4 m)) ∧ (¬ (nI 256 ≤ v5) → (mm_sp d sn kX5_holds [.ref 59, .int v1, .int v2, .int v5] m (qI fun x2 m1 => ((x2 = 0) → (mm_wp d sn kX5_setsAround 6 [some (.ref 59), some (.int v1), some (.int v2), some (.int v3), some (.int v4), some (.int (v5 + nI 1))] [] m1 (qI P))) ∧ (¬ (x2 = 0) → (((¬ v5 &&& v3 = v3) → (mm_wp d sn kX5_setsAround 6 [some (.ref 59), some (.int v1), some (.int v2), some (.int v3), some (.int v4), some (.int (v5 + nI 1))] [] m1 (qI P))) ∧ (¬ (¬ v5 &&& v3 = v3) → (mm_wp d sn kX5_setsAround 6 [some (.ref 59), some (.int v1), some (.int v2), some (.int v3), some (.int (v4 + nI 1)), some (.int (v5 + nI 1))] [] m1 (qI P))))))))) :
    mm_wp d sn kX5_setsAround 6 [some (.ref 59), some (.int v1), some (.int v2), some (.int v3), some (.int v4), some (.int v5)] [] m (qI P) := by
  have hb := mb_58
  refine wp_iload hb rfl dX5_setsAround_6 ?_
  refine wp_aload_n hb rfl dX5_setsAround_8 ?_
  refine wp_getR hb ko_58 lf_5_9 (by decide) m0_59 r0_59_0 dX5_setsAround_9 ?_
  refine wp_alen hb (x := nI 256) m0_60 (by decide) rfl dX5_setsAround_12 ?_
  refine wp_icmp_ge hb (t := 44) ⟨rfl, rfl⟩ dX5_setsAround_13 ⟨fun c1 => ?_, fun c1 => ?_⟩
  · have hv := hv.1 c1
    refine wp_iload hb rfl dX5_setsAround_44 ?_
    exact wp_retI hb rfl dX5_setsAround_46 hv
  · have hv := hv.2 c1
    refine wp_aload_n hb rfl dX5_setsAround_16 ?_
    refine wp_iload_n hb rfl dX5_setsAround_17 ?_
    refine wp_iload_n hb rfl dX5_setsAround_18 ?_
    refine wp_iload hb rfl dX5_setsAround_19 ?_
    refine wp_callV hb (k' := 54) ko_58 lm_5_66 rfl m0_59 (by decide) (Nat.le_of_ble_eq_true rfl) dX5_setsAround_21 (sp_cI (hv.I (Nat.le_refl _) ?_))
    intro x2 m1 hv
    refine wp_if_eq hb (y := 0) (t := 38) ⟨rfl, rfl⟩ dX5_setsAround_24 ⟨fun c3 => ?_, fun c3 => ?_⟩
    · have hv := hv.1 c3
      refine wp_iinc hb rfl (y := v5 + nI 1) rfl rfl dX5_setsAround_38 ?_
      refine wp_goto hb (t := 6) ⟨rfl, rfl⟩ dX5_setsAround_41 ?_
      exact wp_for (mm_ls_k (mm_ls_k (mm_ls_k (mm_ls_k (mm_ls_k (mm_ls_k mm_ls_nil)))))) hv
    · have hv := hv.2 c3
      refine wp_iload hb rfl dX5_setsAround_27 ?_
      refine wp_iload_n hb rfl dX5_setsAround_29 ?_
      refine wp_iand hb dX5_setsAround_30 ?_
      refine wp_iload_n hb rfl dX5_setsAround_31 ?_
      refine wp_icmp_ne hb (t := 38) ⟨rfl, rfl⟩ dX5_setsAround_32 ⟨fun c4 => ?_, fun c4 => ?_⟩
      · have hv := hv.1 c4
        refine wp_iinc hb rfl (y := v5 + nI 1) rfl rfl dX5_setsAround_38 ?_
        refine wp_goto hb (t := 6) ⟨rfl, rfl⟩ dX5_setsAround_41 ?_
        exact wp_for (mm_ls_k (mm_ls_k (mm_ls_k (mm_ls_k (mm_ls_k (mm_ls_k mm_ls_nil)))))) hv
      · have hv := hv.2 c4
        refine wp_iinc hb rfl (y := v4 + nI 1) rfl rfl dX5_setsAround_35 ?_
        refine wp_iinc hb rfl (y := v5 + nI 1) rfl rfl dX5_setsAround_38 ?_
        refine wp_goto hb (t := 6) ⟨rfl, rfl⟩ dX5_setsAround_41 ?_
        exact wp_for (mm_ls_k (mm_ls_k (mm_ls_k (mm_ls_k (mm_ls_k (mm_ls_k mm_ls_nil)))))) hv
