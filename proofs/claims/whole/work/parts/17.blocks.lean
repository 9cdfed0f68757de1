set_option maxRecDepth 100000 in
theorem v_X0_becomeEmpty {d sn : Nat} {a0 : Nat} {v1 : Int32} {m : mm_Mem} {P : mm_Mem → Prop} (ha0 : shB a0) 
    (hv : ∀ m1 : mm_Mem, m1 = (mm_u2 m.1 a0 0 v1, m.2) → (∀ m2 : mm_Mem, m2 = (mm_u2 m1.1 a0 1 (nI 0), m1.2) → (mm_wp d sn kX0_becomeEmpty 12 [some (.ref a0), none, some (.int (nI 0))] [] m2 (qV P)))) :
    mm_sp (d + 1) sn kX0_becomeEmpty [.ref a0, .int v1] m (qV P) := by
  have hb := mb_1
  refine wp_in (la := [some (.ref a0), some (.int v1), none]) ⟨⟨Nat.le_of_ble_eq_true rfl, by decide, by decide⟩, rfl⟩ ?_
  refine wp_aload_n hb rfl dX0_becomeEmpty_0 ?_
  refine wp_iload_n hb rfl dX0_becomeEmpty_1 ?_
  refine wp_putI hb ko_1 lf_0_9 (by decide) (ha0.2.1 _) dX0_becomeEmpty_2 ?_
  have hv := hv _ rfl
  generalize (mm_u2 m.1 a0 0 v1, m.2) = m1 at hv ⊢
  refine wp_aload_n hb rfl dX0_becomeEmpty_5 ?_
  refine wp_iconst hb (x := nI 0) rfl dX0_becomeEmpty_6 ?_
  refine wp_putI hb ko_1 lf_0_15 (by decide) (ha0.2.1 _) dX0_becomeEmpty_7 ?_
  have hv := hv _ rfl
  generalize (mm_u2 m1.1 a0 1 (nI 0), m1.2) = m2 at hv ⊢
  refine wp_iconst hb (x := nI 0) rfl dX0_becomeEmpty_10 ?_
  refine wp_istore_n hb rfl dX0_becomeEmpty_11 ?_
  exact wp_for (mm_ls_k (mm_ls_f (mm_ls_k mm_ls_nil))) hv
set_option maxRecDepth 100000 in
theorem v_X0_becomeEmpty_12 {d sn : Nat} {a0 : Nat} {v2 : Int32} {m : mm_Mem} {P : mm_Mem → Prop} (ha0 : shB a0) 
    (hv : ((nI 256 ≤ v2) → (P m)) ∧ (¬ (nI 256 ≤ v2) → (vp_in v2 256 ∧ (∀ m1 : mm_Mem, m1 = (mm_u2 m.1 (a0 + 1) v2.toNatClampNeg (vp_nar .boolean (nI 0)), m.2) → (mm_wp d sn kX0_becomeEmpty 12 [some (.ref a0), none, some (.int (v2 + nI 1))] [] m1 (qV P)))))) :
    mm_wp d sn kX0_becomeEmpty 12 [some (.ref a0), none, some (.int v2)] [] m (qV P) := by
  have hb := mb_1
  refine wp_iload_n hb rfl dX0_becomeEmpty_12 ?_
  refine wp_aload_n hb rfl dX0_becomeEmpty_13 ?_
  refine wp_getR hb ko_1 lf_0_18 (by decide) (ha0.2.1 _) ha0.1 dX0_becomeEmpty_14 ?_
  refine wp_alen hb (x := nI 256) (ha0.2.2.2 _) (by decide) rfl dX0_becomeEmpty_17 ?_
  refine wp_icmp_ge hb (t := 34) ⟨rfl, rfl⟩ dX0_becomeEmpty_18 ⟨fun c1 => ?_, fun c1 => ?_⟩
  · have hv := hv.1 c1
    exact wp_retV hb rfl dX0_becomeEmpty_34 hv
  · have hv := hv.2 c1
    refine wp_aload_n hb rfl dX0_becomeEmpty_21 ?_
    refine wp_getR hb ko_1 lf_0_18 (by decide) (ha0.2.1 _) ha0.1 dX0_becomeEmpty_22 ?_
    refine wp_iload_n hb rfl dX0_becomeEmpty_25 ?_
    refine wp_iconst hb (x := nI 0) rfl dX0_becomeEmpty_26 ?_
    obtain ⟨q2, hv⟩ := hv
    refine wp_bastore hb rfl (ha0.2.2.2 _) ha0.2.2.1 q2 dX0_becomeEmpty_27 ?_
    have hv := hv _ rfl
    generalize (mm_u2 m.1 (a0 + 1) v2.toNatClampNeg (vp_nar .boolean (nI 0)), m.2) = m1 at hv ⊢
    refine wp_iinc hb rfl (y := v2 + nI 1) rfl rfl dX0_becomeEmpty_28 ?_
    refine wp_goto hb (t := 12) ⟨rfl, rfl⟩ dX0_becomeEmpty_31 ?_
    exact wp_for (mm_ls_k (mm_ls_k (mm_ls_k mm_ls_nil))) hv
set_option maxRecDepth 100000 in
theorem v_X0_copyFrom {d sn : Nat} {a0 : Nat} {a1 : Nat} {m : mm_Mem} {P : mm_Mem → Prop} (ha0 : shB a0) (ha1 : shB a1) 
    (hv : ∀ m1 : mm_Mem, m1 = (mm_u2 m.1 a0 0 (m.1 a1 0), m.2) → (∀ m2 : mm_Mem, m2 = (mm_u2 m1.1 a0 1 (m1.1 a1 1), m1.2) → (mm_wp d sn kX0_copyFrom 18 [some (.ref a0), some (.ref a1), some (.int (nI 0))] [] m2 (qV P)))) :
    mm_sp (d + 1) sn kX0_copyFrom [.ref a0, .ref a1] m (qV P) := by
  have hb := mb_2
  refine wp_in (la := [some (.ref a0), some (.ref a1), none]) ⟨⟨Nat.le_of_ble_eq_true rfl, by decide, by decide⟩, rfl⟩ ?_
  refine wp_aload_n hb rfl dX0_copyFrom_0 ?_
  refine wp_aload_n hb rfl dX0_copyFrom_1 ?_
  refine wp_getI hb ko_2 lf_0_9 (by decide) (ha1.2.1 _) dX0_copyFrom_2 ?_
  refine wp_putI hb ko_2 lf_0_9 (by decide) (ha0.2.1 _) dX0_copyFrom_5 ?_
  have hv := hv _ rfl
  generalize (mm_u2 m.1 a0 0 (m.1 a1 0), m.2) = m1 at hv ⊢
  refine wp_aload_n hb rfl dX0_copyFrom_8 ?_
  refine wp_aload_n hb rfl dX0_copyFrom_9 ?_
  refine wp_getI hb ko_2 lf_0_15 (by decide) (ha1.2.1 _) dX0_copyFrom_10 ?_
  refine wp_putI hb ko_2 lf_0_15 (by decide) (ha0.2.1 _) dX0_copyFrom_13 ?_
  have hv := hv _ rfl
  generalize (mm_u2 m1.1 a0 1 (m1.1 a1 1), m1.2) = m2 at hv ⊢
  refine wp_iconst hb (x := nI 0) rfl dX0_copyFrom_16 ?_
  refine wp_istore_n hb rfl dX0_copyFrom_17 ?_
  exact wp_for (mm_ls_k (mm_ls_k (mm_ls_k mm_ls_nil))) hv
set_option maxRecDepth 100000 in
theorem v_X0_copyFrom_18 {d sn : Nat} {a0 : Nat} {a1 : Nat} {v2 : Int32} {m : mm_Mem} {P : mm_Mem → Prop} (ha0 : shB a0) (ha1 : shB a1) 
    (hv : ((nI 256 ≤ v2) → (P m)) ∧ (¬ (nI 256 ≤ v2) → (mm_sp d sn kX0_has [.ref a1, .int v2] m (qI fun x2 m1 => vp_in v2 256 ∧ (∀ m2 : mm_Mem, m2 = (mm_u2 m1.1 (a0 + 1) v2.toNatClampNeg (vp_nar .boolean x2), m1.2) → (mm_wp d sn kX0_copyFrom 18 [some (.ref a0), some (.ref a1), some (.int (v2 + nI 1))] [] m2 (qV P))))))) :
    mm_wp d sn kX0_copyFrom 18 [some (.ref a0), some (.ref a1), some (.int v2)] [] m (qV P) := by
  have hb := mb_2
  refine wp_iload_n hb rfl dX0_copyFrom_18 ?_
  refine wp_aload_n hb rfl dX0_copyFrom_19 ?_
  refine wp_getR hb ko_2 lf_0_18 (by decide) (ha0.2.1 _) ha0.1 dX0_copyFrom_20 ?_
  refine wp_alen hb (x := nI 256) (ha0.2.2.2 _) (by decide) rfl dX0_copyFrom_23 ?_
  refine wp_icmp_ge hb (t := 44) ⟨rfl, rfl⟩ dX0_copyFrom_24 ⟨fun c1 => ?_, fun c1 => ?_⟩
  · have hv := hv.1 c1
    exact wp_retV hb rfl dX0_copyFrom_44 hv
  · have hv := hv.2 c1
    refine wp_aload_n hb rfl dX0_copyFrom_27 ?_
    refine wp_getR hb ko_2 lf_0_18 (by decide) (ha0.2.1 _) ha0.1 dX0_copyFrom_28 ?_
    refine wp_iload_n hb rfl dX0_copyFrom_31 ?_
    refine wp_aload_n hb rfl dX0_copyFrom_32 ?_
    refine wp_iload_n hb rfl dX0_copyFrom_33 ?_
    refine wp_callV hb (k' := 5) ko_2 lm_0_22 rfl (ha1.2.1 _) (by decide) (Nat.le_of_ble_eq_true rfl) dX0_copyFrom_34 (sp_cI (hv.I (Nat.le_refl _) ?_))
    intro x2 m1 hv
    obtain ⟨q3, hv⟩ := hv
    refine wp_bastore hb rfl (ha0.2.2.2 _) ha0.2.2.1 q3 dX0_copyFrom_37 ?_
    have hv := hv _ rfl
    generalize (mm_u2 m1.1 (a0 + 1) v2.toNatClampNeg (vp_nar .boolean x2), m1.2) = m2 at hv ⊢
    refine wp_iinc hb rfl (y := v2 + nI 1) rfl rfl dX0_copyFrom_38 ?_
    refine wp_goto hb (t := 18) ⟨rfl, rfl⟩ dX0_copyFrom_41 ?_
    exact wp_for (mm_ls_k (mm_ls_k (mm_ls_k mm_ls_nil))) hv
set_option maxRecDepth 100000 in
theorem v_X0_becomeChoice {d sn : Nat} {a0 : Nat} {v2 : Int32} {v3 : Int32} {m : mm_Mem} {P : mm_Mem → Prop} (ha0 : shB a0) 
    (hv : mm_sp d sn kX0_becomeEmpty [.ref a0, .int v2] m (qV fun m1 => mm_wp d sn kX0_becomeChoice 8 [some (.ref a0), some (.ref 59), some (.int v2), some (.int v3), some (.int (nI 0)), none, none] [] m1 (qV P))) :
    mm_sp (d + 1) sn kX0_becomeChoice [.ref a0, .ref 59, .int v2, .int v3] m (qV P) := by
  have hb := mb_3
  refine wp_in (la := [some (.ref a0), some (.ref 59), some (.int v2), some (.int v3), none, none, none]) ⟨⟨Nat.le_of_ble_eq_true rfl, by decide, by decide⟩, rfl⟩ ?_
  refine wp_aload_n hb rfl dX0_becomeChoice_0 ?_
  refine wp_iload_n hb rfl dX0_becomeChoice_1 ?_
  refine wp_callV hb (k' := 1) ko_3 lm_0_26 rfl (ha0.2.1 _) (by decide) (Nat.le_of_ble_eq_true rfl) dX0_becomeChoice_2 (sp_cV (hv.V (Nat.le_refl _) ?_))
  intro m1 hv
  refine wp_iconst hb (x := nI 0) rfl dX0_becomeChoice_5 ?_
  refine wp_istore hb rfl dX0_becomeChoice_6 ?_
  exact wp_for (mm_ls_k (mm_ls_k (mm_ls_k (mm_ls_k (mm_ls_k (mm_ls_k (mm_ls_k mm_ls_nil))))))) hv
set_option maxRecDepth 100000 in
theorem v_X0_becomeChoice_8 {d sn : Nat} {a0 : Nat} {v2 : Int32} {v3 : Int32} {v4 : Int32} {m : mm_Mem} {P : mm_Mem → Prop} (ha0 : shB a0) 
    (hv : ((nI 256 ≤ v4) → (P m)) ∧ (¬ (nI 256 ≤ v4) → (mm_sp d sn kX5_numberOf [.ref 59, .int v4] m (qI fun x2 m1 => ((x2 < 0) → (mm_wp d sn kX0_becomeChoice 8 [some (.ref a0), some (.ref 59), some (.int v2), some (.int v3), some (.int (v4 + nI 1)), none, none] [] m1 (qV P))) ∧ (¬ (x2 < 0) → (((nI 31 ≤ x2) → (mm_wp d sn kX0_becomeChoice 8 [some (.ref a0), some (.ref 59), some (.int v2), some (.int v3), some (.int (v4 + nI 1)), none, none] [] m1 (qV P))) ∧ (¬ (nI 31 ≤ x2) → (((¬ (mm_shr v3 x2) &&& (nI 1) = nI 1) → (mm_wp d sn kX0_becomeChoice 8 [some (.ref a0), some (.ref 59), some (.int v2), some (.int v3), some (.int (v4 + nI 1)), none, none] [] m1 (qV P))) ∧ (¬ (¬ (mm_shr v3 x2) &&& (nI 1) = nI 1) → (mm_sp d sn kJ6_bitCount_0f7a4 [.int v4] m1 (qI fun x6 m2 => ((¬ x6 = v2) → (mm_wp d sn kX0_becomeChoice 8 [some (.ref a0), some (.ref 59), some (.int v2), some (.int v3), some (.int (v4 + nI 1)), none, none] [] m2 (qV P))) ∧ (¬ (¬ x6 = v2) → (mm_sp d sn kX0_put [.ref a0, .int v4, .int (nI 1)] m2 (qV fun m3 => mm_wp d sn kX0_becomeChoice 8 [some (.ref a0), some (.ref 59), some (.int v2), some (.int v3), some (.int (v4 + nI 1)), none, none] [] m3 (qV P))))))))))))))) :
    mm_wp d sn kX0_becomeChoice 8 [some (.ref a0), some (.ref 59), some (.int v2), some (.int v3), some (.int v4), none, none] [] m (qV P) := by
  have hb := mb_3
  refine wp_iload hb rfl dX0_becomeChoice_8 ?_
  refine wp_aload_n hb rfl dX0_becomeChoice_10 ?_
  refine wp_getR hb ko_3 lf_0_18 (by decide) (ha0.2.1 _) ha0.1 dX0_becomeChoice_11 ?_
  refine wp_alen hb (x := nI 256) (ha0.2.2.2 _) (by decide) rfl dX0_becomeChoice_14 ?_
  refine wp_icmp_ge hb (t := 82) ⟨rfl, rfl⟩ dX0_becomeChoice_15 ⟨fun c1 => ?_, fun c1 => ?_⟩
  · have hv := hv.1 c1
    exact wp_retV hb rfl dX0_becomeChoice_82 hv
  · have hv := hv.2 c1
    refine wp_aload_n hb rfl dX0_becomeChoice_18 ?_
    refine wp_iload hb rfl dX0_becomeChoice_19 ?_
    refine wp_callV hb (k' := 53) ko_3 lm_0_30 rfl m0_59 (by decide) (Nat.le_of_ble_eq_true rfl) dX0_becomeChoice_21 (sp_cI (hv.I (Nat.le_refl _) ?_))
    intro x2 m1 hv
    refine wp_istore hb rfl dX0_becomeChoice_24 ?_
    refine wp_iload hb rfl dX0_becomeChoice_26 ?_
    refine wp_if_lt hb (y := 0) (t := 52) ⟨rfl, rfl⟩ dX0_becomeChoice_28 ⟨fun c3 => ?_, fun c3 => ?_⟩
    · have hv := hv.1 c3
      refine wp_iconst hb (x := nI 0) rfl dX0_becomeChoice_52 ?_
      refine wp_istore hb rfl dX0_becomeChoice_53 ?_
      refine wp_iload hb rfl dX0_becomeChoice_55 ?_
      refine wp_if_eq hb (y := 0) (t := 76) ⟨rfl, rfl⟩ dX0_becomeChoice_57 ⟨fun _ => ?_, fun c => absurd (by decide) c⟩
      refine wp_iinc hb rfl (y := v4 + nI 1) rfl rfl dX0_becomeChoice_76 ?_
      refine wp_goto hb (t := 8) ⟨rfl, rfl⟩ dX0_becomeChoice_79 ?_
      exact wp_for (mm_ls_k (mm_ls_k (mm_ls_k (mm_ls_k (mm_ls_k (mm_ls_f (mm_ls_f mm_ls_nil))))))) hv
    · have hv := hv.2 c3
      refine wp_iload hb rfl dX0_becomeChoice_31 ?_
      refine wp_bipush hb (x := nI 31) rfl dX0_becomeChoice_33 ?_
      refine wp_icmp_ge hb (t := 52) ⟨rfl, rfl⟩ dX0_becomeChoice_35 ⟨fun c4 => ?_, fun c4 => ?_⟩
      · have hv := hv.1 c4
        refine wp_iconst hb (x := nI 0) rfl dX0_becomeChoice_52 ?_
        refine wp_istore hb rfl dX0_becomeChoice_53 ?_
        refine wp_iload hb rfl dX0_becomeChoice_55 ?_
        refine wp_if_eq hb (y := 0) (t := 76) ⟨rfl, rfl⟩ dX0_becomeChoice_57 ⟨fun _ => ?_, fun c => absurd (by decide) c⟩
        refine wp_iinc hb rfl (y := v4 + nI 1) rfl rfl dX0_becomeChoice_76 ?_
        refine wp_goto hb (t := 8) ⟨rfl, rfl⟩ dX0_becomeChoice_79 ?_
        exact wp_for (mm_ls_k (mm_ls_k (mm_ls_k (mm_ls_k (mm_ls_k (mm_ls_f (mm_ls_f mm_ls_nil))))))) hv
      · have hv := hv.2 c4
        refine wp_iload_n hb rfl dX0_becomeChoice_38 ?_
        refine wp_iload hb rfl dX0_becomeChoice_39 ?_
        refine wp_ishr hb dX0_becomeChoice_41 ?_
        refine wp_iconst hb (x := nI 1) rfl dX0_becomeChoice_42 ?_
        refine wp_iand hb dX0_becomeChoice_43 ?_
        refine wp_iconst hb (x := nI 1) rfl dX0_becomeChoice_44 ?_
        refine wp_icmp_ne hb (t := 52) ⟨rfl, rfl⟩ dX0_becomeChoice_45 ⟨fun c5 => ?_, fun c5 => ?_⟩
        · have hv := hv.1 c5
          refine wp_iconst hb (x := nI 0) rfl dX0_becomeChoice_52 ?_
          refine wp_istore hb rfl dX0_becomeChoice_53 ?_
          refine wp_iload hb rfl dX0_becomeChoice_55 ?_
          refine wp_if_eq hb (y := 0) (t := 76) ⟨rfl, rfl⟩ dX0_becomeChoice_57 ⟨fun _ => ?_, fun c => absurd (by decide) c⟩
          refine wp_iinc hb rfl (y := v4 + nI 1) rfl rfl dX0_becomeChoice_76 ?_
          refine wp_goto hb (t := 8) ⟨rfl, rfl⟩ dX0_becomeChoice_79 ?_
          exact wp_for (mm_ls_k (mm_ls_k (mm_ls_k (mm_ls_k (mm_ls_k (mm_ls_f (mm_ls_f mm_ls_nil))))))) hv
        · have hv := hv.2 c5
          refine wp_iconst hb (x := nI 1) rfl dX0_becomeChoice_48 ?_
          refine wp_goto hb (t := 53) ⟨rfl, rfl⟩ dX0_becomeChoice_49 ?_
          refine wp_istore hb rfl dX0_becomeChoice_53 ?_
          refine wp_iload hb rfl dX0_becomeChoice_55 ?_
          refine wp_if_eq hb (y := 0) (t := 76) ⟨rfl, rfl⟩ dX0_becomeChoice_57 ⟨fun c => absurd c (by decide), fun _ => ?_⟩
          refine wp_iload hb rfl dX0_becomeChoice_60 ?_
          refine wp_callS hb (k' := 227) ko_3 lm_0_36 (by decide) rfl (Nat.le_of_ble_eq_true rfl) dX0_becomeChoice_62 (sp_cI (hv.I (Nat.le_refl _) ?_))
          intro x6 m2 hv
          refine wp_iload_n hb rfl dX0_becomeChoice_65 ?_
          refine wp_icmp_ne hb (t := 76) ⟨rfl, rfl⟩ dX0_becomeChoice_66 ⟨fun c7 => ?_, fun c7 => ?_⟩
          · have hv := hv.1 c7
            refine wp_iinc hb rfl (y := v4 + nI 1) rfl rfl dX0_becomeChoice_76 ?_
            refine wp_goto hb (t := 8) ⟨rfl, rfl⟩ dX0_becomeChoice_79 ?_
            exact wp_for (mm_ls_k (mm_ls_k (mm_ls_k (mm_ls_k (mm_ls_k (mm_ls_f (mm_ls_f mm_ls_nil))))))) hv
          · have hv := hv.2 c7
            refine wp_aload_n hb rfl dX0_becomeChoice_69 ?_
            refine wp_iload hb rfl dX0_becomeChoice_70 ?_
            refine wp_iconst hb (x := nI 1) rfl dX0_becomeChoice_72 ?_
            refine wp_callV hb (k' := 6) ko_3 lm_0_41 rfl (ha0.2.1 _) (by decide) (Nat.le_of_ble_eq_true rfl) dX0_becomeChoice_73 (sp_cV (hv.V (Nat.le_refl _) ?_))
            intro m3 hv
            refine wp_iinc hb rfl (y := v4 + nI 1) rfl rfl dX0_becomeChoice_76 ?_
            refine wp_goto hb (t := 8) ⟨rfl, rfl⟩ dX0_becomeChoice_79 ?_
            exact wp_for (mm_ls_k (mm_ls_k (mm_ls_k (mm_ls_k (mm_ls_k (mm_ls_f (mm_ls_f mm_ls_nil))))))) hv
set_option maxRecDepth 100000 in
theorem v_X0_becomePart {d sn : Nat} {a0 : Nat} {a1 : Nat} {v2 : Int32} {v3 : Int32} {m : mm_Mem} {P : mm_Mem → Prop} (ha0 : shB a0) (ha1 : shB a1) 
    (hv : ((v3 = 0) → (mm_sp d sn kX0_becomeEmpty [.ref a0, .int (m.1 a1 0)] m (qV fun m1 => mm_wp d sn kX0_becomePart 24 [some (.ref a0), some (.ref a1), some (.int v2), some (.int v3), some (.int (nI 0)), none] [] m1 (qV P)))) ∧ (¬ (v3 = 0) → (mm_sp d sn kX0_becomeEmpty [.ref a0, .int ((m.1 a1 0) - (nI 1))] m (qV fun m2 => mm_wp d sn kX0_becomePart 24 [some (.ref a0), some (.ref a1), some (.int v2), some (.int v3), some (.int (nI 0)), none] [] m2 (qV P))))) :
    mm_sp (d + 1) sn kX0_becomePart [.ref a0, .ref a1, .int v2, .int v3] m (qV P) := by
  have hb := mb_4
  refine wp_in (la := [some (.ref a0), some (.ref a1), some (.int v2), some (.int v3), none, none]) ⟨⟨Nat.le_of_ble_eq_true rfl, by decide, by decide⟩, rfl⟩ ?_
  refine wp_aload_n hb rfl dX0_becomePart_0 ?_
  refine wp_iload_n hb rfl dX0_becomePart_1 ?_
  refine wp_if_eq hb (y := 0) (t := 14) ⟨rfl, rfl⟩ dX0_becomePart_2 ⟨fun c1 => ?_, fun c1 => ?_⟩
  · have hv := hv.1 c1
    refine wp_aload_n hb rfl dX0_becomePart_14 ?_
    refine wp_getI hb ko_4 lf_0_9 (by decide) (ha1.2.1 _) dX0_becomePart_15 ?_
    refine wp_callV hb (k' := 1) ko_4 lm_0_26 rfl (ha0.2.1 _) (by decide) (Nat.le_of_ble_eq_true rfl) dX0_becomePart_18 (sp_cV (hv.V (Nat.le_refl _) ?_))
    intro m1 hv
    refine wp_iconst hb (x := nI 0) rfl dX0_becomePart_21 ?_
    refine wp_istore hb rfl dX0_becomePart_22 ?_
    exact wp_for (mm_ls_k (mm_ls_k (mm_ls_k (mm_ls_k (mm_ls_k (mm_ls_k mm_ls_nil)))))) hv
  · have hv := hv.2 c1
    refine wp_aload_n hb rfl dX0_becomePart_5 ?_
    refine wp_getI hb ko_4 lf_0_9 (by decide) (ha1.2.1 _) dX0_becomePart_6 ?_
    refine wp_iconst hb (x := nI 1) rfl dX0_becomePart_9 ?_
    refine wp_isub hb dX0_becomePart_10 ?_
    refine wp_goto hb (t := 18) ⟨rfl, rfl⟩ dX0_becomePart_11 ?_
    refine wp_callV hb (k' := 1) ko_4 lm_0_26 rfl (ha0.2.1 _) (by decide) (Nat.le_of_ble_eq_true rfl) dX0_becomePart_18 (sp_cV (hv.V (Nat.le_refl _) ?_))
    intro m2 hv
    refine wp_iconst hb (x := nI 0) rfl dX0_becomePart_21 ?_
    refine wp_istore hb rfl dX0_becomePart_22 ?_
    exact wp_for (mm_ls_k (mm_ls_k (mm_ls_k (mm_ls_k (mm_ls_k (mm_ls_k mm_ls_nil)))))) hv
set_option maxRecDepth 100000 in
theorem v_X0_becomePart_24 {d sn : Nat} {a0 : Nat} {a1 : Nat} {v2 : Int32} {v3 : Int32} {v4 : Int32} {m : mm_Mem} {P : mm_Mem → Prop} (ha0 : shB a0) (ha1 : shB a1) 
    (hv : ((nI 256 ≤ v4) → (P m)) ∧ (¬ (nI 256 ≤ v4) → (((v4 &&& v2 = 0) → (mm_sp d sn kX0_has [.ref a1, .int v4] m (qI fun x3 m1 => ((x3 = 0) → (mm_wp d sn kX0_becomePart 24 [some (.ref a0), some (.ref a1), some (.int v2), some (.int v3), some (.int (v4 + nI 1)), none] [] m1 (qV P))) ∧ (¬ (x3 = 0) → (((¬ nI 0 = v3) → (mm_wp d sn kX0_becomePart 24 [some (.ref a0), some (.ref a1), some (.int v2), some (.int v3), some (.int (v4 + nI 1)), none] [] m1 (qV P))) ∧ (¬ (¬ nI 0 = v3) → (mm_sp d sn kX0_put [.ref a0, .int (v4 &&& (v2 ^^^ (-1))), .int (nI 1)] m1 (qV fun m2 => mm_wp d sn kX0_becomePart 24 [some (.ref a0), some (.ref a1), some (.int v2), some (.int v3), some (.int (v4 + nI 1)), none] [] m2 (qV P))))))))) ∧ (¬ (v4 &&& v2 = 0) → (mm_sp d sn kX0_has [.ref a1, .int v4] m (qI fun x7 m3 => ((x7 = 0) → (mm_wp d sn kX0_becomePart 24 [some (.ref a0), some (.ref a1), some (.int v2), some (.int v3), some (.int (v4 + nI 1)), none] [] m3 (qV P))) ∧ (¬ (x7 = 0) → (((¬ nI 1 = v3) → (mm_wp d sn kX0_becomePart 24 [some (.ref a0), some (.ref a1), some (.int v2), some (.int v3), some (.int (v4 + nI 1)), none] [] m3 (qV P))) ∧ (¬ (¬ nI 1 = v3) → (mm_sp d sn kX0_put [.ref a0, .int (v4 &&& (v2 ^^^ (-1))), .int (nI 1)] m3 (qV fun m4 => mm_wp d sn kX0_becomePart 24 [some (.ref a0), some (.ref a1), some (.int v2), some (.int v3), some (.int (v4 + nI 1)), none] [] m4 (qV P)))))))))))) :
    mm_wp d sn kX0_becomePart 24 [some (.ref a0), some (.ref a1), some (.int v2), some (.int v3), some (.int v4), none] [] m (qV P) := by
  have hb := mb_4
  refine wp_iload hb rfl dX0_becomePart_24 ?_
  refine wp_aload_n hb rfl dX0_becomePart_26 ?_
  refine wp_getR hb ko_4 lf_0_18 (by decide) (ha0.2.1 _) ha0.1 dX0_becomePart_27 ?_
  refine wp_alen hb (x := nI 256) (ha0.2.2.2 _) (by decide) rfl dX0_becomePart_30 ?_
  refine wp_icmp_ge hb (t := 80) ⟨rfl, rfl⟩ dX0_becomePart_31 ⟨fun c1 => ?_, fun c1 => ?_⟩
  · have hv := hv.1 c1
    exact wp_retV hb rfl dX0_becomePart_80 hv
  · have hv := hv.2 c1
    refine wp_iload hb rfl dX0_becomePart_34 ?_
    refine wp_iload_n hb rfl dX0_becomePart_36 ?_
    refine wp_iand hb dX0_becomePart_37 ?_
    refine wp_if_eq hb (y := 0) (t := 45) ⟨rfl, rfl⟩ dX0_becomePart_38 ⟨fun c2 => ?_, fun c2 => ?_⟩
    · have hv := hv.1 c2
      refine wp_iconst hb (x := nI 0) rfl dX0_becomePart_45 ?_
      refine wp_istore hb rfl dX0_becomePart_46 ?_
      refine wp_aload_n hb rfl dX0_becomePart_48 ?_
      refine wp_iload hb rfl dX0_becomePart_49 ?_
      refine wp_callV hb (k' := 5) ko_4 lm_0_22 rfl (ha1.2.1 _) (by decide) (Nat.le_of_ble_eq_true rfl) dX0_becomePart_51 (sp_cI (hv.I (Nat.le_refl _) ?_))
      intro x3 m1 hv
      refine wp_if_eq hb (y := 0) (t := 74) ⟨rfl, rfl⟩ dX0_becomePart_54 ⟨fun c4 => ?_, fun c4 => ?_⟩
      · have hv := hv.1 c4
        refine wp_iinc hb rfl (y := v4 + nI 1) rfl rfl dX0_becomePart_74 ?_
        refine wp_goto hb (t := 24) ⟨rfl, rfl⟩ dX0_becomePart_77 ?_
        exact wp_for (mm_ls_k (mm_ls_k (mm_ls_k (mm_ls_k (mm_ls_k (mm_ls_f mm_ls_nil)))))) hv
      · have hv := hv.2 c4
        refine wp_iload hb rfl dX0_becomePart_57 ?_
        refine wp_iload_n hb rfl dX0_becomePart_59 ?_
        refine wp_icmp_ne hb (t := 74) ⟨rfl, rfl⟩ dX0_becomePart_60 ⟨fun c5 => ?_, fun c5 => ?_⟩
        · have hv := hv.1 c5
          refine wp_iinc hb rfl (y := v4 + nI 1) rfl rfl dX0_becomePart_74 ?_
          refine wp_goto hb (t := 24) ⟨rfl, rfl⟩ dX0_becomePart_77 ?_
          exact wp_for (mm_ls_k (mm_ls_k (mm_ls_k (mm_ls_k (mm_ls_k (mm_ls_f mm_ls_nil)))))) hv
        · have hv := hv.2 c5
          refine wp_aload_n hb rfl dX0_becomePart_63 ?_
          refine wp_iload hb rfl dX0_becomePart_64 ?_
          refine wp_iload_n hb rfl dX0_becomePart_66 ?_
          refine wp_iconst hb (x := (-1)) rfl dX0_becomePart_67 ?_
          refine wp_ixor hb dX0_becomePart_68 ?_
          refine wp_iand hb dX0_becomePart_69 ?_
          refine wp_iconst hb (x := nI 1) rfl dX0_becomePart_70 ?_
          refine wp_callV hb (k' := 6) ko_4 lm_0_41 rfl (ha0.2.1 _) (by decide) (Nat.le_of_ble_eq_true rfl) dX0_becomePart_71 (sp_cV (hv.V (Nat.le_refl _) ?_))
          intro m2 hv
          refine wp_iinc hb rfl (y := v4 + nI 1) rfl rfl dX0_becomePart_74 ?_
          refine wp_goto hb (t := 24) ⟨rfl, rfl⟩ dX0_becomePart_77 ?_
          exact wp_for (mm_ls_k (mm_ls_k (mm_ls_k (mm_ls_k (mm_ls_k (mm_ls_f mm_ls_nil)))))) hv
    · have hv := hv.2 c2
      refine wp_iconst hb (x := nI 1) rfl dX0_becomePart_41 ?_
      refine wp_goto hb (t := 46) ⟨rfl, rfl⟩ dX0_becomePart_42 ?_
      refine wp_istore hb rfl dX0_becomePart_46 ?_
      refine wp_aload_n hb rfl dX0_becomePart_48 ?_
      refine wp_iload hb rfl dX0_becomePart_49 ?_
      refine wp_callV hb (k' := 5) ko_4 lm_0_22 rfl (ha1.2.1 _) (by decide) (Nat.le_of_ble_eq_true rfl) dX0_becomePart_51 (sp_cI (hv.I (Nat.le_refl _) ?_))
      intro x7 m3 hv
      refine wp_if_eq hb (y := 0) (t := 74) ⟨rfl, rfl⟩ dX0_becomePart_54 ⟨fun c8 => ?_, fun c8 => ?_⟩
      · have hv := hv.1 c8
        refine wp_iinc hb rfl (y := v4 + nI 1) rfl rfl dX0_becomePart_74 ?_
        refine wp_goto hb (t := 24) ⟨rfl, rfl⟩ dX0_becomePart_77 ?_
        exact wp_for (mm_ls_k (mm_ls_k (mm_ls_k (mm_ls_k (mm_ls_k (mm_ls_f mm_ls_nil)))))) hv
      · have hv := hv.2 c8
        refine wp_iload hb rfl dX0_becomePart_57 ?_
        refine wp_iload_n hb rfl dX0_becomePart_59 ?_
        refine wp_icmp_ne hb (t := 74) ⟨rfl, rfl⟩ dX0_becomePart_60 ⟨fun c9 => ?_, fun c9 => ?_⟩
        · have hv := hv.1 c9
          refine wp_iinc hb rfl (y := v4 + nI 1) rfl rfl dX0_becomePart_74 ?_
          refine wp_goto hb (t := 24) ⟨rfl, rfl⟩ dX0_becomePart_77 ?_
          exact wp_for (mm_ls_k (mm_ls_k (mm_ls_k (mm_ls_k (mm_ls_k (mm_ls_f mm_ls_nil)))))) hv
        · have hv := hv.2 c9
          refine wp_aload_n hb rfl dX0_becomePart_63 ?_
          refine wp_iload hb rfl dX0_becomePart_64 ?_
          refine wp_iload_n hb rfl dX0_becomePart_66 ?_
          refine wp_iconst hb (x := (-1)) rfl dX0_becomePart_67 ?_
          refine wp_ixor hb dX0_becomePart_68 ?_
          refine wp_iand hb dX0_becomePart_69 ?_
          refine wp_iconst hb (x := nI 1) rfl dX0_becomePart_70 ?_
          refine wp_callV hb (k' := 6) ko_4 lm_0_41 rfl (ha0.2.1 _) (by decide) (Nat.le_of_ble_eq_true rfl) dX0_becomePart_71 (sp_cV (hv.V (Nat.le_refl _) ?_))
          intro m4 hv
          refine wp_iinc hb rfl (y := v4 + nI 1) rfl rfl dX0_becomePart_74 ?_
          refine wp_goto hb (t := 24) ⟨rfl, rfl⟩ dX0_becomePart_77 ?_
          exact wp_for (mm_ls_k (mm_ls_k (mm_ls_k (mm_ls_k (mm_ls_k (mm_ls_f mm_ls_nil)))))) hv
set_option maxRecDepth 100000 in
theorem v_X0_has {d sn : Nat} {a0 : Nat} {v1 : Int32} {m : mm_Mem} {P : Int32 → mm_Mem → Prop} (ha0 : shB a0) 
    (hv : ((v1 < 0) → (P (nI 0) m)) ∧ (¬ (v1 < 0) → (((nI 256 ≤ v1) → (P (nI 0) m)) ∧ (¬ (nI 256 ≤ v1) → (vp_in v1 256 ∧ (((m.1 (a0 + 1) v1.toNatClampNeg = 0) → (P (nI 0) m)) ∧ (¬ (m.1 (a0 + 1) v1.toNatClampNeg = 0) → (P (nI 1) m)))))))) :
    mm_sp (d + 1) sn kX0_has [.ref a0, .int v1] m (qI P) := by
  have hb := mb_5
  refine wp_in (la := [some (.ref a0), some (.int v1)]) ⟨⟨Nat.le_of_ble_eq_true rfl, by decide, by decide⟩, rfl⟩ ?_
  refine wp_iload_n hb rfl dX0_has_0 ?_
  refine wp_if_lt hb (y := 0) (t := 26) ⟨rfl, rfl⟩ dX0_has_1 ⟨fun c1 => ?_, fun c1 => ?_⟩
  · have hv := hv.1 c1
    refine wp_iconst hb (x := nI 0) rfl dX0_has_26 ?_
    exact wp_retZ hb rfl (by decide) dX0_has_27 hv
  · have hv := hv.2 c1
    refine wp_iload_n hb rfl dX0_has_4 ?_
    refine wp_aload_n hb rfl dX0_has_5 ?_
    refine wp_getR hb ko_5 lf_0_18 (by decide) (ha0.2.1 _) ha0.1 dX0_has_6 ?_
    refine wp_alen hb (x := nI 256) (ha0.2.2.2 _) (by decide) rfl dX0_has_9 ?_
    refine wp_icmp_ge hb (t := 26) ⟨rfl, rfl⟩ dX0_has_10 ⟨fun c2 => ?_, fun c2 => ?_⟩
    · have hv := hv.1 c2
      refine wp_iconst hb (x := nI 0) rfl dX0_has_26 ?_
      exact wp_retZ hb rfl (by decide) dX0_has_27 hv
    · have hv := hv.2 c2
      refine wp_aload_n hb rfl dX0_has_13 ?_
      refine wp_getR hb ko_5 lf_0_18 (by decide) (ha0.2.1 _) ha0.1 dX0_has_14 ?_
      refine wp_iload_n hb rfl dX0_has_17 ?_
      obtain ⟨q3, hv⟩ := hv
      refine wp_baload hb rfl (ha0.2.2.2 _) q3 dX0_has_18 ?_
      refine wp_if_eq hb (y := 0) (t := 26) ⟨rfl, rfl⟩ dX0_has_19 ⟨fun c4 => ?_, fun c4 => ?_⟩
      · have hv := hv.1 c4
        refine wp_iconst hb (x := nI 0) rfl dX0_has_26 ?_
        exact wp_retZ hb rfl (by decide) dX0_has_27 hv
      · have hv := hv.2 c4
        refine wp_iconst hb (x := nI 1) rfl dX0_has_22 ?_
        refine wp_goto hb (t := 27) ⟨rfl, rfl⟩ dX0_has_23 ?_
        exact wp_retZ hb rfl (by decide) dX0_has_27 hv
set_option maxRecDepth 100000 in
theorem v_X0_put {d sn : Nat} {a0 : Nat} {v1 : Int32} {v2 : Int32} {m : mm_Mem} {P : mm_Mem → Prop} (ha0 : shB a0) 
    (hv : ((v1 < 0) → (P m)) ∧ (¬ (v1 < 0) → (((nI 256 ≤ v1) → (P m)) ∧ (¬ (nI 256 ≤ v1) → (vp_in v1 256 ∧ (((¬ m.1 (a0 + 1) v1.toNatClampNeg = v2) → (vp_in v1 256 ∧ (∀ m1 : mm_Mem, m1 = (mm_u2 m.1 (a0 + 1) v1.toNatClampNeg (vp_nar .boolean v2), m.2) → (((v2 = 0) → (∀ m2 : mm_Mem, m2 = (mm_u2 m1.1 a0 1 ((m1.1 a0 1) + (-1)), m1.2) → (P m2))) ∧ (¬ (v2 = 0) → (∀ m3 : mm_Mem, m3 = (mm_u2 m1.1 a0 1 ((m1.1 a0 1) + (nI 1)), m1.2) → (P m3))))))) ∧ (¬ (¬ m.1 (a0 + 1) v1.toNatClampNeg = v2) → (P m)))))))) :
    mm_sp (d + 1) sn kX0_put [.ref a0, .int v1, .int v2] m (qV P) := by
  have hb := mb_6
  refine wp_in (la := [some (.ref a0), some (.int v1), some (.int v2)]) ⟨⟨Nat.le_of_ble_eq_true rfl, by decide, by decide⟩, rfl⟩ ?_
  refine wp_iload_n hb rfl dX0_put_0 ?_
  refine wp_if_lt hb (y := 0) (t := 23) ⟨rfl, rfl⟩ dX0_put_1 ⟨fun c1 => ?_, fun c1 => ?_⟩
  · have hv := hv.1 c1
    exact wp_retV hb rfl dX0_put_23 hv
  · have hv := hv.2 c1
    refine wp_iload_n hb rfl dX0_put_4 ?_
    refine wp_aload_n hb rfl dX0_put_5 ?_
    refine wp_getR hb ko_6 lf_0_18 (by decide) (ha0.2.1 _) ha0.1 dX0_put_6 ?_
    refine wp_alen hb (x := nI 256) (ha0.2.2.2 _) (by decide) rfl dX0_put_9 ?_
    refine wp_icmp_ge hb (t := 23) ⟨rfl, rfl⟩ dX0_put_10 ⟨fun c2 => ?_, fun c2 => ?_⟩
    · have hv := hv.1 c2
      exact wp_retV hb rfl dX0_put_23 hv
    · have hv := hv.2 c2
      refine wp_aload_n hb rfl dX0_put_13 ?_
      refine wp_getR hb ko_6 lf_0_18 (by decide) (ha0.2.1 _) ha0.1 dX0_put_14 ?_
      refine wp_iload_n hb rfl dX0_put_17 ?_
      obtain ⟨q3, hv⟩ := hv
      refine wp_baload hb rfl (ha0.2.2.2 _) q3 dX0_put_18 ?_
      refine wp_iload_n hb rfl dX0_put_19 ?_
      refine wp_icmp_ne hb (t := 24) ⟨rfl, rfl⟩ dX0_put_20 ⟨fun c4 => ?_, fun c4 => ?_⟩
      · have hv := hv.1 c4
        refine wp_aload_n hb rfl dX0_put_24 ?_
        refine wp_getR hb ko_6 lf_0_18 (by decide) (ha0.2.1 _) ha0.1 dX0_put_25 ?_
        refine wp_iload_n hb rfl dX0_put_28 ?_
        refine wp_iload_n hb rfl dX0_put_29 ?_
        obtain ⟨q5, hv⟩ := hv
        refine wp_bastore hb rfl (ha0.2.2.2 _) ha0.2.2.1 q5 dX0_put_30 ?_
        have hv := hv _ rfl
        generalize (mm_u2 m.1 (a0 + 1) v1.toNatClampNeg (vp_nar .boolean v2), m.2) = m1 at hv ⊢
        refine wp_aload_n hb rfl dX0_put_31 ?_
        refine wp_dupR hb dX0_put_32 ?_
        refine wp_getI hb ko_6 lf_0_15 (by decide) (ha0.2.1 _) dX0_put_33 ?_
        refine wp_iload_n hb rfl dX0_put_36 ?_
        refine wp_if_eq hb (y := 0) (t := 44) ⟨rfl, rfl⟩ dX0_put_37 ⟨fun c6 => ?_, fun c6 => ?_⟩
        · have hv := hv.1 c6
          refine wp_iconst hb (x := (-1)) rfl dX0_put_44 ?_
          refine wp_iadd hb dX0_put_45 ?_
          refine wp_putI hb ko_6 lf_0_15 (by decide) (ha0.2.1 _) dX0_put_46 ?_
          have hv := hv _ rfl
          generalize (mm_u2 m1.1 a0 1 ((m1.1 a0 1) + (-1)), m1.2) = m2 at hv ⊢
          exact wp_retV hb rfl dX0_put_49 hv
        · have hv := hv.2 c6
          refine wp_iconst hb (x := nI 1) rfl dX0_put_40 ?_
          refine wp_goto hb (t := 45) ⟨rfl, rfl⟩ dX0_put_41 ?_
          refine wp_iadd hb dX0_put_45 ?_
          refine wp_putI hb ko_6 lf_0_15 (by decide) (ha0.2.1 _) dX0_put_46 ?_
          have hv := hv _ rfl
          generalize (mm_u2 m1.1 a0 1 ((m1.1 a0 1) + (nI 1)), m1.2) = m3 at hv ⊢
          exact wp_retV hb rfl dX0_put_49 hv
      · have hv := hv.2 c4
        exact wp_retV hb rfl dX0_put_23 hv
set_option maxRecDepth 100000 in
theorem v_X0_setAt {d sn : Nat} {a0 : Nat} {v1 : Int32} {m : mm_Mem} {P : Int32 → mm_Mem → Prop} (ha0 : shB a0) 
    (hv : mm_wp d sn kX0_setAt 4 [some (.ref a0), some (.int v1), some (.int (nI 0)), some (.int (nI 0))] [] m (qI P)) :
    mm_sp (d + 1) sn kX0_setAt [.ref a0, .int v1] m (qI P) := by
  have hb := mb_7
  refine wp_in (la := [some (.ref a0), some (.int v1), none, none]) ⟨⟨Nat.le_of_ble_eq_true rfl, by decide, by decide⟩, rfl⟩ ?_
  refine wp_iconst hb (x := nI 0) rfl dX0_setAt_0 ?_
  refine wp_istore_n hb rfl dX0_setAt_1 ?_
  refine wp_iconst hb (x := nI 0) rfl dX0_setAt_2 ?_
  refine wp_istore_n hb rfl dX0_setAt_3 ?_
  exact wp_for (mm_ls_k (mm_ls_k (mm_ls_k (mm_ls_k mm_ls_nil)))) hv
set_option maxRecDepth 100000 in
theorem v_X0_setAt_4 {d sn : Nat} {a0 : Nat} {v1 : Int32} {v2 : Int32} {v3 : Int32} {m : mm_Mem} {P : Int32 → mm_Mem → Prop} (ha0 : shB a0) 
    (hv : ((nI 256 ≤ v3) → (P (-5) m)) ∧ (¬ (nI 256 ≤ v3) → (vp_in v3 256 ∧ (((m.1 (a0 + 1) v3.toNatClampNeg = 0) → (mm_wp d sn kX0_setAt 4 [some (.ref a0), some (.int v1), some (.int v2), some (.int (v3 + nI 1))] [] m (qI P))) ∧ (¬ (m.1 (a0 + 1) v3.toNatClampNeg = 0) → (((¬ v2 = v1) → (mm_wp d sn kX0_setAt 4 [some (.ref a0), some (.int v1), some (.int (v2 + nI 1)), some (.int (v3 + nI 1))] [] m (qI P))) ∧ (¬ (¬ v2 = v1) → (P v3 m)))))))) :
    mm_wp d sn kX0_setAt 4 [some (.ref a0), some (.int v1), some (.int v2), some (.int v3)] [] m (qI P) := by
  have hb := mb_7
  refine wp_iload_n hb rfl dX0_setAt_4 ?_
  refine wp_aload_n hb rfl dX0_setAt_5 ?_
  refine wp_getR hb ko_7 lf_0_18 (by decide) (ha0.2.1 _) ha0.1 dX0_setAt_6 ?_
  refine wp_alen hb (x := nI 256) (ha0.2.2.2 _) (by decide) rfl dX0_setAt_9 ?_
  refine wp_icmp_ge hb (t := 38) ⟨rfl, rfl⟩ dX0_setAt_10 ⟨fun c1 => ?_, fun c1 => ?_⟩
  · have hv := hv.1 c1
    refine wp_bipush hb (x := (-5)) rfl dX0_setAt_38 ?_
    exact wp_retI hb rfl dX0_setAt_40 hv
  · have hv := hv.2 c1
    refine wp_aload_n hb rfl dX0_setAt_13 ?_
    refine wp_getR hb ko_7 lf_0_18 (by decide) (ha0.2.1 _) ha0.1 dX0_setAt_14 ?_
    refine wp_iload_n hb rfl dX0_setAt_17 ?_
    obtain ⟨q2, hv⟩ := hv
    refine wp_baload hb rfl (ha0.2.2.2 _) q2 dX0_setAt_18 ?_
    refine wp_if_eq hb (y := 0) (t := 32) ⟨rfl, rfl⟩ dX0_setAt_19 ⟨fun c3 => ?_, fun c3 => ?_⟩
    · have hv := hv.1 c3
      refine wp_iinc hb rfl (y := v3 + nI 1) rfl rfl dX0_setAt_32 ?_
      refine wp_goto hb (t := 4) ⟨rfl, rfl⟩ dX0_setAt_35 ?_
      exact wp_for (mm_ls_k (mm_ls_k (mm_ls_k (mm_ls_k mm_ls_nil)))) hv
    · have hv := hv.2 c3
      refine wp_iload_n hb rfl dX0_setAt_22 ?_
      refine wp_iinc hb rfl (y := v2 + nI 1) rfl rfl dX0_setAt_23 ?_
      refine wp_iload_n hb rfl dX0_setAt_26 ?_
      refine wp_icmp_ne hb (t := 32) ⟨rfl, rfl⟩ dX0_setAt_27 ⟨fun c4 => ?_, fun c4 => ?_⟩
      · have hv := hv.1 c4
        refine wp_iinc hb rfl (y := v3 + nI 1) rfl rfl dX0_setAt_32 ?_
        refine wp_goto hb (t := 4) ⟨rfl, rfl⟩ dX0_setAt_35 ?_
        exact wp_for (mm_ls_k (mm_ls_k (mm_ls_k (mm_ls_k mm_ls_nil)))) hv
      · have hv := hv.2 c4
        refine wp_iload_n hb rfl dX0_setAt_30 ?_
        exact wp_retI hb rfl dX0_setAt_31 hv
set_option maxRecDepth 100000 in
theorem v_X0_union {d sn : Nat} {a0 : Nat} {m : mm_Mem} {P : Int32 → mm_Mem → Prop} (ha0 : shB a0) 
    (hv : mm_wp d sn kX0_union 4 [some (.ref a0), some (.int (nI 0)), some (.int (nI 0))] [] m (qI P)) :
    mm_sp (d + 1) sn kX0_union [.ref a0] m (qI P) := by
  have hb := mb_8
  refine wp_in (la := [some (.ref a0), none, none]) ⟨⟨Nat.le_of_ble_eq_true rfl, by decide, by decide⟩, rfl⟩ ?_
  refine wp_iconst hb (x := nI 0) rfl dX0_union_0 ?_
  refine wp_istore_n hb rfl dX0_union_1 ?_
  refine wp_iconst hb (x := nI 0) rfl dX0_union_2 ?_
  refine wp_istore_n hb rfl dX0_union_3 ?_
  exact wp_for (mm_ls_k (mm_ls_k (mm_ls_k mm_ls_nil))) hv
set_option maxRecDepth 100000 in
theorem v_X0_union_4 {d sn : Nat} {a0 : Nat} {v1 : Int32} {v2 : Int32} {m : mm_Mem} {P : Int32 → mm_Mem → Prop} (ha0 : shB a0) 
    (hv : ((nI 256 ≤ v2) → (P v1 m)) ∧ (¬ (nI 256 ≤ v2) → (vp_in v2 256 ∧ (((m.1 (a0 + 1) v2.toNatClampNeg = 0) → (mm_wp d sn kX0_union 4 [some (.ref a0), some (.int v1), some (.int (v2 + nI 1))] [] m (qI P))) ∧ (¬ (m.1 (a0 + 1) v2.toNatClampNeg = 0) → (mm_wp d sn kX0_union 4 [some (.ref a0), some (.int (v1 ||| v2)), some (.int (v2 + nI 1))] [] m (qI P))))))) :
    mm_wp d sn kX0_union 4 [some (.ref a0), some (.int v1), some (.int v2)] [] m (qI P) := by
  have hb := mb_8
  refine wp_iload_n hb rfl dX0_union_4 ?_
  refine wp_aload_n hb rfl dX0_union_5 ?_
  refine wp_getR hb ko_8 lf_0_18 (by decide) (ha0.2.1 _) ha0.1 dX0_union_6 ?_
  refine wp_alen hb (x := nI 256) (ha0.2.2.2 _) (by decide) rfl dX0_union_9 ?_
  refine wp_icmp_ge hb (t := 32) ⟨rfl, rfl⟩ dX0_union_10 ⟨fun c1 => ?_, fun c1 => ?_⟩
  · have hv := hv.1 c1
    refine wp_iload_n hb rfl dX0_union_32 ?_
    exact wp_retI hb rfl dX0_union_33 hv
  · have hv := hv.2 c1
    refine wp_aload_n hb rfl dX0_union_13 ?_
    refine wp_getR hb ko_8 lf_0_18 (by decide) (ha0.2.1 _) ha0.1 dX0_union_14 ?_
    refine wp_iload_n hb rfl dX0_union_17 ?_
    obtain ⟨q2, hv⟩ := hv
    refine wp_baload hb rfl (ha0.2.2.2 _) q2 dX0_union_18 ?_
    refine wp_if_eq hb (y := 0) (t := 26) ⟨rfl, rfl⟩ dX0_union_19 ⟨fun c3 => ?_, fun c3 => ?_⟩
    · have hv := hv.1 c3
      refine wp_iinc hb rfl (y := v2 + nI 1) rfl rfl dX0_union_26 ?_
      refine wp_goto hb (t := 4) ⟨rfl, rfl⟩ dX0_union_29 ?_
      exact wp_for (mm_ls_k (mm_ls_k (mm_ls_k mm_ls_nil))) hv
    · have hv := hv.2 c3
      refine wp_iload_n hb rfl dX0_union_22 ?_
      refine wp_iload_n hb rfl dX0_union_23 ?_
      refine wp_ior hb dX0_union_24 ?_
      refine wp_istore_n hb rfl dX0_union_25 ?_
      refine wp_iinc hb rfl (y := v2 + nI 1) rfl rfl dX0_union_26 ?_
      refine wp_goto hb (t := 4) ⟨rfl, rfl⟩ dX0_union_29 ?_
      exact wp_for (mm_ls_k (mm_ls_k (mm_ls_k mm_ls_nil))) hv
set_option maxRecDepth 100000 in
theorem v_X0_areKeptBy {d sn : Nat} {a0 : Nat} {a1 : Nat} {m : mm_Mem} {P : Int32 → mm_Mem → Prop} (ha0 : shB a0) (ha1 : shY a1) 
    (hv : mm_wp d sn kX0_areKeptBy 2 [some (.ref a0), some (.ref a1), some (.int (nI 0))] [] m (qI P)) :
    mm_sp (d + 1) sn kX0_areKeptBy [.ref a0, .ref a1] m (qI P) := by
  have hb := mb_9
  refine wp_in (la := [some (.ref a0), some (.ref a1), none]) ⟨⟨Nat.le_of_ble_eq_true rfl, by decide, by decide⟩, rfl⟩ ?_
  refine wp_iconst hb (x := nI 0) rfl dX0_areKeptBy_0 ?_
  refine wp_istore_n hb rfl dX0_areKeptBy_1 ?_
  exact wp_for (mm_ls_k (mm_ls_k (mm_ls_k mm_ls_nil))) hv
set_option maxRecDepth 100000 in
theorem v_X0_areKeptBy_2 {d sn : Nat} {a0 : Nat} {a1 : Nat} {v2 : Int32} {m : mm_Mem} {P : Int32 → mm_Mem → Prop} (ha0 : shB a0) (ha1 : shY a1) 
    (hv : ((nI 256 ≤ v2) → (P (nI 1) m)) ∧ (¬ (nI 256 ≤ v2) → (vp_in v2 256 ∧ (((m.1 (a0 + 1) v2.toNatClampNeg = 0) → (mm_wp d sn kX0_areKeptBy 2 [some (.ref a0), some (.ref a1), some (.int (v2 + nI 1))] [] m (qI P))) ∧ (¬ (m.1 (a0 + 1) v2.toNatClampNeg = 0) → (mm_sp d sn kX9_setFor [.ref a1, .int v2] m (qI fun x4 m1 => mm_sp d sn kX0_has [.ref a0, .int x4] m1 (qI fun x5 m2 => ((¬ x5 = 0) → (mm_wp d sn kX0_areKeptBy 2 [some (.ref a0), some (.ref a1), some (.int (v2 + nI 1))] [] m2 (qI P))) ∧ (¬ (¬ x5 = 0) → (P (nI 0) m2)))))))))) :
    mm_wp d sn kX0_areKeptBy 2 [some (.ref a0), some (.ref a1), some (.int v2)] [] m (qI P) := by
  have hb := mb_9
  refine wp_iload_n hb rfl dX0_areKeptBy_2 ?_
  refine wp_aload_n hb rfl dX0_areKeptBy_3 ?_
  refine wp_getR hb ko_9 lf_0_18 (by decide) (ha0.2.1 _) ha0.1 dX0_areKeptBy_4 ?_
  refine wp_alen hb (x := nI 256) (ha0.2.2.2 _) (by decide) rfl dX0_areKeptBy_7 ?_
  refine wp_icmp_ge hb (t := 40) ⟨rfl, rfl⟩ dX0_areKeptBy_8 ⟨fun c1 => ?_, fun c1 => ?_⟩
  · have hv := hv.1 c1
    refine wp_iconst hb (x := nI 1) rfl dX0_areKeptBy_40 ?_
    exact wp_retZ hb rfl (by decide) dX0_areKeptBy_41 hv
  · have hv := hv.2 c1
    refine wp_aload_n hb rfl dX0_areKeptBy_11 ?_
    refine wp_getR hb ko_9 lf_0_18 (by decide) (ha0.2.1 _) ha0.1 dX0_areKeptBy_12 ?_
    refine wp_iload_n hb rfl dX0_areKeptBy_15 ?_
    obtain ⟨q2, hv⟩ := hv
    refine wp_baload hb rfl (ha0.2.2.2 _) q2 dX0_areKeptBy_16 ?_
    refine wp_if_eq hb (y := 0) (t := 34) ⟨rfl, rfl⟩ dX0_areKeptBy_17 ⟨fun c3 => ?_, fun c3 => ?_⟩
    · have hv := hv.1 c3
      refine wp_iinc hb rfl (y := v2 + nI 1) rfl rfl dX0_areKeptBy_34 ?_
      refine wp_goto hb (t := 2) ⟨rfl, rfl⟩ dX0_areKeptBy_37 ?_
      exact wp_for (mm_ls_k (mm_ls_k (mm_ls_k mm_ls_nil))) hv
    · have hv := hv.2 c3
      refine wp_aload_n hb rfl dX0_areKeptBy_20 ?_
      refine wp_aload_n hb rfl dX0_areKeptBy_21 ?_
      refine wp_iload_n hb rfl dX0_areKeptBy_22 ?_
      refine wp_callV hb (k' := 95) ko_9 lm_0_45 rfl (ha1.2.1 _) (by decide) (Nat.le_of_ble_eq_true rfl) dX0_areKeptBy_23 (sp_cI (hv.I (Nat.le_refl _) ?_))
      intro x4 m1 hv
      refine wp_callV hb (k' := 5) ko_9 lm_0_22 rfl (ha0.2.1 _) (by decide) (Nat.le_of_ble_eq_true rfl) dX0_areKeptBy_26 (sp_cI (hv.I (Nat.le_refl _) ?_))
      intro x5 m2 hv
      refine wp_if_ne hb (y := 0) (t := 34) ⟨rfl, rfl⟩ dX0_areKeptBy_29 ⟨fun c6 => ?_, fun c6 => ?_⟩
      · have hv := hv.1 c6
        refine wp_iinc hb rfl (y := v2 + nI 1) rfl rfl dX0_areKeptBy_34 ?_
        refine wp_goto hb (t := 2) ⟨rfl, rfl⟩ dX0_areKeptBy_37 ?_
        exact wp_for (mm_ls_k (mm_ls_k (mm_ls_k mm_ls_nil))) hv
      · have hv := hv.2 c6
        refine wp_iconst hb (x := nI 0) rfl dX0_areKeptBy_32 ?_
        exact wp_retZ hb rfl (by decide) dX0_areKeptBy_33 hv
set_option maxRecDepth 100000 in
theorem v_X0_meeting {d sn : Nat} {a0 : Nat} {v1 : Int32} {v2 : Int32} {m : mm_Mem} {P : Int32 → mm_Mem → Prop} (ha0 : shB a0) 
    (hv : mm_wp d sn kX0_meeting 5 [some (.ref a0), some (.int v1), some (.int v2), some (.int (nI 0)), some (.int (nI 0))] [] m (qI P)) :
    mm_sp (d + 1) sn kX0_meeting [.ref a0, .int v1, .int v2] m (qI P) := by
  have hb := mb_10
  refine wp_in (la := [some (.ref a0), some (.int v1), some (.int v2), none, none]) ⟨⟨Nat.le_of_ble_eq_true rfl, by decide, by decide⟩, rfl⟩ ?_
  refine wp_iconst hb (x := nI 0) rfl dX0_meeting_0 ?_
  refine wp_istore_n hb rfl dX0_meeting_1 ?_
  refine wp_iconst hb (x := nI 0) rfl dX0_meeting_2 ?_
  refine wp_istore hb rfl dX0_meeting_3 ?_
  exact wp_for (mm_ls_k (mm_ls_k (mm_ls_k (mm_ls_k (mm_ls_k mm_ls_nil))))) hv
set_option maxRecDepth 100000 in
theorem v_X0_meeting_5 {d sn : Nat} {a0 : Nat} {v1 : Int32} {v2 : Int32} {v3 : Int32} {v4 : Int32} {m : mm_Mem} {P : Int32 → mm_Mem → Prop} (ha0 : shB a0) 
    (hv : ((nI 256 ≤ v4) → (P v3 m)) ∧ (¬ (nI 256 ≤ v4) → (vp_in v4 256 ∧ (((m.1 (a0 + 1) v4.toNatClampNeg = 0) → (mm_wp d sn kX0_meeting 5 [some (.ref a0), some (.int v1), some (.int v2), some (.int v3), some (.int (v4 + nI 1))] [] m (qI P))) ∧ (¬ (m.1 (a0 + 1) v4.toNatClampNeg = 0) → (mm_sp d sn kJ6_bitCount_0f7a4 [.int (v4 &&& v1)] m (qI fun x4 m1 => ((¬ x4 = v2) → (mm_wp d sn kX0_meeting 5 [some (.ref a0), some (.int v1), some (.int v2), some (.int v3), some (.int (v4 + nI 1))] [] m1 (qI P))) ∧ (¬ (¬ x4 = v2) → (mm_wp d sn kX0_meeting 5 [some (.ref a0), some (.int v1), some (.int v2), some (.int (v3 + nI 1)), some (.int (v4 + nI 1))] [] m1 (qI P)))))))))) :
    mm_wp d sn kX0_meeting 5 [some (.ref a0), some (.int v1), some (.int v2), some (.int v3), some (.int v4)] [] m (qI P) := by
  have hb := mb_10
  refine wp_iload hb rfl dX0_meeting_5 ?_
  refine wp_aload_n hb rfl dX0_meeting_7 ?_
  refine wp_getR hb ko_10 lf_0_18 (by decide) (ha0.2.1 _) ha0.1 dX0_meeting_8 ?_
  refine wp_alen hb (x := nI 256) (ha0.2.2.2 _) (by decide) rfl dX0_meeting_11 ?_
  refine wp_icmp_ge hb (t := 45) ⟨rfl, rfl⟩ dX0_meeting_12 ⟨fun c1 => ?_, fun c1 => ?_⟩
  · have hv := hv.1 c1
    refine wp_iload_n hb rfl dX0_meeting_45 ?_
    exact wp_retI hb rfl dX0_meeting_46 hv
  · have hv := hv.2 c1
    refine wp_aload_n hb rfl dX0_meeting_15 ?_
    refine wp_getR hb ko_10 lf_0_18 (by decide) (ha0.2.1 _) ha0.1 dX0_meeting_16 ?_
    refine wp_iload hb rfl dX0_meeting_19 ?_
    obtain ⟨q2, hv⟩ := hv
    refine wp_baload hb rfl (ha0.2.2.2 _) q2 dX0_meeting_21 ?_
    refine wp_if_eq hb (y := 0) (t := 39) ⟨rfl, rfl⟩ dX0_meeting_22 ⟨fun c3 => ?_, fun c3 => ?_⟩
    · have hv := hv.1 c3
      refine wp_iinc hb rfl (y := v4 + nI 1) rfl rfl dX0_meeting_39 ?_
      refine wp_goto hb (t := 5) ⟨rfl, rfl⟩ dX0_meeting_42 ?_
      exact wp_for (mm_ls_k (mm_ls_k (mm_ls_k (mm_ls_k (mm_ls_k mm_ls_nil))))) hv
    · have hv := hv.2 c3
      refine wp_iload hb rfl dX0_meeting_25 ?_
      refine wp_iload_n hb rfl dX0_meeting_27 ?_
      refine wp_iand hb dX0_meeting_28 ?_
      refine wp_callS hb (k' := 227) ko_10 lm_0_36 (by decide) rfl (Nat.le_of_ble_eq_true rfl) dX0_meeting_29 (sp_cI (hv.I (Nat.le_refl _) ?_))
      intro x4 m1 hv
      refine wp_iload_n hb rfl dX0_meeting_32 ?_
      refine wp_icmp_ne hb (t := 39) ⟨rfl, rfl⟩ dX0_meeting_33 ⟨fun c5 => ?_, fun c5 => ?_⟩
      · have hv := hv.1 c5
        refine wp_iinc hb rfl (y := v4 + nI 1) rfl rfl dX0_meeting_39 ?_
        refine wp_goto hb (t := 5) ⟨rfl, rfl⟩ dX0_meeting_42 ?_
        exact wp_for (mm_ls_k (mm_ls_k (mm_ls_k (mm_ls_k (mm_ls_k mm_ls_nil))))) hv
      · have hv := hv.2 c5
        refine wp_iinc hb rfl (y := v3 + nI 1) rfl rfl dX0_meeting_36 ?_
        refine wp_iinc hb rfl (y := v4 + nI 1) rfl rfl dX0_meeting_39 ?_
        refine wp_goto hb (t := 5) ⟨rfl, rfl⟩ dX0_meeting_42 ?_
        exact wp_for (mm_ls_k (mm_ls_k (mm_ls_k (mm_ls_k (mm_ls_k mm_ls_nil))))) hv
set_option maxRecDepth 100000 in
theorem v_X0_around {d sn : Nat} {a0 : Nat} {v1 : Int32} {m : mm_Mem} {P : Int32 → mm_Mem → Prop} (ha0 : shB a0) 
    (hv : mm_wp d sn kX0_around 4 [some (.ref a0), some (.int v1), some (.int (nI 0)), some (.int v1)] [] m (qI P)) :
    mm_sp (d + 1) sn kX0_around [.ref a0, .int v1] m (qI P) := by
  have hb := mb_11
  refine wp_in (la := [some (.ref a0), some (.int v1), none, none]) ⟨⟨Nat.le_of_ble_eq_true rfl, by decide, by decide⟩, rfl⟩ ?_
  refine wp_iconst hb (x := nI 0) rfl dX0_around_0 ?_
  refine wp_istore_n hb rfl dX0_around_1 ?_
  refine wp_iload_n hb rfl dX0_around_2 ?_
  refine wp_istore_n hb rfl dX0_around_3 ?_
  exact wp_for (mm_ls_k (mm_ls_k (mm_ls_k (mm_ls_k mm_ls_nil)))) hv
set_option maxRecDepth 100000 in
theorem v_X0_around_4 {d sn : Nat} {a0 : Nat} {v1 : Int32} {v2 : Int32} {v3 : Int32} {m : mm_Mem} {P : Int32 → mm_Mem → Prop} (ha0 : shB a0) 
    (hv : ((v3 < 0) → (P v2 m)) ∧ (¬ (v3 < 0) → (((nI 256 ≤ v3) → (P v2 m)) ∧ (¬ (nI 256 ≤ v3) → (vp_in v3 256 ∧ (((m.1 (a0 + 1) v3.toNatClampNeg = 0) → (mm_wp d sn kX0_around 4 [some (.ref a0), some (.int v1), some (.int v2), some (.int (v3 + nI 1))] [] m (qI P))) ∧ (¬ (m.1 (a0 + 1) v3.toNatClampNeg = 0) → (((¬ v3 &&& v1 = v1) → (mm_wp d sn kX0_around 4 [some (.ref a0), some (.int v1), some (.int v2), some (.int (v3 + nI 1))] [] m (qI P))) ∧ (¬ (¬ v3 &&& v1 = v1) → (mm_wp d sn kX0_around 4 [some (.ref a0), some (.int v1), some (.int (v2 + nI 1)), some (.int (v3 + nI 1))] [] m (qI P))))))))))) :
    mm_wp d sn kX0_around 4 [some (.ref a0), some (.int v1), some (.int v2), some (.int v3)] [] m (qI P) := by
  have hb := mb_11
  refine wp_iload_n hb rfl dX0_around_4 ?_
  refine wp_if_lt hb (y := 0) (t := 42) ⟨rfl, rfl⟩ dX0_around_5 ⟨fun c1 => ?_, fun c1 => ?_⟩
  · have hv := hv.1 c1
    refine wp_iload_n hb rfl dX0_around_42 ?_
    exact wp_retI hb rfl dX0_around_43 hv
  · have hv := hv.2 c1
    refine wp_iload_n hb rfl dX0_around_8 ?_
    refine wp_aload_n hb rfl dX0_around_9 ?_
    refine wp_getR hb ko_11 lf_0_18 (by decide) (ha0.2.1 _) ha0.1 dX0_around_10 ?_
    refine wp_alen hb (x := nI 256) (ha0.2.2.2 _) (by decide) rfl dX0_around_13 ?_
    refine wp_icmp_ge hb (t := 42) ⟨rfl, rfl⟩ dX0_around_14 ⟨fun c2 => ?_, fun c2 => ?_⟩
    · have hv := hv.1 c2
      refine wp_iload_n hb rfl dX0_around_42 ?_
      exact wp_retI hb rfl dX0_around_43 hv
    · have hv := hv.2 c2
      refine wp_aload_n hb rfl dX0_around_17 ?_
      refine wp_getR hb ko_11 lf_0_18 (by decide) (ha0.2.1 _) ha0.1 dX0_around_18 ?_
      refine wp_iload_n hb rfl dX0_around_21 ?_
      obtain ⟨q3, hv⟩ := hv
      refine wp_baload hb rfl (ha0.2.2.2 _) q3 dX0_around_22 ?_
      refine wp_if_eq hb (y := 0) (t := 36) ⟨rfl, rfl⟩ dX0_around_23 ⟨fun c4 => ?_, fun c4 => ?_⟩
      · have hv := hv.1 c4
        refine wp_iinc hb rfl (y := v3 + nI 1) rfl rfl dX0_around_36 ?_
        refine wp_goto hb (t := 4) ⟨rfl, rfl⟩ dX0_around_39 ?_
        exact wp_for (mm_ls_k (mm_ls_k (mm_ls_k (mm_ls_k mm_ls_nil)))) hv
      · have hv := hv.2 c4
        refine wp_iload_n hb rfl dX0_around_26 ?_
        refine wp_iload_n hb rfl dX0_around_27 ?_
        refine wp_iand hb dX0_around_28 ?_
        refine wp_iload_n hb rfl dX0_around_29 ?_
        refine wp_icmp_ne hb (t := 36) ⟨rfl, rfl⟩ dX0_around_30 ⟨fun c5 => ?_, fun c5 => ?_⟩
        · have hv := hv.1 c5
          refine wp_iinc hb rfl (y := v3 + nI 1) rfl rfl dX0_around_36 ?_
          refine wp_goto hb (t := 4) ⟨rfl, rfl⟩ dX0_around_39 ?_
          exact wp_for (mm_ls_k (mm_ls_k (mm_ls_k (mm_ls_k mm_ls_nil)))) hv
        · have hv := hv.2 c5
          refine wp_iinc hb rfl (y := v2 + nI 1) rfl rfl dX0_around_33 ?_
          refine wp_iinc hb rfl (y := v3 + nI 1) rfl rfl dX0_around_36 ?_
          refine wp_goto hb (t := 4) ⟨rfl, rfl⟩ dX0_around_39 ?_
          exact wp_for (mm_ls_k (mm_ls_k (mm_ls_k (mm_ls_k mm_ls_nil)))) hv
set_option maxRecDepth 100000 in
theorem v_X0_shareOn {d sn : Nat} {a0 : Nat} {v1 : Int32} {v2 : Int32} {m : mm_Mem} {P : Int32 → mm_Mem → Prop} (ha0 : shB a0) 
    (hv : mm_wp d sn kX0_shareOn 6 [some (.ref a0), some (.int v1), some (.int v2), some (.int (-5)), some (.int (nI 0)), none] [] m (qI P)) :
    mm_sp (d + 1) sn kX0_shareOn [.ref a0, .int v1, .int v2] m (qI P) := by
  have hb := mb_12
  refine wp_in (la := [some (.ref a0), some (.int v1), some (.int v2), none, none, none]) ⟨⟨Nat.le_of_ble_eq_true rfl, by decide, by decide⟩, rfl⟩ ?_
  refine wp_bipush hb (x := (-5)) rfl dX0_shareOn_0 ?_
  refine wp_istore_n hb rfl dX0_shareOn_2 ?_
  refine wp_iconst hb (x := nI 0) rfl dX0_shareOn_3 ?_
  refine wp_istore hb rfl dX0_shareOn_4 ?_
  exact wp_for (mm_ls_k (mm_ls_k (mm_ls_k (mm_ls_k (mm_ls_k (mm_ls_k mm_ls_nil)))))) hv
set_option maxRecDepth 100000 in
theorem v_X0_shareOn_6 {d sn : Nat} {a0 : Nat} {v1 : Int32} {v2 : Int32} {v3 : Int32} {v4 : Int32} {m : mm_Mem} {P : Int32 → mm_Mem → Prop} (ha0 : shB a0) 
    (hv : ((nI 256 ≤ v4) → (P v3 m)) ∧ (¬ (nI 256 ≤ v4) → (((¬ v4 &&& (v1 ^^^ (-1)) = 0) → (mm_wp d sn kX0_shareOn 6 [some (.ref a0), some (.int v1), some (.int v2), some (.int v3), some (.int (v4 + nI 1)), none] [] m (qI P))) ∧ (¬ (¬ v4 &&& (v1 ^^^ (-1)) = 0) → (mm_sp d sn kJ6_bitCount_0f7a4 [.int v4] m (qI fun x3 m1 => ((¬ x3 = v2) → (mm_wp d sn kX0_shareOn 6 [some (.ref a0), some (.int v1), some (.int v2), some (.int v3), some (.int (v4 + nI 1)), none] [] m1 (qI P))) ∧ (¬ (¬ x3 = v2) → (mm_sp d sn kX0_around [.ref a0, .int v4] m1 (qI fun x5 m2 => ((v3 = (-5)) → (mm_wp d sn kX0_shareOn 6 [some (.ref a0), some (.int v1), some (.int v2), some (.int x5), some (.int (v4 + nI 1)), none] [] m2 (qI P))) ∧ (¬ (v3 = (-5)) → (((v3 = x5) → (mm_wp d sn kX0_shareOn 6 [some (.ref a0), some (.int v1), some (.int v2), some (.int x5), some (.int (v4 + nI 1)), none] [] m2 (qI P))) ∧ (¬ (v3 = x5) → (P (-5) m2))))))))))))) :
    mm_wp d sn kX0_shareOn 6 [some (.ref a0), some (.int v1), some (.int v2), some (.int v3), some (.int v4), none] [] m (qI P) := by
  have hb := mb_12
  refine wp_iload hb rfl dX0_shareOn_6 ?_
  refine wp_sipush hb (x := nI 256) rfl dX0_shareOn_8 ?_
  refine wp_icmp_ge hb (t := 64) ⟨rfl, rfl⟩ dX0_shareOn_11 ⟨fun c1 => ?_, fun c1 => ?_⟩
  · have hv := hv.1 c1
    refine wp_iload_n hb rfl dX0_shareOn_64 ?_
    exact wp_retI hb rfl dX0_shareOn_65 hv
  · have hv := hv.2 c1
    refine wp_iload hb rfl dX0_shareOn_14 ?_
    refine wp_iload_n hb rfl dX0_shareOn_16 ?_
    refine wp_iconst hb (x := (-1)) rfl dX0_shareOn_17 ?_
    refine wp_ixor hb dX0_shareOn_18 ?_
    refine wp_iand hb dX0_shareOn_19 ?_
    refine wp_if_ne hb (y := 0) (t := 58) ⟨rfl, rfl⟩ dX0_shareOn_20 ⟨fun c2 => ?_, fun c2 => ?_⟩
    · have hv := hv.1 c2
      refine wp_iinc hb rfl (y := v4 + nI 1) rfl rfl dX0_shareOn_58 ?_
      refine wp_goto hb (t := 6) ⟨rfl, rfl⟩ dX0_shareOn_61 ?_
      exact wp_for (mm_ls_k (mm_ls_k (mm_ls_k (mm_ls_k (mm_ls_k (mm_ls_k mm_ls_nil)))))) hv
    · have hv := hv.2 c2
      refine wp_iload hb rfl dX0_shareOn_23 ?_
      refine wp_callS hb (k' := 227) ko_12 lm_0_36 (by decide) rfl (Nat.le_of_ble_eq_true rfl) dX0_shareOn_25 (sp_cI (hv.I (Nat.le_refl _) ?_))
      intro x3 m1 hv
      refine wp_iload_n hb rfl dX0_shareOn_28 ?_
      refine wp_icmp_ne hb (t := 58) ⟨rfl, rfl⟩ dX0_shareOn_29 ⟨fun c4 => ?_, fun c4 => ?_⟩
      · have hv := hv.1 c4
        refine wp_iinc hb rfl (y := v4 + nI 1) rfl rfl dX0_shareOn_58 ?_
        refine wp_goto hb (t := 6) ⟨rfl, rfl⟩ dX0_shareOn_61 ?_
        exact wp_for (mm_ls_k (mm_ls_k (mm_ls_k (mm_ls_k (mm_ls_k (mm_ls_k mm_ls_nil)))))) hv
      · have hv := hv.2 c4
        refine wp_aload_n hb rfl dX0_shareOn_32 ?_
        refine wp_iload hb rfl dX0_shareOn_33 ?_
        refine wp_callV hb (k' := 11) ko_12 lm_0_50 rfl (ha0.2.1 _) (by decide) (Nat.le_of_ble_eq_true rfl) dX0_shareOn_35 (sp_cI (hv.I (Nat.le_refl _) ?_))
        intro x5 m2 hv
        refine wp_istore hb rfl dX0_shareOn_38 ?_
        refine wp_iload_n hb rfl dX0_shareOn_40 ?_
        refine wp_bipush hb (x := (-5)) rfl dX0_shareOn_41 ?_
        refine wp_icmp_eq hb (t := 55) ⟨rfl, rfl⟩ dX0_shareOn_43 ⟨fun c6 => ?_, fun c6 => ?_⟩
        · have hv := hv.1 c6
          refine wp_iload hb rfl dX0_shareOn_55 ?_
          refine wp_istore_n hb rfl dX0_shareOn_57 ?_
          refine wp_iinc hb rfl (y := v4 + nI 1) rfl rfl dX0_shareOn_58 ?_
          refine wp_goto hb (t := 6) ⟨rfl, rfl⟩ dX0_shareOn_61 ?_
          exact wp_for (mm_ls_k (mm_ls_k (mm_ls_k (mm_ls_k (mm_ls_k (mm_ls_f mm_ls_nil)))))) hv
        · have hv := hv.2 c6
          refine wp_iload_n hb rfl dX0_shareOn_46 ?_
          refine wp_iload hb rfl dX0_shareOn_47 ?_
          refine wp_icmp_eq hb (t := 55) ⟨rfl, rfl⟩ dX0_shareOn_49 ⟨fun c7 => ?_, fun c7 => ?_⟩
          · have hv := hv.1 c7
            refine wp_iload hb rfl dX0_shareOn_55 ?_
            refine wp_istore_n hb rfl dX0_shareOn_57 ?_
            refine wp_iinc hb rfl (y := v4 + nI 1) rfl rfl dX0_shareOn_58 ?_
            refine wp_goto hb (t := 6) ⟨rfl, rfl⟩ dX0_shareOn_61 ?_
            exact wp_for (mm_ls_k (mm_ls_k (mm_ls_k (mm_ls_k (mm_ls_k (mm_ls_f mm_ls_nil)))))) hv
          · have hv := hv.2 c7
            refine wp_bipush hb (x := (-5)) rfl dX0_shareOn_52 ?_
            exact wp_retI hb rfl dX0_shareOn_54 hv
set_option maxRecDepth 100000 in
theorem v_X0_strengthOn {d sn : Nat} {a0 : Nat} {v1 : Int32} {m : mm_Mem} {P : Int32 → mm_Mem → Prop} (ha0 : shB a0) 
    (hv : mm_wp d sn kX0_strengthOn 2 [some (.ref a0), some (.int v1), some (.int (nI 1))] [] m (qI P)) :
    mm_sp (d + 1) sn kX0_strengthOn [.ref a0, .int v1] m (qI P) := by
  have hb := mb_13
  refine wp_in (la := [some (.ref a0), some (.int v1), none]) ⟨⟨Nat.le_of_ble_eq_true rfl, by decide, by decide⟩, rfl⟩ ?_
  refine wp_iconst hb (x := nI 1) rfl dX0_strengthOn_0 ?_
  refine wp_istore_n hb rfl dX0_strengthOn_1 ?_
  exact wp_for (mm_ls_k (mm_ls_k (mm_ls_k mm_ls_nil))) hv
set_option maxRecDepth 100000 in
theorem v_X0_strengthOn_2 {d sn : Nat} {a0 : Nat} {v1 : Int32} {v2 : Int32} {m : mm_Mem} {P : Int32 → mm_Mem → Prop} (ha0 : shB a0) 
    (hv : ((m.1 a0 0 < v2) → (P (m.1 a0 0) m)) ∧ (¬ (m.1 a0 0 < v2) → (mm_sp d sn kX0_shareOn [.ref a0, .int v1, .int v2] m (qI fun x2 m1 => ((¬ x2 = (-5)) → (mm_wp d sn kX0_strengthOn 2 [some (.ref a0), some (.int v1), some (.int (v2 + nI 1))] [] m1 (qI P))) ∧ (¬ (¬ x2 = (-5)) → (P (v2 - (nI 1)) m1)))))) :
    mm_wp d sn kX0_strengthOn 2 [some (.ref a0), some (.int v1), some (.int v2)] [] m (qI P) := by
  have hb := mb_13
  refine wp_iload_n hb rfl dX0_strengthOn_2 ?_
  refine wp_aload_n hb rfl dX0_strengthOn_3 ?_
  refine wp_getI hb ko_13 lf_0_9 (by decide) (ha0.2.1 _) dX0_strengthOn_4 ?_
  refine wp_icmp_gt hb (t := 31) ⟨rfl, rfl⟩ dX0_strengthOn_7 ⟨fun c1 => ?_, fun c1 => ?_⟩
  · have hv := hv.1 c1
    refine wp_aload_n hb rfl dX0_strengthOn_31 ?_
    refine wp_getI hb ko_13 lf_0_9 (by decide) (ha0.2.1 _) dX0_strengthOn_32 ?_
    exact wp_retI hb rfl dX0_strengthOn_35 hv
  · have hv := hv.2 c1
    refine wp_aload_n hb rfl dX0_strengthOn_10 ?_
    refine wp_iload_n hb rfl dX0_strengthOn_11 ?_
    refine wp_iload_n hb rfl dX0_strengthOn_12 ?_
    refine wp_callV hb (k' := 12) ko_13 lm_0_53 rfl (ha0.2.1 _) (by decide) (Nat.le_of_ble_eq_true rfl) dX0_strengthOn_13 (sp_cI (hv.I (Nat.le_refl _) ?_))
    intro x2 m1 hv
    refine wp_bipush hb (x := (-5)) rfl dX0_strengthOn_16 ?_
    refine wp_icmp_ne hb (t := 25) ⟨rfl, rfl⟩ dX0_strengthOn_18 ⟨fun c3 => ?_, fun c3 => ?_⟩
    · have hv := hv.1 c3
      refine wp_iinc hb rfl (y := v2 + nI 1) rfl rfl dX0_strengthOn_25 ?_
      refine wp_goto hb (t := 2) ⟨rfl, rfl⟩ dX0_strengthOn_28 ?_
      exact wp_for (mm_ls_k (mm_ls_k (mm_ls_k mm_ls_nil))) hv
    · have hv := hv.2 c3
      refine wp_iload_n hb rfl dX0_strengthOn_21 ?_
      refine wp_iconst hb (x := nI 1) rfl dX0_strengthOn_22 ?_
      refine wp_isub hb dX0_strengthOn_23 ?_
      exact wp_retI hb rfl dX0_strengthOn_24 hv
set_option maxRecDepth 100000 in
theorem v_X0_turn {d sn : Nat} {a0 : Nat} {v1 : Int32} {m : mm_Mem} {P : mm_Mem → Prop} (ha0 : shB a0) 
    (hv : ∀ m1 : mm_Mem, m1 = (mm_u2 m.1 a0 0 (v1 - (m.1 a0 0)), m.2) → (mm_wp d sn kX0_turn 18 [some (.ref a0), none, some (.int ((mm_shl (nI 1) v1) - (nI 1))), some (.int (nI 0)), none, none] [] m1 (qV P))) :
    mm_sp (d + 1) sn kX0_turn [.ref a0, .int v1] m (qV P) := by
  have hb := mb_14
  refine wp_in (la := [some (.ref a0), some (.int v1), none, none, none, none]) ⟨⟨Nat.le_of_ble_eq_true rfl, by decide, by decide⟩, rfl⟩ ?_
  refine wp_iconst hb (x := nI 1) rfl dX0_turn_0 ?_
  refine wp_iload_n hb rfl dX0_turn_1 ?_
  refine wp_ishl hb dX0_turn_2 ?_
  refine wp_iconst hb (x := nI 1) rfl dX0_turn_3 ?_
  refine wp_isub hb dX0_turn_4 ?_
  refine wp_istore_n hb rfl dX0_turn_5 ?_
  refine wp_aload_n hb rfl dX0_turn_6 ?_
  refine wp_iload_n hb rfl dX0_turn_7 ?_
  refine wp_aload_n hb rfl dX0_turn_8 ?_
  refine wp_getI hb ko_14 lf_0_9 (by decide) (ha0.2.1 _) dX0_turn_9 ?_
  refine wp_isub hb dX0_turn_12 ?_
  refine wp_putI hb ko_14 lf_0_9 (by decide) (ha0.2.1 _) dX0_turn_13 ?_
  have hv := hv _ rfl
  generalize (mm_u2 m.1 a0 0 (v1 - (m.1 a0 0)), m.2) = m1 at hv ⊢
  refine wp_iconst hb (x := nI 0) rfl dX0_turn_16 ?_
  refine wp_istore_n hb rfl dX0_turn_17 ?_
  exact wp_for (mm_ls_k (mm_ls_f (mm_ls_k (mm_ls_k (mm_ls_k (mm_ls_k mm_ls_nil)))))) hv
set_option maxRecDepth 100000 in
theorem v_X0_turn_18 {d sn : Nat} {a0 : Nat} {v2 : Int32} {v3 : Int32} {m : mm_Mem} {P : mm_Mem → Prop} (ha0 : shB a0) 
    (hv : ((nI 256 ≤ v3) → (P m)) ∧ (¬ (nI 256 ≤ v3) → (((v2 - v3 ≤ v3) → (mm_wp d sn kX0_turn 18 [some (.ref a0), none, some (.int v2), some (.int (v3 + nI 1)), none, none] [] m (qV P))) ∧ (¬ (v2 - v3 ≤ v3) → (((nI 256 ≤ v2 - v3) → (mm_wp d sn kX0_turn 18 [some (.ref a0), none, some (.int v2), some (.int (v3 + nI 1)), none, none] [] m (qV P))) ∧ (¬ (nI 256 ≤ v2 - v3) → (vp_in v3 256 ∧ (vp_in (v2 - v3) 256 ∧ (vp_in v3 256 ∧ (∀ m1 : mm_Mem, m1 = (mm_u2 m.1 (a0 + 1) v3.toNatClampNeg (vp_nar .boolean (m.1 (a0 + 1) (v2 - v3).toNatClampNeg)), m.2) → (vp_in (v2 - v3) 256 ∧ (∀ m2 : mm_Mem, m2 = (mm_u2 m1.1 (a0 + 1) (v2 - v3).toNatClampNeg (vp_nar .boolean (m.1 (a0 + 1) v3.toNatClampNeg)), m1.2) → (mm_wp d sn kX0_turn 18 [some (.ref a0), none, some (.int v2), some (.int (v3 + nI 1)), none, none] [] m2 (qV P)))))))))))))) :
    mm_wp d sn kX0_turn 18 [some (.ref a0), none, some (.int v2), some (.int v3), none, none] [] m (qV P) := by
  have hb := mb_14
  refine wp_iload_n hb rfl dX0_turn_18 ?_
  refine wp_aload_n hb rfl dX0_turn_19 ?_
  refine wp_getR hb ko_14 lf_0_18 (by decide) (ha0.2.1 _) ha0.1 dX0_turn_20 ?_
  refine wp_alen hb (x := nI 256) (ha0.2.2.2 _) (by decide) rfl dX0_turn_23 ?_
  refine wp_icmp_ge hb (t := 84) ⟨rfl, rfl⟩ dX0_turn_24 ⟨fun c1 => ?_, fun c1 => ?_⟩
  · have hv := hv.1 c1
    exact wp_retV hb rfl dX0_turn_84 hv
  · have hv := hv.2 c1
    refine wp_iload_n hb rfl dX0_turn_27 ?_
    refine wp_iload_n hb rfl dX0_turn_28 ?_
    refine wp_isub hb dX0_turn_29 ?_
    refine wp_istore hb rfl dX0_turn_30 ?_
    refine wp_iload hb rfl dX0_turn_32 ?_
    refine wp_iload_n hb rfl dX0_turn_34 ?_
    refine wp_icmp_le hb (t := 78) ⟨rfl, rfl⟩ dX0_turn_35 ⟨fun c2 => ?_, fun c2 => ?_⟩
    · have hv := hv.1 c2
      refine wp_iinc hb rfl (y := v3 + nI 1) rfl rfl dX0_turn_78 ?_
      refine wp_goto hb (t := 18) ⟨rfl, rfl⟩ dX0_turn_81 ?_
      exact wp_for (mm_ls_k (mm_ls_k (mm_ls_k (mm_ls_k (mm_ls_f (mm_ls_k mm_ls_nil)))))) hv
    · have hv := hv.2 c2
      refine wp_iload hb rfl dX0_turn_38 ?_
      refine wp_aload_n hb rfl dX0_turn_40 ?_
      refine wp_getR hb ko_14 lf_0_18 (by decide) (ha0.2.1 _) ha0.1 dX0_turn_41 ?_
      refine wp_alen hb (x := nI 256) (ha0.2.2.2 _) (by decide) rfl dX0_turn_44 ?_
      refine wp_icmp_ge hb (t := 78) ⟨rfl, rfl⟩ dX0_turn_45 ⟨fun c3 => ?_, fun c3 => ?_⟩
      · have hv := hv.1 c3
        refine wp_iinc hb rfl (y := v3 + nI 1) rfl rfl dX0_turn_78 ?_
        refine wp_goto hb (t := 18) ⟨rfl, rfl⟩ dX0_turn_81 ?_
        exact wp_for (mm_ls_k (mm_ls_k (mm_ls_k (mm_ls_k (mm_ls_f (mm_ls_k mm_ls_nil)))))) hv
      · have hv := hv.2 c3
        refine wp_aload_n hb rfl dX0_turn_48 ?_
        refine wp_getR hb ko_14 lf_0_18 (by decide) (ha0.2.1 _) ha0.1 dX0_turn_49 ?_
        refine wp_iload_n hb rfl dX0_turn_52 ?_
        obtain ⟨q4, hv⟩ := hv
        refine wp_baload hb rfl (ha0.2.2.2 _) q4 dX0_turn_53 ?_
        refine wp_istore hb rfl dX0_turn_54 ?_
        refine wp_aload_n hb rfl dX0_turn_56 ?_
        refine wp_getR hb ko_14 lf_0_18 (by decide) (ha0.2.1 _) ha0.1 dX0_turn_57 ?_
        refine wp_iload_n hb rfl dX0_turn_60 ?_
        refine wp_aload_n hb rfl dX0_turn_61 ?_
        refine wp_getR hb ko_14 lf_0_18 (by decide) (ha0.2.1 _) ha0.1 dX0_turn_62 ?_
        refine wp_iload hb rfl dX0_turn_65 ?_
        obtain ⟨q5, hv⟩ := hv
        refine wp_baload hb rfl (ha0.2.2.2 _) q5 dX0_turn_67 ?_
        obtain ⟨q6, hv⟩ := hv
        refine wp_bastore hb rfl (ha0.2.2.2 _) ha0.2.2.1 q6 dX0_turn_68 ?_
        have hv := hv _ rfl
        generalize (mm_u2 m.1 (a0 + 1) v3.toNatClampNeg (vp_nar .boolean (m.1 (a0 + 1) (v2 - v3).toNatClampNeg)), m.2) = m1 at hv ⊢
        refine wp_aload_n hb rfl dX0_turn_69 ?_
        refine wp_getR hb ko_14 lf_0_18 (by decide) (ha0.2.1 _) ha0.1 dX0_turn_70 ?_
        refine wp_iload hb rfl dX0_turn_73 ?_
        refine wp_iload hb rfl dX0_turn_75 ?_
        obtain ⟨q7, hv⟩ := hv
        refine wp_bastore hb rfl (ha0.2.2.2 _) ha0.2.2.1 q7 dX0_turn_77 ?_
        have hv := hv _ rfl
        generalize (mm_u2 m1.1 (a0 + 1) (v2 - v3).toNatClampNeg (vp_nar .boolean (m.1 (a0 + 1) v3.toNatClampNeg)), m1.2) = m2 at hv ⊢
        refine wp_iinc hb rfl (y := v3 + nI 1) rfl rfl dX0_turn_78 ?_
        refine wp_goto hb (t := 18) ⟨rfl, rfl⟩ dX0_turn_81 ?_
        exact wp_for (mm_ls_k (mm_ls_k (mm_ls_k (mm_ls_k (mm_ls_f (mm_ls_f mm_ls_nil)))))) hv
