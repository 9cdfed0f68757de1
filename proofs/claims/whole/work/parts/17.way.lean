set_option maxRecDepth 100000 in
theorem v_X9_copyFrom {d sn : Nat} {a0 : Nat} {a1 : Nat} {m : mm_Mem} {P : mm_Mem → Prop} (hd : 1 ≤ d) (ha0 : shY a0) (ha1 : shY a1) 
    (hv : ∀ m1 : mm_Mem, m1 = (mm_u2 m.1 a0 0 (m.1 a1 0), m.2) → (∀ m2 : mm_Mem, m2 = (mm_u2 m1.1 a0 1 (m1.1 a1 1), m1.2) → ((¬ nI 0 < 0 ∧ ¬ nI 0 < 0 ∧ ¬ nI 8 < 0 ∧ (nI 0).toNatClampNeg + (nI 8).toNatClampNeg ≤ 8 ∧ (nI 0).toNatClampNeg + (nI 8).toNatClampNeg ≤ 8) ∧ (∀ m3 : mm_Mem, m3 = (mm_row m2.1 (a0 + 1) (va_cpy (m2.1 (a1 + 1)) (m2.1 (a0 + 1)) (nI 0).toNatClampNeg (nI 0).toNatClampNeg (nI 8).toNatClampNeg), m2.2) → (P m3))))) :
    mm_sp (d + 1) sn kX9_copyFrom [.ref a0, .ref a1] m (qV P) := by
  have hb := mb_89
  refine wp_in (la := [some (.ref a0), some (.ref a1)]) ⟨⟨Nat.le_of_ble_eq_true rfl, by decide, by decide⟩, rfl⟩ ?_
  refine wp_aload_n hb rfl dX9_copyFrom_0 ?_
  refine wp_aload_n hb rfl dX9_copyFrom_1 ?_
  refine wp_getI hb ko_89 lf_9_15 (by decide) (ha1.2.1 _) dX9_copyFrom_2 ?_
  refine wp_putI hb ko_89 lf_9_15 (by decide) (ha0.2.1 _) dX9_copyFrom_5 ?_
  have hv := hv _ rfl
  generalize (mm_u2 m.1 a0 0 (m.1 a1 0), m.2) = m1 at hv ⊢
  refine wp_aload_n hb rfl dX9_copyFrom_8 ?_
  refine wp_aload_n hb rfl dX9_copyFrom_9 ?_
  refine wp_getI hb ko_89 lf_9_19 (by decide) (ha1.2.1 _) dX9_copyFrom_10 ?_
  refine wp_putI hb ko_89 lf_9_19 (by decide) (ha0.2.1 _) dX9_copyFrom_13 ?_
  have hv := hv _ rfl
  generalize (mm_u2 m1.1 a0 1 (m1.1 a1 1), m1.2) = m2 at hv ⊢
  refine wp_aload_n hb rfl dX9_copyFrom_16 ?_
  refine wp_getR hb ko_89 lf_9_9 (by decide) (ha1.2.1 _) ha1.1 dX9_copyFrom_17 ?_
  refine wp_iconst hb (x := nI 0) rfl dX9_copyFrom_20 ?_
  refine wp_aload_n hb rfl dX9_copyFrom_21 ?_
  refine wp_getR hb ko_89 lf_9_9 (by decide) (ha0.2.1 _) ha0.1 dX9_copyFrom_22 ?_
  refine wp_iconst hb (x := nI 0) rfl dX9_copyFrom_25 ?_
  refine wp_bipush hb (x := nI 8) rfl dX9_copyFrom_26 ?_
  obtain ⟨q1, hv⟩ := hv
  refine wp_copyI hb ko_89 lm_9_22 (Nat.le_of_ble_eq_true rfl) (by omega) (ha1.2.2 _) (ha0.2.2 _) ⟨(Nat.succ_ne_zero _), (Nat.succ_ne_zero _)⟩ q1 dX9_copyFrom_28 ?_
  have hv := hv _ rfl
  generalize (mm_row m2.1 (a0 + 1) (va_cpy (m2.1 (a1 + 1)) (m2.1 (a0 + 1)) (nI 0).toNatClampNeg (nI 0).toNatClampNeg (nI 8).toNatClampNeg), m2.2) = m3 at hv ⊢
  exact wp_retV hb rfl dX9_copyFrom_31 hv
set_option maxRecDepth 100000 in
theorem v_X9_becomeKind {d sn : Nat} {a0 : Nat} {v1 : Int32} {v2 : Int32} {v3 : Int32} {m : mm_Mem} {P : mm_Mem → Prop} (ha0 : shY a0) 
    (hv : ∀ m1 : mm_Mem, m1 = (mm_u2 m.1 a0 0 v1, m.2) → (∀ m2 : mm_Mem, m2 = (mm_u2 m1.1 a0 1 v2, m1.2) → (mm_wp d sn kX9_becomeKind 13 [some (.ref a0), none, none, some (.int v3), some (.int (nI 0))] [] m2 (qV P)))) :
    mm_sp (d + 1) sn kX9_becomeKind [.ref a0, .int v1, .int v2, .int v3] m (qV P) := by
  have hb := mb_90
  refine wp_in (la := [some (.ref a0), some (.int v1), some (.int v2), some (.int v3), none]) ⟨⟨Nat.le_of_ble_eq_true rfl, by decide, by decide⟩, rfl⟩ ?_
  refine wp_aload_n hb rfl dX9_becomeKind_0 ?_
  refine wp_iload_n hb rfl dX9_becomeKind_1 ?_
  refine wp_putI hb ko_90 lf_9_15 (by decide) (ha0.2.1 _) dX9_becomeKind_2 ?_
  have hv := hv _ rfl
  generalize (mm_u2 m.1 a0 0 v1, m.2) = m1 at hv ⊢
  refine wp_aload_n hb rfl dX9_becomeKind_5 ?_
  refine wp_iload_n hb rfl dX9_becomeKind_6 ?_
  refine wp_putI hb ko_90 lf_9_19 (by decide) (ha0.2.1 _) dX9_becomeKind_7 ?_
  have hv := hv _ rfl
  generalize (mm_u2 m1.1 a0 1 v2, m1.2) = m2 at hv ⊢
  refine wp_iconst hb (x := nI 0) rfl dX9_becomeKind_10 ?_
  refine wp_istore hb rfl dX9_becomeKind_11 ?_
  exact wp_for (mm_ls_k (mm_ls_f (mm_ls_f (mm_ls_k (mm_ls_k mm_ls_nil))))) hv
set_option maxRecDepth 100000 in
theorem v_X9_becomeKind_13 {d sn : Nat} {a0 : Nat} {v3 : Int32} {v4 : Int32} {m : mm_Mem} {P : mm_Mem → Prop} (ha0 : shY a0) 
    (hv : ((nI 8 ≤ v4) → (P m)) ∧ (¬ (nI 8 ≤ v4) → (((v3 ≤ v4) → (vp_in v4 8 ∧ (∀ m1 : mm_Mem, m1 = (mm_u2 m.1 (a0 + 1) v4.toNatClampNeg v4, m.2) → (mm_wp d sn kX9_becomeKind 13 [some (.ref a0), none, none, some (.int v3), some (.int (v4 + nI 1))] [] m1 (qV P))))) ∧ (¬ (v3 ≤ v4) → (mm_sp d sn kX9_targetByKind [.ref a0, .int v4, .int v3] m (qI fun x4 m2 => vp_in v4 8 ∧ (∀ m3 : mm_Mem, m3 = (mm_u2 m2.1 (a0 + 1) v4.toNatClampNeg x4, m2.2) → (mm_wp d sn kX9_becomeKind 13 [some (.ref a0), none, none, some (.int v3), some (.int (v4 + nI 1))] [] m3 (qV P))))))))) :
    mm_wp d sn kX9_becomeKind 13 [some (.ref a0), none, none, some (.int v3), some (.int v4)] [] m (qV P) := by
  have hb := mb_90
  refine wp_iload hb rfl dX9_becomeKind_13 ?_
  refine wp_aload_n hb rfl dX9_becomeKind_15 ?_
  refine wp_getR hb ko_90 lf_9_9 (by decide) (ha0.2.1 _) ha0.1 dX9_becomeKind_16 ?_
  refine wp_alen hb (x := nI 8) (ha0.2.2 _) (by decide) rfl dX9_becomeKind_19 ?_
  refine wp_icmp_ge hb (t := 54) ⟨rfl, rfl⟩ dX9_becomeKind_20 ⟨fun c1 => ?_, fun c1 => ?_⟩
  · have hv := hv.1 c1
    exact wp_retV hb rfl dX9_becomeKind_54 hv
  · have hv := hv.2 c1
    refine wp_aload_n hb rfl dX9_becomeKind_23 ?_
    refine wp_getR hb ko_90 lf_9_9 (by decide) (ha0.2.1 _) ha0.1 dX9_becomeKind_24 ?_
    refine wp_iload hb rfl dX9_becomeKind_27 ?_
    refine wp_iload hb rfl dX9_becomeKind_29 ?_
    refine wp_iload_n hb rfl dX9_becomeKind_31 ?_
    refine wp_icmp_ge hb (t := 45) ⟨rfl, rfl⟩ dX9_becomeKind_32 ⟨fun c2 => ?_, fun c2 => ?_⟩
    · have hv := hv.1 c2
      refine wp_iload hb rfl dX9_becomeKind_45 ?_
      obtain ⟨q3, hv⟩ := hv
      refine wp_iastore hb rfl (ha0.2.2 _) (Nat.succ_ne_zero _) q3 dX9_becomeKind_47 ?_
      have hv := hv _ rfl
      generalize (mm_u2 m.1 (a0 + 1) v4.toNatClampNeg v4, m.2) = m1 at hv ⊢
      refine wp_iinc hb rfl (y := v4 + nI 1) rfl rfl dX9_becomeKind_48 ?_
      refine wp_goto hb (t := 13) ⟨rfl, rfl⟩ dX9_becomeKind_51 ?_
      exact wp_for (mm_ls_k (mm_ls_k (mm_ls_k (mm_ls_k (mm_ls_k mm_ls_nil))))) hv
    · have hv := hv.2 c2
      refine wp_aload_n hb rfl dX9_becomeKind_35 ?_
      refine wp_iload hb rfl dX9_becomeKind_36 ?_
      refine wp_iload_n hb rfl dX9_becomeKind_38 ?_
      refine wp_callV hb (k' := 91) ko_90 lm_9_28 rfl (ha0.2.1 _) (by decide) (Nat.le_of_ble_eq_true rfl) dX9_becomeKind_39 (sp_cI (hv.I (Nat.le_refl _) ?_))
      intro x4 m2 hv
      refine wp_goto hb (t := 47) ⟨rfl, rfl⟩ dX9_becomeKind_42 ?_
      obtain ⟨q5, hv⟩ := hv
      refine wp_iastore hb rfl (ha0.2.2 _) (Nat.succ_ne_zero _) q5 dX9_becomeKind_47 ?_
      have hv := hv _ rfl
      generalize (mm_u2 m2.1 (a0 + 1) v4.toNatClampNeg x4, m2.2) = m3 at hv ⊢
      refine wp_iinc hb rfl (y := v4 + nI 1) rfl rfl dX9_becomeKind_48 ?_
      refine wp_goto hb (t := 13) ⟨rfl, rfl⟩ dX9_becomeKind_51 ?_
      exact wp_for (mm_ls_k (mm_ls_k (mm_ls_k (mm_ls_k (mm_ls_k mm_ls_nil))))) hv
set_option maxRecDepth 100000 in
theorem v_X9_targetByKind {d sn : Nat} {a0 : Nat} {v1 : Int32} {v2 : Int32} {m : mm_Mem} {P : Int32 → mm_Mem → Prop} (ha0 : shY a0) 
    (hv : (m.1 a0 0 = nI 0 → (mm_sp d sn kX10_modulo [.int (v1 + (m.1 a0 1)), .int v2] m (qI fun x2 m1 => P x2 m1))) ∧ (m.1 a0 0 = nI 1 → (mm_sp d sn kX10_modulo [.int (((m.1 a0 1) + v2) - v1), .int v2] m (qI fun x4 m2 => P x4 m2))) ∧ (m.1 a0 0 = nI 2 → (mm_sp d sn kX10_modulo [.int (v1 * (m.1 a0 1)), .int v2] m (qI fun x6 m3 => P x6 m3))) ∧ (m.1 a0 0 = nI 3 → (mm_sp d sn kX10_modulo [.int (m.1 a0 1), .int v2] m (qI fun x8 m4 => mm_sp d sn kX10_modulo [.int ((m4.1 a0 1) + (nI 1)), .int v2] m4 (qI fun x9 m5 => mm_sp d sn kX9_swapped [.int v1, .int x8, .int x9] m5 (qI fun x10 m6 => P x10 m6))))) ∧ (m.1 a0 0 = nI 4 → (((¬ v1 = v2 - (nI 1)) → (mm_sp d sn kX10_modulo [.int (v1 + (m.1 a0 1)), .int (v2 - (nI 1))] m (qI fun x13 m7 => P x13 m7))) ∧ (¬ (¬ v1 = v2 - (nI 1)) → (P v1 m)))) ∧ (¬ m.1 a0 0 = nI 0 → ¬ m.1 a0 0 = nI 1 → ¬ m.1 a0 0 = nI 2 → ¬ m.1 a0 0 = nI 3 → ¬ m.1 a0 0 = nI 4 → (P v1 m))) :
    mm_sp (d + 1) sn kX9_targetByKind [.ref a0, .int v1, .int v2] m (qI P) := by
  have hb := mb_91
  refine wp_in (la := [some (.ref a0), some (.int v1), some (.int v2)]) ⟨⟨Nat.le_of_ble_eq_true rfl, by decide, by decide⟩, rfl⟩ ?_
  refine wp_aload_n hb rfl dX9_targetByKind_0 ?_
  refine wp_getI hb ko_91 lf_9_15 (by decide) (ha0.2.1 _) dX9_targetByKind_1 ?_
  by_cases hc : (m.1 a0 0).toInt < 0 ∨ 4 < (m.1 a0 0).toInt
  · refine wp_tabO hb hc (t := 122) ⟨rfl, rfl⟩ dX9_targetByKind_4 ?_
    have hv := hv.2.2.2.2.2 (mm_out hc (by decide) (by decide)) (mm_out hc (by decide) (by decide)) (mm_out hc (by decide) (by decide)) (mm_out hc (by decide) (by decide)) (mm_out hc (by decide) (by decide))
    refine wp_iload_n hb rfl dX9_targetByKind_122 ?_
    exact wp_retI hb rfl dX9_targetByKind_123 hv
  · have hx := mm_tabc (n := 5) (lo := 0) (by decide) hc (by decide)
    obtain ⟨j, hj, hx⟩ := hx
    by_cases g0 : j = 0
    · subst g0
      have hv := hv.1 hx
      have hc9 := hc
      rw [hx] at hc9 ⊢
      refine wp_tabI hb (off := 36) hc9 rfl (t := 40) ⟨rfl, rfl⟩ dX9_targetByKind_4 ?_
      refine wp_iload_n hb rfl dX9_targetByKind_40 ?_
      refine wp_aload_n hb rfl dX9_targetByKind_41 ?_
      refine wp_getI hb ko_91 lf_9_19 (by decide) (ha0.2.1 _) dX9_targetByKind_42 ?_
      refine wp_iadd hb dX9_targetByKind_45 ?_
      refine wp_iload_n hb rfl dX9_targetByKind_46 ?_
      refine wp_callS hb (k' := 150) ko_91 lm_9_32 (by decide) rfl (Nat.le_of_ble_eq_true rfl) dX9_targetByKind_47 (sp_cI (hv.I (Nat.le_refl _) ?_))
      intro x2 m1 hv
      exact wp_retI hb rfl dX9_targetByKind_50 hv
    by_cases g1 : j = 1
    · subst g1
      have hv := hv.2.1 hx
      have hc9 := hc
      rw [hx] at hc9 ⊢
      refine wp_tabI hb (off := 47) hc9 rfl (t := 51) ⟨rfl, rfl⟩ dX9_targetByKind_4 ?_
      refine wp_aload_n hb rfl dX9_targetByKind_51 ?_
      refine wp_getI hb ko_91 lf_9_19 (by decide) (ha0.2.1 _) dX9_targetByKind_52 ?_
      refine wp_iload_n hb rfl dX9_targetByKind_55 ?_
      refine wp_iadd hb dX9_targetByKind_56 ?_
      refine wp_iload_n hb rfl dX9_targetByKind_57 ?_
      refine wp_isub hb dX9_targetByKind_58 ?_
      refine wp_iload_n hb rfl dX9_targetByKind_59 ?_
      refine wp_callS hb (k' := 150) ko_91 lm_9_32 (by decide) rfl (Nat.le_of_ble_eq_true rfl) dX9_targetByKind_60 (sp_cI (hv.I (Nat.le_refl _) ?_))
      intro x4 m2 hv
      exact wp_retI hb rfl dX9_targetByKind_63 hv
    by_cases g2 : j = 2
    · subst g2
      have hv := hv.2.2.1 hx
      have hc9 := hc
      rw [hx] at hc9 ⊢
      refine wp_tabI hb (off := 60) hc9 rfl (t := 64) ⟨rfl, rfl⟩ dX9_targetByKind_4 ?_
      refine wp_iload_n hb rfl dX9_targetByKind_64 ?_
      refine wp_aload_n hb rfl dX9_targetByKind_65 ?_
      refine wp_getI hb ko_91 lf_9_19 (by decide) (ha0.2.1 _) dX9_targetByKind_66 ?_
      refine wp_imul hb dX9_targetByKind_69 ?_
      refine wp_iload_n hb rfl dX9_targetByKind_70 ?_
      refine wp_callS hb (k' := 150) ko_91 lm_9_32 (by decide) rfl (Nat.le_of_ble_eq_true rfl) dX9_targetByKind_71 (sp_cI (hv.I (Nat.le_refl _) ?_))
      intro x6 m3 hv
      exact wp_retI hb rfl dX9_targetByKind_74 hv
    by_cases g3 : j = 3
    · subst g3
      have hv := hv.2.2.2.1 hx
      have hc9 := hc
      rw [hx] at hc9 ⊢
      refine wp_tabI hb (off := 71) hc9 rfl (t := 75) ⟨rfl, rfl⟩ dX9_targetByKind_4 ?_
      refine wp_iload_n hb rfl dX9_targetByKind_75 ?_
      refine wp_aload_n hb rfl dX9_targetByKind_76 ?_
      refine wp_getI hb ko_91 lf_9_19 (by decide) (ha0.2.1 _) dX9_targetByKind_77 ?_
      refine wp_iload_n hb rfl dX9_targetByKind_80 ?_
      refine wp_callS hb (k' := 150) ko_91 lm_9_32 (by decide) rfl (Nat.le_of_ble_eq_true rfl) dX9_targetByKind_81 (sp_cI (hv.I (Nat.le_refl _) ?_))
      intro x8 m4 hv
      refine wp_aload_n hb rfl dX9_targetByKind_84 ?_
      refine wp_getI hb ko_91 lf_9_19 (by decide) (ha0.2.1 _) dX9_targetByKind_85 ?_
      refine wp_iconst hb (x := nI 1) rfl dX9_targetByKind_88 ?_
      refine wp_iadd hb dX9_targetByKind_89 ?_
      refine wp_iload_n hb rfl dX9_targetByKind_90 ?_
      refine wp_callS hb (k' := 150) ko_91 lm_9_32 (by decide) rfl (Nat.le_of_ble_eq_true rfl) dX9_targetByKind_91 (sp_cI (hv.I (Nat.le_refl _) ?_))
      intro x9 m5 hv
      refine wp_callS hb (k' := 92) ko_91 lm_9_35 (by decide) rfl (Nat.le_of_ble_eq_true rfl) dX9_targetByKind_94 (sp_cI (hv.I (Nat.le_refl _) ?_))
      intro x10 m6 hv
      exact wp_retI hb rfl dX9_targetByKind_97 hv
    by_cases g4 : j = 4
    · subst g4
      have hv := hv.2.2.2.2.1 hx
      have hc9 := hc
      rw [hx] at hc9 ⊢
      refine wp_tabI hb (off := 94) hc9 rfl (t := 98) ⟨rfl, rfl⟩ dX9_targetByKind_4 ?_
      refine wp_iload_n hb rfl dX9_targetByKind_98 ?_
      refine wp_iload_n hb rfl dX9_targetByKind_99 ?_
      refine wp_iconst hb (x := nI 1) rfl dX9_targetByKind_100 ?_
      refine wp_isub hb dX9_targetByKind_101 ?_
      refine wp_icmp_ne hb (t := 109) ⟨rfl, rfl⟩ dX9_targetByKind_102 ⟨fun c12 => ?_, fun c12 => ?_⟩
      · have hv := hv.1 c12
        refine wp_iload_n hb rfl dX9_targetByKind_109 ?_
        refine wp_aload_n hb rfl dX9_targetByKind_110 ?_
        refine wp_getI hb ko_91 lf_9_19 (by decide) (ha0.2.1 _) dX9_targetByKind_111 ?_
        refine wp_iadd hb dX9_targetByKind_114 ?_
        refine wp_iload_n hb rfl dX9_targetByKind_115 ?_
        refine wp_iconst hb (x := nI 1) rfl dX9_targetByKind_116 ?_
        refine wp_isub hb dX9_targetByKind_117 ?_
        refine wp_callS hb (k' := 150) ko_91 lm_9_32 (by decide) rfl (Nat.le_of_ble_eq_true rfl) dX9_targetByKind_118 (sp_cI (hv.I (Nat.le_refl _) ?_))
        intro x13 m7 hv
        exact wp_retI hb rfl dX9_targetByKind_121 hv
      · have hv := hv.2 c12
        refine wp_iload_n hb rfl dX9_targetByKind_105 ?_
        refine wp_goto hb (t := 121) ⟨rfl, rfl⟩ dX9_targetByKind_106 ?_
        exact wp_retI hb rfl dX9_targetByKind_121 hv
    omega
set_option maxRecDepth 100000 in
theorem v_X9_swapped {d sn : Nat} {v0 : Int32} {v1 : Int32} {v2 : Int32} {m : mm_Mem} {P : Int32 → mm_Mem → Prop} 
    (hv : ((¬ v0 = v1) → (((¬ v0 = v2) → (P v0 m)) ∧ (¬ (¬ v0 = v2) → (P v1 m)))) ∧ (¬ (¬ v0 = v1) → (P v2 m))) :
    mm_sp (d + 1) sn kX9_swapped [.int v0, .int v1, .int v2] m (qI P) := by
  have hb := mb_92
  refine wp_in (la := [some (.int v0), some (.int v1), some (.int v2)]) ⟨⟨Nat.le_of_ble_eq_true rfl, by decide, by decide⟩, rfl⟩ ?_
  refine wp_iload_n hb rfl dX9_swapped_0 ?_
  refine wp_iload_n hb rfl dX9_swapped_1 ?_
  refine wp_icmp_ne hb (t := 7) ⟨rfl, rfl⟩ dX9_swapped_2 ⟨fun c1 => ?_, fun c1 => ?_⟩
  · have hv := hv.1 c1
    refine wp_iload_n hb rfl dX9_swapped_7 ?_
    refine wp_iload_n hb rfl dX9_swapped_8 ?_
    refine wp_icmp_ne hb (t := 16) ⟨rfl, rfl⟩ dX9_swapped_9 ⟨fun c2 => ?_, fun c2 => ?_⟩
    · have hv := hv.1 c2
      refine wp_iload_n hb rfl dX9_swapped_16 ?_
      exact wp_retI hb rfl dX9_swapped_17 hv
    · have hv := hv.2 c2
      refine wp_iload_n hb rfl dX9_swapped_12 ?_
      refine wp_goto hb (t := 17) ⟨rfl, rfl⟩ dX9_swapped_13 ?_
      exact wp_retI hb rfl dX9_swapped_17 hv
  · have hv := hv.2 c1
    refine wp_iload_n hb rfl dX9_swapped_5 ?_
    exact wp_retI hb rfl dX9_swapped_6 hv
set_option maxRecDepth 100000 in
theorem v_X9_becomeByHand {d sn : Nat} {a0 : Nat} {v1 : Int32} {v2 : Int32} {m : mm_Mem} {P : mm_Mem → Prop} (ha0 : shY a0) 
    (hv : ∀ m1 : mm_Mem, m1 = (mm_u2 m.1 a0 0 (nI 5), m.2) → (∀ m2 : mm_Mem, m2 = (mm_u2 m1.1 a0 1 (nI 0), m1.2) → (mm_wp d sn kX9_becomeByHand 21 [some (.ref a0), none, some (.int v2), some (.int v1), some (.int ((nI 8) - (nI 1)))] [] m2 (qV P)))) :
    mm_sp (d + 1) sn kX9_becomeByHand [.ref a0, .int v1, .int v2] m (qV P) := by
  have hb := mb_93
  refine wp_in (la := [some (.ref a0), some (.int v1), some (.int v2), none, none]) ⟨⟨Nat.le_of_ble_eq_true rfl, by decide, by decide⟩, rfl⟩ ?_
  refine wp_aload_n hb rfl dX9_becomeByHand_0 ?_
  refine wp_iconst hb (x := nI 5) rfl dX9_becomeByHand_1 ?_
  refine wp_putI hb ko_93 lf_9_15 (by decide) (ha0.2.1 _) dX9_becomeByHand_2 ?_
  have hv := hv _ rfl
  generalize (mm_u2 m.1 a0 0 (nI 5), m.2) = m1 at hv ⊢
  refine wp_aload_n hb rfl dX9_becomeByHand_5 ?_
  refine wp_iconst hb (x := nI 0) rfl dX9_becomeByHand_6 ?_
  refine wp_putI hb ko_93 lf_9_19 (by decide) (ha0.2.1 _) dX9_becomeByHand_7 ?_
  have hv := hv _ rfl
  generalize (mm_u2 m1.1 a0 1 (nI 0), m1.2) = m2 at hv ⊢
  refine wp_iload_n hb rfl dX9_becomeByHand_10 ?_
  refine wp_istore_n hb rfl dX9_becomeByHand_11 ?_
  refine wp_aload_n hb rfl dX9_becomeByHand_12 ?_
  refine wp_getR hb ko_93 lf_9_9 (by decide) (ha0.2.1 _) ha0.1 dX9_becomeByHand_13 ?_
  refine wp_alen hb (x := nI 8) (ha0.2.2 _) (by decide) rfl dX9_becomeByHand_16 ?_
  refine wp_iconst hb (x := nI 1) rfl dX9_becomeByHand_17 ?_
  refine wp_isub hb dX9_becomeByHand_18 ?_
  refine wp_istore hb rfl dX9_becomeByHand_19 ?_
  exact wp_for (mm_ls_k (mm_ls_f (mm_ls_k (mm_ls_k (mm_ls_k mm_ls_nil))))) hv
set_option maxRecDepth 100000 in
theorem v_X9_becomeByHand_21 {d sn : Nat} {a0 : Nat} {v2 : Int32} {v3 : Int32} {v4 : Int32} {m : mm_Mem} {P : mm_Mem → Prop} (ha0 : shY a0) 
    (hv : ((v4 < 0) → (P m)) ∧ (¬ (v4 < 0) → (((v2 ≤ v4) → (vp_in v4 8 ∧ (∀ m1 : mm_Mem, m1 = (mm_u2 m.1 (a0 + 1) v4.toNatClampNeg v4, m.2) → (((v2 ≤ v4) → (mm_wp d sn kX9_becomeByHand 21 [some (.ref a0), none, some (.int v2), some (.int v3), some (.int (v4 + (-1)))] [] m1 (qV P))) ∧ (¬ (v2 ≤ v4) → (mm_wp d sn kX9_becomeByHand 21 [some (.ref a0), none, some (.int v2), some (.int (v3 / (nI 10))), some (.int (v4 + (-1)))] [] m1 (qV P))))))) ∧ (¬ (v2 ≤ v4) → (vp_in v4 8 ∧ (∀ m2 : mm_Mem, m2 = (mm_u2 m.1 (a0 + 1) v4.toNatClampNeg ((mm_rem v3 (nI 10)) - (nI 1)), m.2) → (((v2 ≤ v4) → (mm_wp d sn kX9_becomeByHand 21 [some (.ref a0), none, some (.int v2), some (.int v3), some (.int (v4 + (-1)))] [] m2 (qV P))) ∧ (¬ (v2 ≤ v4) → (mm_wp d sn kX9_becomeByHand 21 [some (.ref a0), none, some (.int v2), some (.int (v3 / (nI 10))), some (.int (v4 + (-1)))] [] m2 (qV P)))))))))) :
    mm_wp d sn kX9_becomeByHand 21 [some (.ref a0), none, some (.int v2), some (.int v3), some (.int v4)] [] m (qV P) := by
  have hb := mb_93
  refine wp_iload hb rfl dX9_becomeByHand_21 ?_
  refine wp_if_lt hb (y := 0) (t := 67) ⟨rfl, rfl⟩ dX9_becomeByHand_23 ⟨fun c1 => ?_, fun c1 => ?_⟩
  · have hv := hv.1 c1
    exact wp_retV hb rfl dX9_becomeByHand_67 hv
  · have hv := hv.2 c1
    refine wp_aload_n hb rfl dX9_becomeByHand_26 ?_
    refine wp_getR hb ko_93 lf_9_9 (by decide) (ha0.2.1 _) ha0.1 dX9_becomeByHand_27 ?_
    refine wp_iload hb rfl dX9_becomeByHand_30 ?_
    refine wp_iload hb rfl dX9_becomeByHand_32 ?_
    refine wp_iload_n hb rfl dX9_becomeByHand_34 ?_
    refine wp_icmp_ge hb (t := 47) ⟨rfl, rfl⟩ dX9_becomeByHand_35 ⟨fun c2 => ?_, fun c2 => ?_⟩
    · have hv := hv.1 c2
      refine wp_iload hb rfl dX9_becomeByHand_47 ?_
      obtain ⟨q3, hv⟩ := hv
      refine wp_iastore hb rfl (ha0.2.2 _) (Nat.succ_ne_zero _) q3 dX9_becomeByHand_49 ?_
      have hv := hv _ rfl
      generalize (mm_u2 m.1 (a0 + 1) v4.toNatClampNeg v4, m.2) = m1 at hv ⊢
      refine wp_iload hb rfl dX9_becomeByHand_50 ?_
      refine wp_iload_n hb rfl dX9_becomeByHand_52 ?_
      refine wp_icmp_ge hb (t := 61) ⟨rfl, rfl⟩ dX9_becomeByHand_53 ⟨fun c4 => ?_, fun c4 => ?_⟩
      · have hv := hv.1 c4
        refine wp_iinc hb rfl (y := v4 + (-1)) (congrArg (fun z => v4 + z) (by decide : Int32.ofInt (-1) = (-1))) rfl dX9_becomeByHand_61 ?_
        refine wp_goto hb (t := 21) ⟨rfl, rfl⟩ dX9_becomeByHand_64 ?_
        exact wp_for (mm_ls_k (mm_ls_k (mm_ls_k (mm_ls_k (mm_ls_k mm_ls_nil))))) hv
      · have hv := hv.2 c4
        refine wp_iload_n hb rfl dX9_becomeByHand_56 ?_
        refine wp_bipush hb (x := nI 10) rfl dX9_becomeByHand_57 ?_
        refine wp_idiv hb (by decide) dX9_becomeByHand_59 ?_
        refine wp_istore_n hb rfl dX9_becomeByHand_60 ?_
        refine wp_iinc hb rfl (y := v4 + (-1)) (congrArg (fun z => v4 + z) (by decide : Int32.ofInt (-1) = (-1))) rfl dX9_becomeByHand_61 ?_
        refine wp_goto hb (t := 21) ⟨rfl, rfl⟩ dX9_becomeByHand_64 ?_
        exact wp_for (mm_ls_k (mm_ls_k (mm_ls_k (mm_ls_k (mm_ls_k mm_ls_nil))))) hv
    · have hv := hv.2 c2
      refine wp_iload_n hb rfl dX9_becomeByHand_38 ?_
      refine wp_bipush hb (x := nI 10) rfl dX9_becomeByHand_39 ?_
      refine wp_irem hb (by decide) dX9_becomeByHand_41 ?_
      refine wp_iconst hb (x := nI 1) rfl dX9_becomeByHand_42 ?_
      refine wp_isub hb dX9_becomeByHand_43 ?_
      refine wp_goto hb (t := 49) ⟨rfl, rfl⟩ dX9_becomeByHand_44 ?_
      obtain ⟨q5, hv⟩ := hv
      refine wp_iastore hb rfl (ha0.2.2 _) (Nat.succ_ne_zero _) q5 dX9_becomeByHand_49 ?_
      have hv := hv _ rfl
      generalize (mm_u2 m.1 (a0 + 1) v4.toNatClampNeg ((mm_rem v3 (nI 10)) - (nI 1)), m.2) = m2 at hv ⊢
      refine wp_iload hb rfl dX9_becomeByHand_50 ?_
      refine wp_iload_n hb rfl dX9_becomeByHand_52 ?_
      refine wp_icmp_ge hb (t := 61) ⟨rfl, rfl⟩ dX9_becomeByHand_53 ⟨fun c6 => ?_, fun c6 => ?_⟩
      · have hv := hv.1 c6
        refine wp_iinc hb rfl (y := v4 + (-1)) (congrArg (fun z => v4 + z) (by decide : Int32.ofInt (-1) = (-1))) rfl dX9_becomeByHand_61 ?_
        refine wp_goto hb (t := 21) ⟨rfl, rfl⟩ dX9_becomeByHand_64 ?_
        exact wp_for (mm_ls_k (mm_ls_k (mm_ls_k (mm_ls_k (mm_ls_k mm_ls_nil))))) hv
      · have hv := hv.2 c6
        refine wp_iload_n hb rfl dX9_becomeByHand_56 ?_
        refine wp_bipush hb (x := nI 10) rfl dX9_becomeByHand_57 ?_
        refine wp_idiv hb (by decide) dX9_becomeByHand_59 ?_
        refine wp_istore_n hb rfl dX9_becomeByHand_60 ?_
        refine wp_iinc hb rfl (y := v4 + (-1)) (congrArg (fun z => v4 + z) (by decide : Int32.ofInt (-1) = (-1))) rfl dX9_becomeByHand_61 ?_
        refine wp_goto hb (t := 21) ⟨rfl, rfl⟩ dX9_becomeByHand_64 ?_
        exact wp_for (mm_ls_k (mm_ls_k (mm_ls_k (mm_ls_k (mm_ls_k mm_ls_nil))))) hv
set_option maxRecDepth 100000 in
theorem v_X9_pointFor {d sn : Nat} {a0 : Nat} {v1 : Int32} {m : mm_Mem} {P : Int32 → mm_Mem → Prop} (ha0 : shY a0) 
    (hv : ((v1 < 0) → (P (-1) m)) ∧ (¬ (v1 < 0) → (((v1 < nI 8) → (vp_in v1 8 ∧ (P (m.1 (a0 + 1) v1.toNatClampNeg) m))) ∧ (¬ (v1 < nI 8) → (P (-1) m))))) :
    mm_sp (d + 1) sn kX9_pointFor [.ref a0, .int v1] m (qI P) := by
  have hb := mb_94
  refine wp_in (la := [some (.ref a0), some (.int v1)]) ⟨⟨Nat.le_of_ble_eq_true rfl, by decide, by decide⟩, rfl⟩ ?_
  refine wp_iload_n hb rfl dX9_pointFor_0 ?_
  refine wp_if_lt hb (y := 0) (t := 13) ⟨rfl, rfl⟩ dX9_pointFor_1 ⟨fun c1 => ?_, fun c1 => ?_⟩
  · have hv := hv.1 c1
    refine wp_iconst hb (x := (-1)) rfl dX9_pointFor_13 ?_
    exact wp_retI hb rfl dX9_pointFor_14 hv
  · have hv := hv.2 c1
    refine wp_iload_n hb rfl dX9_pointFor_4 ?_
    refine wp_aload_n hb rfl dX9_pointFor_5 ?_
    refine wp_getR hb ko_94 lf_9_9 (by decide) (ha0.2.1 _) ha0.1 dX9_pointFor_6 ?_
    refine wp_alen hb (x := nI 8) (ha0.2.2 _) (by decide) rfl dX9_pointFor_9 ?_
    refine wp_icmp_lt hb (t := 15) ⟨rfl, rfl⟩ dX9_pointFor_10 ⟨fun c2 => ?_, fun c2 => ?_⟩
    · have hv := hv.1 c2
      refine wp_aload_n hb rfl dX9_pointFor_15 ?_
      refine wp_getR hb ko_94 lf_9_9 (by decide) (ha0.2.1 _) ha0.1 dX9_pointFor_16 ?_
      refine wp_iload_n hb rfl dX9_pointFor_19 ?_
      obtain ⟨q3, hv⟩ := hv
      refine wp_iaload hb rfl (ha0.2.2 _) q3 dX9_pointFor_20 ?_
      exact wp_retI hb rfl dX9_pointFor_21 hv
    · have hv := hv.2 c2
      refine wp_iconst hb (x := (-1)) rfl dX9_pointFor_13 ?_
      exact wp_retI hb rfl dX9_pointFor_14 hv
set_option maxRecDepth 100000 in
theorem v_X9_setFor {d sn : Nat} {a0 : Nat} {v1 : Int32} {m : mm_Mem} {P : Int32 → mm_Mem → Prop} (ha0 : shY a0) 
    (hv : mm_wp d sn kX9_setFor 4 [some (.ref a0), some (.int v1), some (.int (nI 0)), some (.int (nI 0))] [] m (qI P)) :
    mm_sp (d + 1) sn kX9_setFor [.ref a0, .int v1] m (qI P) := by
  have hb := mb_95
  refine wp_in (la := [some (.ref a0), some (.int v1), none, none]) ⟨⟨Nat.le_of_ble_eq_true rfl, by decide, by decide⟩, rfl⟩ ?_
  refine wp_iconst hb (x := nI 0) rfl dX9_setFor_0 ?_
  refine wp_istore_n hb rfl dX9_setFor_1 ?_
  refine wp_iconst hb (x := nI 0) rfl dX9_setFor_2 ?_
  refine wp_istore_n hb rfl dX9_setFor_3 ?_
  exact wp_for (mm_ls_k (mm_ls_k (mm_ls_k (mm_ls_k mm_ls_nil)))) hv
set_option maxRecDepth 100000 in
theorem v_X9_setFor_4 {d sn : Nat} {a0 : Nat} {v1 : Int32} {v2 : Int32} {v3 : Int32} {m : mm_Mem} {P : Int32 → mm_Mem → Prop} (ha0 : shY a0) 
    (hv : ((nI 8 ≤ v3) → (P v2 m)) ∧ (¬ (nI 8 ≤ v3) → (((¬ (mm_shr v1 v3) &&& (nI 1) = nI 1) → (mm_wp d sn kX9_setFor 4 [some (.ref a0), some (.int v1), some (.int v2), some (.int (v3 + nI 1))] [] m (qI P))) ∧ (¬ (¬ (mm_shr v1 v3) &&& (nI 1) = nI 1) → (vp_in v3 8 ∧ (mm_wp d sn kX9_setFor 4 [some (.ref a0), some (.int v1), some (.int (v2 ||| (mm_shl (nI 1) (m.1 (a0 + 1) v3.toNatClampNeg)))), some (.int (v3 + nI 1))] [] m (qI P))))))) :
    mm_wp d sn kX9_setFor 4 [some (.ref a0), some (.int v1), some (.int v2), some (.int v3)] [] m (qI P) := by
  have hb := mb_95
  refine wp_iload_n hb rfl dX9_setFor_4 ?_
  refine wp_aload_n hb rfl dX9_setFor_5 ?_
  refine wp_getR hb ko_95 lf_9_9 (by decide) (ha0.2.1 _) ha0.1 dX9_setFor_6 ?_
  refine wp_alen hb (x := nI 8) (ha0.2.2 _) (by decide) rfl dX9_setFor_9 ?_
  refine wp_icmp_ge hb (t := 39) ⟨rfl, rfl⟩ dX9_setFor_10 ⟨fun c1 => ?_, fun c1 => ?_⟩
  · have hv := hv.1 c1
    refine wp_iload_n hb rfl dX9_setFor_39 ?_
    exact wp_retI hb rfl dX9_setFor_40 hv
  · have hv := hv.2 c1
    refine wp_iload_n hb rfl dX9_setFor_13 ?_
    refine wp_iload_n hb rfl dX9_setFor_14 ?_
    refine wp_ishr hb dX9_setFor_15 ?_
    refine wp_iconst hb (x := nI 1) rfl dX9_setFor_16 ?_
    refine wp_iand hb dX9_setFor_17 ?_
    refine wp_iconst hb (x := nI 1) rfl dX9_setFor_18 ?_
    refine wp_icmp_ne hb (t := 33) ⟨rfl, rfl⟩ dX9_setFor_19 ⟨fun c2 => ?_, fun c2 => ?_⟩
    · have hv := hv.1 c2
      refine wp_iinc hb rfl (y := v3 + nI 1) rfl rfl dX9_setFor_33 ?_
      refine wp_goto hb (t := 4) ⟨rfl, rfl⟩ dX9_setFor_36 ?_
      exact wp_for (mm_ls_k (mm_ls_k (mm_ls_k (mm_ls_k mm_ls_nil)))) hv
    · have hv := hv.2 c2
      refine wp_iload_n hb rfl dX9_setFor_22 ?_
      refine wp_iconst hb (x := nI 1) rfl dX9_setFor_23 ?_
      refine wp_aload_n hb rfl dX9_setFor_24 ?_
      refine wp_getR hb ko_95 lf_9_9 (by decide) (ha0.2.1 _) ha0.1 dX9_setFor_25 ?_
      refine wp_iload_n hb rfl dX9_setFor_28 ?_
      obtain ⟨q3, hv⟩ := hv
      refine wp_iaload hb rfl (ha0.2.2 _) q3 dX9_setFor_29 ?_
      refine wp_ishl hb dX9_setFor_30 ?_
      refine wp_ior hb dX9_setFor_31 ?_
      refine wp_istore_n hb rfl dX9_setFor_32 ?_
      refine wp_iinc hb rfl (y := v3 + nI 1) rfl rfl dX9_setFor_33 ?_
      refine wp_goto hb (t := 4) ⟨rfl, rfl⟩ dX9_setFor_36 ?_
      exact wp_for (mm_ls_k (mm_ls_k (mm_ls_k (mm_ls_k mm_ls_nil)))) hv
set_option maxRecDepth 100000 in
theorem v_X9_period {d sn : Nat} {a0 : Nat} {m : mm_Mem} {P : Int32 → mm_Mem → Prop} (ha0 : shY a0) 
    (hv : mm_wp d sn kX9_period 2 [some (.ref a0), some (.int (nI 1))] [] m (qI P)) :
    mm_sp (d + 1) sn kX9_period [.ref a0] m (qI P) := by
  have hb := mb_96
  refine wp_in (la := [some (.ref a0), none]) ⟨⟨Nat.le_of_ble_eq_true rfl, by decide, by decide⟩, rfl⟩ ?_
  refine wp_iconst hb (x := nI 1) rfl dX9_period_0 ?_
  refine wp_istore_n hb rfl dX9_period_1 ?_
  exact wp_for (mm_ls_k (mm_ls_k mm_ls_nil)) hv
set_option maxRecDepth 100000 in
theorem v_X9_period_2 {d sn : Nat} {a0 : Nat} {v1 : Int32} {m : mm_Mem} {P : Int32 → mm_Mem → Prop} (ha0 : shY a0) 
    (hv : ((nI 15 ≤ v1) → (P (nI 15) m)) ∧ (¬ (nI 15 ≤ v1) → (mm_sp d sn kX9_isDoneAfter [.ref a0, .int v1] m (qI fun x2 m1 => ((x2 = 0) → (mm_wp d sn kX9_period 2 [some (.ref a0), some (.int (v1 + nI 1))] [] m1 (qI P))) ∧ (¬ (x2 = 0) → (P v1 m1)))))) :
    mm_wp d sn kX9_period 2 [some (.ref a0), some (.int v1)] [] m (qI P) := by
  have hb := mb_96
  refine wp_iload_n hb rfl dX9_period_2 ?_
  refine wp_bipush hb (x := nI 15) rfl dX9_period_3 ?_
  refine wp_icmp_ge hb (t := 24) ⟨rfl, rfl⟩ dX9_period_5 ⟨fun c1 => ?_, fun c1 => ?_⟩
  · have hv := hv.1 c1
    refine wp_bipush hb (x := nI 15) rfl dX9_period_24 ?_
    exact wp_retI hb rfl dX9_period_26 hv
  · have hv := hv.2 c1
    refine wp_aload_n hb rfl dX9_period_8 ?_
    refine wp_iload_n hb rfl dX9_period_9 ?_
    refine wp_callV hb (k' := 97) ko_96 lm_9_39 rfl (ha0.2.1 _) (by decide) (Nat.le_of_ble_eq_true rfl) dX9_period_10 (sp_cI (hv.I (Nat.le_refl _) ?_))
    intro x2 m1 hv
    refine wp_if_eq hb (y := 0) (t := 18) ⟨rfl, rfl⟩ dX9_period_13 ⟨fun c3 => ?_, fun c3 => ?_⟩
    · have hv := hv.1 c3
      refine wp_iinc hb rfl (y := v1 + nI 1) rfl rfl dX9_period_18 ?_
      refine wp_goto hb (t := 2) ⟨rfl, rfl⟩ dX9_period_21 ?_
      exact wp_for (mm_ls_k (mm_ls_k mm_ls_nil)) hv
    · have hv := hv.2 c3
      refine wp_iload_n hb rfl dX9_period_16 ?_
      exact wp_retI hb rfl dX9_period_17 hv
set_option maxRecDepth 100000 in
theorem v_X9_isDoneAfter {d sn : Nat} {a0 : Nat} {v1 : Int32} {m : mm_Mem} {P : Int32 → mm_Mem → Prop} (ha0 : shY a0) 
    (hv : mm_wp d sn kX9_isDoneAfter 2 [some (.ref a0), some (.int v1), some (.int (nI 0)), none, none] [] m (qI P)) :
    mm_sp (d + 1) sn kX9_isDoneAfter [.ref a0, .int v1] m (qI P) := by
  have hb := mb_97
  refine wp_in (la := [some (.ref a0), some (.int v1), none, none, none]) ⟨⟨Nat.le_of_ble_eq_true rfl, by decide, by decide⟩, rfl⟩ ?_
  refine wp_iconst hb (x := nI 0) rfl dX9_isDoneAfter_0 ?_
  refine wp_istore_n hb rfl dX9_isDoneAfter_1 ?_
  exact wp_for (mm_ls_k (mm_ls_k (mm_ls_k (mm_ls_k (mm_ls_k mm_ls_nil))))) hv
set_option maxRecDepth 100000 in
theorem v_X9_isDoneAfter_2 {d sn : Nat} {a0 : Nat} {v1 : Int32} {v2 : Int32} {m : mm_Mem} {P : Int32 → mm_Mem → Prop} (ha0 : shY a0) 
    (hv : ((nI 8 ≤ v2) → (P (nI 1) m)) ∧ (¬ (nI 8 ≤ v2) → (mm_wp d sn kX9_isDoneAfter 16 [some (.ref a0), some (.int v1), some (.int v2), some (.int v2), some (.int (nI 0))] [] m (qI P)))) :
    mm_wp d sn kX9_isDoneAfter 2 [some (.ref a0), some (.int v1), some (.int v2), none, none] [] m (qI P) := by
  have hb := mb_97
  refine wp_iload_n hb rfl dX9_isDoneAfter_2 ?_
  refine wp_aload_n hb rfl dX9_isDoneAfter_3 ?_
  refine wp_getR hb ko_97 lf_9_9 (by decide) (ha0.2.1 _) ha0.1 dX9_isDoneAfter_4 ?_
  refine wp_alen hb (x := nI 8) (ha0.2.2 _) (by decide) rfl dX9_isDoneAfter_7 ?_
  refine wp_icmp_ge hb (t := 47) ⟨rfl, rfl⟩ dX9_isDoneAfter_8 ⟨fun c1 => ?_, fun c1 => ?_⟩
  · have hv := hv.1 c1
    refine wp_iconst hb (x := nI 1) rfl dX9_isDoneAfter_47 ?_
    exact wp_retZ hb rfl (by decide) dX9_isDoneAfter_48 hv
  · have hv := hv.2 c1
    refine wp_iload_n hb rfl dX9_isDoneAfter_11 ?_
    refine wp_istore_n hb rfl dX9_isDoneAfter_12 ?_
    refine wp_iconst hb (x := nI 0) rfl dX9_isDoneAfter_13 ?_
    refine wp_istore hb rfl dX9_isDoneAfter_14 ?_
    exact wp_for (mm_ls_k (mm_ls_k (mm_ls_k (mm_ls_k (mm_ls_k mm_ls_nil))))) hv
set_option maxRecDepth 100000 in
theorem v_X9_isDoneAfter_16 {d sn : Nat} {a0 : Nat} {v1 : Int32} {v2 : Int32} {v3 : Int32} {v4 : Int32} {m : mm_Mem} {P : Int32 → mm_Mem → Prop} (ha0 : shY a0) 
    (hv : ((v1 ≤ v4) → (((v3 = v2) → (mm_wp d sn kX9_isDoneAfter 2 [some (.ref a0), some (.int v1), some (.int (v2 + nI 1)), none, none] [] m (qI P))) ∧ (¬ (v3 = v2) → (P (nI 0) m)))) ∧ (¬ (v1 ≤ v4) → (mm_sp d sn kX9_pointFor [.ref a0, .int v3] m (qI fun x3 m1 => mm_wp d sn kX9_isDoneAfter 16 [some (.ref a0), some (.int v1), some (.int v2), some (.int x3), some (.int (v4 + nI 1))] [] m1 (qI P))))) :
    mm_wp d sn kX9_isDoneAfter 16 [some (.ref a0), some (.int v1), some (.int v2), some (.int v3), some (.int v4)] [] m (qI P) := by
  have hb := mb_97
  refine wp_iload hb rfl dX9_isDoneAfter_16 ?_
  refine wp_iload_n hb rfl dX9_isDoneAfter_18 ?_
  refine wp_icmp_ge hb (t := 34) ⟨rfl, rfl⟩ dX9_isDoneAfter_19 ⟨fun c1 => ?_, fun c1 => ?_⟩
  · have hv := hv.1 c1
    refine wp_iload_n hb rfl dX9_isDoneAfter_34 ?_
    refine wp_iload_n hb rfl dX9_isDoneAfter_35 ?_
    refine wp_icmp_eq hb (t := 41) ⟨rfl, rfl⟩ dX9_isDoneAfter_36 ⟨fun c2 => ?_, fun c2 => ?_⟩
    · have hv := hv.1 c2
      refine wp_iinc hb rfl (y := v2 + nI 1) rfl rfl dX9_isDoneAfter_41 ?_
      refine wp_goto hb (t := 2) ⟨rfl, rfl⟩ dX9_isDoneAfter_44 ?_
      exact wp_for (mm_ls_k (mm_ls_k (mm_ls_k (mm_ls_f (mm_ls_f mm_ls_nil))))) hv
    · have hv := hv.2 c2
      refine wp_iconst hb (x := nI 0) rfl dX9_isDoneAfter_39 ?_
      exact wp_retZ hb rfl (by decide) dX9_isDoneAfter_40 hv
  · have hv := hv.2 c1
    refine wp_aload_n hb rfl dX9_isDoneAfter_22 ?_
    refine wp_iload_n hb rfl dX9_isDoneAfter_23 ?_
    refine wp_callV hb (k' := 94) ko_97 lm_9_43 rfl (ha0.2.1 _) (by decide) (Nat.le_of_ble_eq_true rfl) dX9_isDoneAfter_24 (sp_cI (hv.I (Nat.le_refl _) ?_))
    intro x3 m1 hv
    refine wp_istore_n hb rfl dX9_isDoneAfter_27 ?_
    refine wp_iinc hb rfl (y := v4 + nI 1) rfl rfl dX9_isDoneAfter_28 ?_
    refine wp_goto hb (t := 16) ⟨rfl, rfl⟩ dX9_isDoneAfter_31 ?_
    exact wp_for (mm_ls_k (mm_ls_k (mm_ls_k (mm_ls_k (mm_ls_k mm_ls_nil))))) hv
