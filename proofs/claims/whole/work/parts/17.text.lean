set_option maxRecDepth 100000 in
theorem v_X8_append {d sn : Nat} {v1 : Int32} {m : mm_Mem} {P : Int32 → mm_Mem → Prop} 
    (hv : ((m.1 44 0 < 0) → (P (nI 0) m)) ∧ (¬ (m.1 44 0 < 0) → (((m.1 44 0 < nI 100) → (vp_in (m.1 44 0) 100 ∧ (∀ m1 : mm_Mem, m1 = (mm_u2 m.1 45 (m.1 44 0).toNatClampNeg v1, m.2) → (∀ m2 : mm_Mem, m2 = (mm_u2 m1.1 44 0 ((m1.1 44 0) + (nI 1)), m1.2) → (P (nI 1) m2))))) ∧ (¬ (m.1 44 0 < nI 100) → (P (nI 0) m))))) :
    mm_sp (d + 1) sn kX8_append [.ref 44, .int v1] m (qI P) := by
  have hb := mb_80
  refine wp_in (la := [some (.ref 44), some (.int v1)]) ⟨⟨Nat.le_of_ble_eq_true rfl, by decide, by decide⟩, rfl⟩ ?_
  refine wp_aload_n hb rfl dX8_append_0 ?_
  refine wp_getI hb ko_80 lf_8_9 (by decide) m0_44 dX8_append_1 ?_
  refine wp_if_lt hb (y := 0) (t := 19) ⟨rfl, rfl⟩ dX8_append_4 ⟨fun c1 => ?_, fun c1 => ?_⟩
  · have hv := hv.1 c1
    refine wp_iconst hb (x := nI 0) rfl dX8_append_19 ?_
    exact wp_retZ hb rfl (by decide) dX8_append_20 hv
  · have hv := hv.2 c1
    refine wp_aload_n hb rfl dX8_append_7 ?_
    refine wp_getI hb ko_80 lf_8_9 (by decide) m0_44 dX8_append_8 ?_
    refine wp_aload_n hb rfl dX8_append_11 ?_
    refine wp_getR hb ko_80 lf_8_15 (by decide) m0_44 r0_44_1 dX8_append_12 ?_
    refine wp_alen hb (x := nI 100) m0_45 (by decide) rfl dX8_append_15 ?_
    refine wp_icmp_lt hb (t := 21) ⟨rfl, rfl⟩ dX8_append_16 ⟨fun c2 => ?_, fun c2 => ?_⟩
    · have hv := hv.1 c2
      refine wp_aload_n hb rfl dX8_append_21 ?_
      refine wp_getR hb ko_80 lf_8_15 (by decide) m0_44 r0_44_1 dX8_append_22 ?_
      refine wp_aload_n hb rfl dX8_append_25 ?_
      refine wp_getI hb ko_80 lf_8_9 (by decide) m0_44 dX8_append_26 ?_
      refine wp_iload_n hb rfl dX8_append_29 ?_
      obtain ⟨q3, hv⟩ := hv
      refine wp_iastore hb rfl m0_45 (by decide) q3 dX8_append_30 ?_
      have hv := hv _ rfl
      generalize (mm_u2 m.1 45 (m.1 44 0).toNatClampNeg v1, m.2) = m1 at hv ⊢
      refine wp_aload_n hb rfl dX8_append_31 ?_
      refine wp_dupR hb dX8_append_32 ?_
      refine wp_getI hb ko_80 lf_8_9 (by decide) m0_44 dX8_append_33 ?_
      refine wp_iconst hb (x := nI 1) rfl dX8_append_36 ?_
      refine wp_iadd hb dX8_append_37 ?_
      refine wp_putI hb ko_80 lf_8_9 (by decide) m0_44 dX8_append_38 ?_
      have hv := hv _ rfl
      generalize (mm_u2 m1.1 44 0 ((m1.1 44 0) + (nI 1)), m1.2) = m2 at hv ⊢
      refine wp_iconst hb (x := nI 1) rfl dX8_append_41 ?_
      exact wp_retZ hb rfl (by decide) dX8_append_42 hv
    · have hv := hv.2 c2
      refine wp_iconst hb (x := nI 0) rfl dX8_append_19 ?_
      exact wp_retZ hb rfl (by decide) dX8_append_20 hv
set_option maxRecDepth 100000 in
theorem v_X8_signAt {d sn : Nat} {v1 : Int32} {m : mm_Mem} {P : Int32 → mm_Mem → Prop} 
    (hv : ((v1 < 0) → (P (-1) m)) ∧ (¬ (v1 < 0) → (((m.1 44 0 ≤ v1) → (P (-1) m)) ∧ (¬ (m.1 44 0 ≤ v1) → (((nI 100 ≤ v1) → (P (-1) m)) ∧ (¬ (nI 100 ≤ v1) → (vp_in v1 100 ∧ (P (m.1 45 v1.toNatClampNeg) m)))))))) :
    mm_sp (d + 1) sn kX8_signAt [.ref 44, .int v1] m (qI P) := by
  have hb := mb_81
  refine wp_in (la := [some (.ref 44), some (.int v1)]) ⟨⟨Nat.le_of_ble_eq_true rfl, by decide, by decide⟩, rfl⟩ ?_
  refine wp_iload_n hb rfl dX8_signAt_0 ?_
  refine wp_if_lt hb (y := 0) (t := 30) ⟨rfl, rfl⟩ dX8_signAt_1 ⟨fun c1 => ?_, fun c1 => ?_⟩
  · have hv := hv.1 c1
    refine wp_iconst hb (x := (-1)) rfl dX8_signAt_30 ?_
    exact wp_retI hb rfl dX8_signAt_31 hv
  · have hv := hv.2 c1
    refine wp_iload_n hb rfl dX8_signAt_4 ?_
    refine wp_aload_n hb rfl dX8_signAt_5 ?_
    refine wp_getI hb ko_81 lf_8_9 (by decide) m0_44 dX8_signAt_6 ?_
    refine wp_icmp_ge hb (t := 30) ⟨rfl, rfl⟩ dX8_signAt_9 ⟨fun c2 => ?_, fun c2 => ?_⟩
    · have hv := hv.1 c2
      refine wp_iconst hb (x := (-1)) rfl dX8_signAt_30 ?_
      exact wp_retI hb rfl dX8_signAt_31 hv
    · have hv := hv.2 c2
      refine wp_iload_n hb rfl dX8_signAt_12 ?_
      refine wp_aload_n hb rfl dX8_signAt_13 ?_
      refine wp_getR hb ko_81 lf_8_15 (by decide) m0_44 r0_44_1 dX8_signAt_14 ?_
      refine wp_alen hb (x := nI 100) m0_45 (by decide) rfl dX8_signAt_17 ?_
      refine wp_icmp_ge hb (t := 30) ⟨rfl, rfl⟩ dX8_signAt_18 ⟨fun c3 => ?_, fun c3 => ?_⟩
      · have hv := hv.1 c3
        refine wp_iconst hb (x := (-1)) rfl dX8_signAt_30 ?_
        exact wp_retI hb rfl dX8_signAt_31 hv
      · have hv := hv.2 c3
        refine wp_aload_n hb rfl dX8_signAt_21 ?_
        refine wp_getR hb ko_81 lf_8_15 (by decide) m0_44 r0_44_1 dX8_signAt_22 ?_
        refine wp_iload_n hb rfl dX8_signAt_25 ?_
        obtain ⟨q4, hv⟩ := hv
        refine wp_iaload hb rfl m0_45 q4 dX8_signAt_26 ?_
        refine wp_goto hb (t := 31) ⟨rfl, rfl⟩ dX8_signAt_27 ?_
        exact wp_retI hb rfl dX8_signAt_31 hv
set_option maxRecDepth 100000 in
theorem v_X8_digitAt {d sn : Nat} {v1 : Int32} {m : mm_Mem} {P : Int32 → mm_Mem → Prop} 
    (hv : mm_sp d sn kX8_signAt [.ref 44, .int v1] m (qI fun x1 m1 => ((x1 < nI 48) → (P (-1) m1)) ∧ (¬ (x1 < nI 48) → (((nI 57 < x1) → (P (-1) m1)) ∧ (¬ (nI 57 < x1) → (P (x1 - (nI 48)) m1)))))) :
    mm_sp (d + 1) sn kX8_digitAt [.ref 44, .int v1] m (qI P) := by
  have hb := mb_82
  refine wp_in (la := [some (.ref 44), some (.int v1), none]) ⟨⟨Nat.le_of_ble_eq_true rfl, by decide, by decide⟩, rfl⟩ ?_
  refine wp_aload_n hb rfl dX8_digitAt_0 ?_
  refine wp_iload_n hb rfl dX8_digitAt_1 ?_
  refine wp_callV hb (k' := 81) ko_82 lm_8_19 rfl m0_44 (by decide) (Nat.le_of_ble_eq_true rfl) dX8_digitAt_2 (sp_cI (hv.I (Nat.le_refl _) ?_))
  intro x1 m1 hv
  refine wp_istore_n hb rfl dX8_digitAt_5 ?_
  refine wp_iload_n hb rfl dX8_digitAt_6 ?_
  refine wp_bipush hb (x := nI 48) rfl dX8_digitAt_7 ?_
  refine wp_icmp_lt hb (t := 25) ⟨rfl, rfl⟩ dX8_digitAt_9 ⟨fun c2 => ?_, fun c2 => ?_⟩
  · have hv := hv.1 c2
    refine wp_iconst hb (x := (-1)) rfl dX8_digitAt_25 ?_
    exact wp_retI hb rfl dX8_digitAt_26 hv
  · have hv := hv.2 c2
    refine wp_iload_n hb rfl dX8_digitAt_12 ?_
    refine wp_bipush hb (x := nI 57) rfl dX8_digitAt_13 ?_
    refine wp_icmp_gt hb (t := 25) ⟨rfl, rfl⟩ dX8_digitAt_15 ⟨fun c3 => ?_, fun c3 => ?_⟩
    · have hv := hv.1 c3
      refine wp_iconst hb (x := (-1)) rfl dX8_digitAt_25 ?_
      exact wp_retI hb rfl dX8_digitAt_26 hv
    · have hv := hv.2 c3
      refine wp_iload_n hb rfl dX8_digitAt_18 ?_
      refine wp_bipush hb (x := nI 48) rfl dX8_digitAt_19 ?_
      refine wp_isub hb dX8_digitAt_21 ?_
      refine wp_goto hb (t := 26) ⟨rfl, rfl⟩ dX8_digitAt_22 ?_
      exact wp_retI hb rfl dX8_digitAt_26 hv
set_option maxRecDepth 100000 in
theorem v_X8_digitsFrom {d sn : Nat} {v1 : Int32} {v2 : Int32} {m : mm_Mem} {P : Int32 → mm_Mem → Prop} 
    (hv : mm_wp d sn kX8_digitsFrom 2 [some (.ref 44), some (.int v1), some (.int v2), some (.int (nI 0))] [] m (qI P)) :
    mm_sp (d + 1) sn kX8_digitsFrom [.ref 44, .int v1, .int v2] m (qI P) := by
  have hb := mb_83
  refine wp_in (la := [some (.ref 44), some (.int v1), some (.int v2), none]) ⟨⟨Nat.le_of_ble_eq_true rfl, by decide, by decide⟩, rfl⟩ ?_
  refine wp_iconst hb (x := nI 0) rfl dX8_digitsFrom_0 ?_
  refine wp_istore_n hb rfl dX8_digitsFrom_1 ?_
  exact wp_for (mm_ls_k (mm_ls_k (mm_ls_k (mm_ls_k mm_ls_nil)))) hv
set_option maxRecDepth 100000 in
theorem v_X8_digitsFrom_2 {d sn : Nat} {v1 : Int32} {v2 : Int32} {v3 : Int32} {m : mm_Mem} {P : Int32 → mm_Mem → Prop} 
    (hv : ((v2 ≤ v3) → (P v2 m)) ∧ (¬ (v2 ≤ v3) → (mm_sp d sn kX8_digitAt [.ref 44, .int (v1 + v3)] m (qI fun x2 m1 => ((¬ x2 = (-1)) → (mm_wp d sn kX8_digitsFrom 2 [some (.ref 44), some (.int v1), some (.int v2), some (.int (v3 + nI 1))] [] m1 (qI P))) ∧ (¬ (¬ x2 = (-1)) → (P v3 m1)))))) :
    mm_wp d sn kX8_digitsFrom 2 [some (.ref 44), some (.int v1), some (.int v2), some (.int v3)] [] m (qI P) := by
  have hb := mb_83
  refine wp_iload_n hb rfl dX8_digitsFrom_2 ?_
  refine wp_iload_n hb rfl dX8_digitsFrom_3 ?_
  refine wp_icmp_ge hb (t := 26) ⟨rfl, rfl⟩ dX8_digitsFrom_4 ⟨fun c1 => ?_, fun c1 => ?_⟩
  · have hv := hv.1 c1
    refine wp_iload_n hb rfl dX8_digitsFrom_26 ?_
    exact wp_retI hb rfl dX8_digitsFrom_27 hv
  · have hv := hv.2 c1
    refine wp_aload_n hb rfl dX8_digitsFrom_7 ?_
    refine wp_iload_n hb rfl dX8_digitsFrom_8 ?_
    refine wp_iload_n hb rfl dX8_digitsFrom_9 ?_
    refine wp_iadd hb dX8_digitsFrom_10 ?_
    refine wp_callV hb (k' := 82) ko_83 lm_8_23 rfl m0_44 (by decide) (Nat.le_of_ble_eq_true rfl) dX8_digitsFrom_11 (sp_cI (hv.I (Nat.le_refl _) ?_))
    intro x2 m1 hv
    refine wp_iconst hb (x := (-1)) rfl dX8_digitsFrom_14 ?_
    refine wp_icmp_ne hb (t := 20) ⟨rfl, rfl⟩ dX8_digitsFrom_15 ⟨fun c3 => ?_, fun c3 => ?_⟩
    · have hv := hv.1 c3
      refine wp_iinc hb rfl (y := v3 + nI 1) rfl rfl dX8_digitsFrom_20 ?_
      refine wp_goto hb (t := 2) ⟨rfl, rfl⟩ dX8_digitsFrom_23 ?_
      exact wp_for (mm_ls_k (mm_ls_k (mm_ls_k (mm_ls_k mm_ls_nil)))) hv
    · have hv := hv.2 c3
      refine wp_iload_n hb rfl dX8_digitsFrom_18 ?_
      exact wp_retI hb rfl dX8_digitsFrom_19 hv
set_option maxRecDepth 100000 in
theorem v_X8_numberIn {d sn : Nat} {v1 : Int32} {v2 : Int32} {m : mm_Mem} {P : Int32 → mm_Mem → Prop} 
    (hv : mm_wp d sn kX8_numberIn 5 [some (.ref 44), none, some (.int v2), some (.int (nI 0)), some (.int v1)] [] m (qI P)) :
    mm_sp (d + 1) sn kX8_numberIn [.ref 44, .int v1, .int v2] m (qI P) := by
  have hb := mb_84
  refine wp_in (la := [some (.ref 44), some (.int v1), some (.int v2), none, none]) ⟨⟨Nat.le_of_ble_eq_true rfl, by decide, by decide⟩, rfl⟩ ?_
  refine wp_iconst hb (x := nI 0) rfl dX8_numberIn_0 ?_
  refine wp_istore_n hb rfl dX8_numberIn_1 ?_
  refine wp_iload_n hb rfl dX8_numberIn_2 ?_
  refine wp_istore hb rfl dX8_numberIn_3 ?_
  exact wp_for (mm_ls_k (mm_ls_f (mm_ls_k (mm_ls_k (mm_ls_k mm_ls_nil))))) hv
set_option maxRecDepth 100000 in
theorem v_X8_numberIn_5 {d sn : Nat} {v2 : Int32} {v3 : Int32} {v4 : Int32} {m : mm_Mem} {P : Int32 → mm_Mem → Prop} 
    (hv : ((v2 ≤ v4) → (P v3 m)) ∧ (¬ (v2 ≤ v4) → (mm_sp d sn kX8_digitAt [.ref 44, .int v4] m (qI fun x2 m1 => mm_wp d sn kX8_numberIn 5 [some (.ref 44), none, some (.int v2), some (.int ((v3 * (nI 10)) + x2)), some (.int (v4 + nI 1))] [] m1 (qI P))))) :
    mm_wp d sn kX8_numberIn 5 [some (.ref 44), none, some (.int v2), some (.int v3), some (.int v4)] [] m (qI P) := by
  have hb := mb_84
  refine wp_iload hb rfl dX8_numberIn_5 ?_
  refine wp_iload_n hb rfl dX8_numberIn_7 ?_
  refine wp_icmp_ge hb (t := 29) ⟨rfl, rfl⟩ dX8_numberIn_8 ⟨fun c1 => ?_, fun c1 => ?_⟩
  · have hv := hv.1 c1
    refine wp_iload_n hb rfl dX8_numberIn_29 ?_
    exact wp_retI hb rfl dX8_numberIn_30 hv
  · have hv := hv.2 c1
    refine wp_iload_n hb rfl dX8_numberIn_11 ?_
    refine wp_bipush hb (x := nI 10) rfl dX8_numberIn_12 ?_
    refine wp_imul hb dX8_numberIn_14 ?_
    refine wp_aload_n hb rfl dX8_numberIn_15 ?_
    refine wp_iload hb rfl dX8_numberIn_16 ?_
    refine wp_callV hb (k' := 82) ko_84 lm_8_23 rfl m0_44 (by decide) (Nat.le_of_ble_eq_true rfl) dX8_numberIn_18 (sp_cI (hv.I (Nat.le_refl _) ?_))
    intro x2 m1 hv
    refine wp_iadd hb dX8_numberIn_21 ?_
    refine wp_istore_n hb rfl dX8_numberIn_22 ?_
    refine wp_iinc hb rfl (y := v4 + nI 1) rfl rfl dX8_numberIn_23 ?_
    refine wp_goto hb (t := 5) ⟨rfl, rfl⟩ dX8_numberIn_26 ?_
    exact wp_for (mm_ls_k (mm_ls_k (mm_ls_k (mm_ls_k (mm_ls_k mm_ls_nil))))) hv
set_option maxRecDepth 100000 in
theorem v_X8_fault {d sn : Nat} {m : mm_Mem} {P : Int32 → mm_Mem → Prop} 
    (hv : mm_wp d sn kX8_fault 4 [some (.ref 44), some (.int (nI 0)), some (.int (nI 1)), none, none, none, none] [] m (qI P)) :
    mm_sp (d + 1) sn kX8_fault [.ref 44] m (qI P) := by
  have hb := mb_85
  refine wp_in (la := [some (.ref 44), none, none, none, none, none, none]) ⟨⟨Nat.le_of_ble_eq_true rfl, by decide, by decide⟩, rfl⟩ ?_
  refine wp_iconst hb (x := nI 0) rfl dX8_fault_0 ?_
  refine wp_istore_n hb rfl dX8_fault_1 ?_
  refine wp_iconst hb (x := nI 1) rfl dX8_fault_2 ?_
  refine wp_istore_n hb rfl dX8_fault_3 ?_
  exact wp_for (mm_ls_k (mm_ls_k (mm_ls_k (mm_ls_k (mm_ls_k (mm_ls_k (mm_ls_k mm_ls_nil))))))) hv
set_option maxRecDepth 100000 in
theorem v_X8_fault_4 {d sn : Nat} {v1 : Int32} {v2 : Int32} {m : mm_Mem} {P : Int32 → mm_Mem → Prop} 
    (hv : ((nI 12 < v2) → (P v1 m)) ∧ (¬ (nI 12 < v2) → (mm_sp d sn kX8_signAt [.ref 44, .int v1] m (qI fun x2 m1 => mm_sp d sn kX8_mostDigits [.int x2] m1 (qI fun x3 m2 => ((¬ x3 = 0) → (mm_sp d sn kX8_digitsFrom [.ref 44, .int (v1 + (nI 1)), .int x3] m2 (qI fun x5 m3 => mm_sp d sn kX8_leastDigits [.int x2] m3 (qI fun x6 m4 => ((x6 ≤ x5) → ((((v1 + (nI 1)) + x5 < m4.1 44 0) → (mm_sp d sn kX8_signAt [.ref 44, .int ((v1 + (nI 1)) + x5)] m4 (qI fun x9 m5 => ((¬ x9 = nI 59) → (P ((v1 + (nI 1)) + x5) m5)) ∧ (¬ (¬ x9 = nI 59) → (((¬ v2 = nI 12) → (mm_wp d sn kX8_fault 4 [some (.ref 44), some (.int (((v1 + (nI 1)) + x5) + (nI 1))), some (.int (v2 + nI 1)), none, none, none, none] [] m5 (qI P))) ∧ (¬ (¬ v2 = nI 12) → (P ((v1 + (nI 1)) + x5) m5))))))) ∧ (¬ ((v1 + (nI 1)) + x5 < m4.1 44 0) → (P (-1) m4)))) ∧ (¬ (x6 ≤ x5) → (P ((v1 + (nI 1)) + x5) m4)))))) ∧ (¬ (¬ x3 = 0) → (P v1 m2))))))) :
    mm_wp d sn kX8_fault 4 [some (.ref 44), some (.int v1), some (.int v2), none, none, none, none] [] m (qI P) := by
  have hb := mb_85
  refine wp_iload_n hb rfl dX8_fault_4 ?_
  refine wp_bipush hb (x := nI 12) rfl dX8_fault_5 ?_
  refine wp_icmp_gt hb (t := 102) ⟨rfl, rfl⟩ dX8_fault_7 ⟨fun c1 => ?_, fun c1 => ?_⟩
  · have hv := hv.1 c1
    refine wp_iload_n hb rfl dX8_fault_102 ?_
    exact wp_retI hb rfl dX8_fault_103 hv
  · have hv := hv.2 c1
    refine wp_aload_n hb rfl dX8_fault_10 ?_
    refine wp_iload_n hb rfl dX8_fault_11 ?_
    refine wp_callV hb (k' := 81) ko_85 lm_8_19 rfl m0_44 (by decide) (Nat.le_of_ble_eq_true rfl) dX8_fault_12 (sp_cI (hv.I (Nat.le_refl _) ?_))
    intro x2 m1 hv
    refine wp_istore_n hb rfl dX8_fault_15 ?_
    refine wp_iload_n hb rfl dX8_fault_16 ?_
    refine wp_callS hb (k' := 87) ko_85 lm_8_26 (by decide) rfl (Nat.le_of_ble_eq_true rfl) dX8_fault_17 (sp_cI (hv.I (Nat.le_refl _) ?_))
    intro x3 m2 hv
    refine wp_istore hb rfl dX8_fault_20 ?_
    refine wp_iload hb rfl dX8_fault_22 ?_
    refine wp_if_ne hb (y := 0) (t := 29) ⟨rfl, rfl⟩ dX8_fault_24 ⟨fun c4 => ?_, fun c4 => ?_⟩
    · have hv := hv.1 c4
      refine wp_aload_n hb rfl dX8_fault_29 ?_
      refine wp_iload_n hb rfl dX8_fault_30 ?_
      refine wp_iconst hb (x := nI 1) rfl dX8_fault_31 ?_
      refine wp_iadd hb dX8_fault_32 ?_
      refine wp_iload hb rfl dX8_fault_33 ?_
      refine wp_callV hb (k' := 83) ko_85 lm_8_29 rfl m0_44 (by decide) (Nat.le_of_ble_eq_true rfl) dX8_fault_35 (sp_cI (hv.I (Nat.le_refl _) ?_))
      intro x5 m3 hv
      refine wp_istore hb rfl dX8_fault_38 ?_
      refine wp_iload_n hb rfl dX8_fault_40 ?_
      refine wp_iconst hb (x := nI 1) rfl dX8_fault_41 ?_
      refine wp_iadd hb dX8_fault_42 ?_
      refine wp_iload hb rfl dX8_fault_43 ?_
      refine wp_iadd hb dX8_fault_45 ?_
      refine wp_istore hb rfl dX8_fault_46 ?_
      refine wp_iload hb rfl dX8_fault_48 ?_
      refine wp_iload_n hb rfl dX8_fault_50 ?_
      refine wp_callS hb (k' := 86) ko_85 lm_8_33 (by decide) rfl (Nat.le_of_ble_eq_true rfl) dX8_fault_51 (sp_cI (hv.I (Nat.le_refl _) ?_))
      intro x6 m4 hv
      refine wp_icmp_ge hb (t := 60) ⟨rfl, rfl⟩ dX8_fault_54 ⟨fun c7 => ?_, fun c7 => ?_⟩
      · have hv := hv.1 c7
        refine wp_iload hb rfl dX8_fault_60 ?_
        refine wp_aload_n hb rfl dX8_fault_62 ?_
        refine wp_getI hb ko_85 lf_8_9 (by decide) m0_44 dX8_fault_63 ?_
        refine wp_icmp_lt hb (t := 71) ⟨rfl, rfl⟩ dX8_fault_66 ⟨fun c8 => ?_, fun c8 => ?_⟩
        · have hv := hv.1 c8
          refine wp_aload_n hb rfl dX8_fault_71 ?_
          refine wp_iload hb rfl dX8_fault_72 ?_
          refine wp_callV hb (k' := 81) ko_85 lm_8_19 rfl m0_44 (by decide) (Nat.le_of_ble_eq_true rfl) dX8_fault_74 (sp_cI (hv.I (Nat.le_refl _) ?_))
          intro x9 m5 hv
          refine wp_bipush hb (x := nI 59) rfl dX8_fault_77 ?_
          refine wp_icmp_ne hb (t := 88) ⟨rfl, rfl⟩ dX8_fault_79 ⟨fun c10 => ?_, fun c10 => ?_⟩
          · have hv := hv.1 c10
            refine wp_iload hb rfl dX8_fault_88 ?_
            exact wp_retI hb rfl dX8_fault_90 hv
          · have hv := hv.2 c10
            refine wp_iload_n hb rfl dX8_fault_82 ?_
            refine wp_bipush hb (x := nI 12) rfl dX8_fault_83 ?_
            refine wp_icmp_ne hb (t := 91) ⟨rfl, rfl⟩ dX8_fault_85 ⟨fun c11 => ?_, fun c11 => ?_⟩
            · have hv := hv.1 c11
              refine wp_iload hb rfl dX8_fault_91 ?_
              refine wp_iconst hb (x := nI 1) rfl dX8_fault_93 ?_
              refine wp_iadd hb dX8_fault_94 ?_
              refine wp_istore_n hb rfl dX8_fault_95 ?_
              refine wp_iinc hb rfl (y := v2 + nI 1) rfl rfl dX8_fault_96 ?_
              refine wp_goto hb (t := 4) ⟨rfl, rfl⟩ dX8_fault_99 ?_
              exact wp_for (mm_ls_k (mm_ls_k (mm_ls_k (mm_ls_f (mm_ls_f (mm_ls_f (mm_ls_f mm_ls_nil))))))) hv
            · have hv := hv.2 c11
              refine wp_iload hb rfl dX8_fault_88 ?_
              exact wp_retI hb rfl dX8_fault_90 hv
        · have hv := hv.2 c8
          refine wp_iconst hb (x := (-1)) rfl dX8_fault_69 ?_
          exact wp_retI hb rfl dX8_fault_70 hv
      · have hv := hv.2 c7
        refine wp_iload hb rfl dX8_fault_57 ?_
        exact wp_retI hb rfl dX8_fault_59 hv
    · have hv := hv.2 c4
      refine wp_iload_n hb rfl dX8_fault_27 ?_
      exact wp_retI hb rfl dX8_fault_28 hv
set_option maxRecDepth 100000 in
theorem v_X8_leastDigits {d sn : Nat} {v0 : Int32} {m : mm_Mem} {P : Int32 → mm_Mem → Prop} 
    (hv : ((¬ v0 = nI 104) → (((¬ v0 = nI 98) → (mm_sp d sn kX8_mostDigits [.int v0] m (qI fun x3 m1 => P x3 m1))) ∧ (¬ (¬ v0 = nI 98) → (P (nI 1) m)))) ∧ (¬ (¬ v0 = nI 104) → (P (nI 3) m))) :
    mm_sp (d + 1) sn kX8_leastDigits [.int v0] m (qI P) := by
  have hb := mb_86
  refine wp_in (la := [some (.int v0)]) ⟨⟨Nat.le_of_ble_eq_true rfl, by decide, by decide⟩, rfl⟩ ?_
  refine wp_iload_n hb rfl dX8_leastDigits_0 ?_
  refine wp_bipush hb (x := nI 104) rfl dX8_leastDigits_1 ?_
  refine wp_icmp_ne hb (t := 10) ⟨rfl, rfl⟩ dX8_leastDigits_3 ⟨fun c1 => ?_, fun c1 => ?_⟩
  · have hv := hv.1 c1
    refine wp_iload_n hb rfl dX8_leastDigits_10 ?_
    refine wp_bipush hb (x := nI 98) rfl dX8_leastDigits_11 ?_
    refine wp_icmp_ne hb (t := 20) ⟨rfl, rfl⟩ dX8_leastDigits_13 ⟨fun c2 => ?_, fun c2 => ?_⟩
    · have hv := hv.1 c2
      refine wp_iload_n hb rfl dX8_leastDigits_20 ?_
      refine wp_callS hb (k' := 87) ko_86 lm_8_26 (by decide) rfl (Nat.le_of_ble_eq_true rfl) dX8_leastDigits_21 (sp_cI (hv.I (Nat.le_refl _) ?_))
      intro x3 m1 hv
      exact wp_retI hb rfl dX8_leastDigits_24 hv
    · have hv := hv.2 c2
      refine wp_iconst hb (x := nI 1) rfl dX8_leastDigits_16 ?_
      refine wp_goto hb (t := 24) ⟨rfl, rfl⟩ dX8_leastDigits_17 ?_
      exact wp_retI hb rfl dX8_leastDigits_24 hv
  · have hv := hv.2 c1
    refine wp_iconst hb (x := nI 3) rfl dX8_leastDigits_6 ?_
    refine wp_goto hb (t := 24) ⟨rfl, rfl⟩ dX8_leastDigits_7 ?_
    exact wp_retI hb rfl dX8_leastDigits_24 hv
set_option maxRecDepth 100000 in
theorem v_X8_mostDigits {d sn : Nat} {v0 : Int32} {m : mm_Mem} {P : Int32 → mm_Mem → Prop} 
    (hv : (v0 = nI 98 → (P (nI 8) m)) ∧ (v0 = nI 99 → (P (nI 0) m)) ∧ (v0 = nI 100 → (P (nI 0) m)) ∧ (v0 = nI 101 → (P (nI 0) m)) ∧ (v0 = nI 102 → (P (nI 0) m)) ∧ (v0 = nI 103 → (P (nI 2) m)) ∧ (v0 = nI 104 → (P (nI 8) m)) ∧ (v0 = nI 105 → (P (nI 0) m)) ∧ (v0 = nI 106 → (P (nI 0) m)) ∧ (v0 = nI 107 → (P (nI 2) m)) ∧ (v0 = nI 108 → (P (nI 0) m)) ∧ (v0 = nI 109 → (P (nI 0) m)) ∧ (v0 = nI 110 → (P (nI 1) m)) ∧ (¬ v0 = nI 98 → ¬ v0 = nI 99 → ¬ v0 = nI 100 → ¬ v0 = nI 101 → ¬ v0 = nI 102 → ¬ v0 = nI 103 → ¬ v0 = nI 104 → ¬ v0 = nI 105 → ¬ v0 = nI 106 → ¬ v0 = nI 107 → ¬ v0 = nI 108 → ¬ v0 = nI 109 → ¬ v0 = nI 110 → (P (nI 0) m))) :
    mm_sp (d + 1) sn kX8_mostDigits [.int v0] m (qI P) := by
  have hb := mb_87
  refine wp_in (la := [some (.int v0)]) ⟨⟨Nat.le_of_ble_eq_true rfl, by decide, by decide⟩, rfl⟩ ?_
  refine wp_iload_n hb rfl dX8_mostDigits_0 ?_
  by_cases hc : v0.toInt < 98 ∨ 110 < v0.toInt
  · refine wp_tabO hb hc (t := 75) ⟨rfl, rfl⟩ dX8_mostDigits_1 ?_
    have hv := hv.2.2.2.2.2.2.2.2.2.2.2.2.2 (mm_out hc (by decide) (by decide)) (mm_out hc (by decide) (by decide)) (mm_out hc (by decide) (by decide)) (mm_out hc (by decide) (by decide)) (mm_out hc (by decide) (by decide)) (mm_out hc (by decide) (by decide)) (mm_out hc (by decide) (by decide)) (mm_out hc (by decide) (by decide)) (mm_out hc (by decide) (by decide)) (mm_out hc (by decide) (by decide)) (mm_out hc (by decide) (by decide)) (mm_out hc (by decide) (by decide)) (mm_out hc (by decide) (by decide))
    refine wp_iconst hb (x := nI 0) rfl dX8_mostDigits_75 ?_
    exact wp_retI hb rfl dX8_mostDigits_76 hv
  · have hx := mm_tabc (n := 13) (lo := 98) (by decide) hc (by decide)
    obtain ⟨j, hj, hx⟩ := hx
    by_cases g0 : j = 0
    · subst g0
      have hv := hv.1 hx
      have hc9 := hc
      rw [hx] at hc9 ⊢
      refine wp_tabI hb (off := 71) hc9 rfl (t := 72) ⟨rfl, rfl⟩ dX8_mostDigits_1 ?_
      refine wp_bipush hb (x := nI 8) rfl dX8_mostDigits_72 ?_
      exact wp_retI hb rfl dX8_mostDigits_74 hv
    by_cases g1 : j = 1
    · subst g1
      have hv := hv.2.1 hx
      have hc9 := hc
      rw [hx] at hc9 ⊢
      refine wp_tabI hb (off := 74) hc9 rfl (t := 75) ⟨rfl, rfl⟩ dX8_mostDigits_1 ?_
      refine wp_iconst hb (x := nI 0) rfl dX8_mostDigits_75 ?_
      exact wp_retI hb rfl dX8_mostDigits_76 hv
    by_cases g2 : j = 2
    · subst g2
      have hv := hv.2.2.1 hx
      have hc9 := hc
      rw [hx] at hc9 ⊢
      refine wp_tabI hb (off := 74) hc9 rfl (t := 75) ⟨rfl, rfl⟩ dX8_mostDigits_1 ?_
      refine wp_iconst hb (x := nI 0) rfl dX8_mostDigits_75 ?_
      exact wp_retI hb rfl dX8_mostDigits_76 hv
    by_cases g3 : j = 3
    · subst g3
      have hv := hv.2.2.2.1 hx
      have hc9 := hc
      rw [hx] at hc9 ⊢
      refine wp_tabI hb (off := 74) hc9 rfl (t := 75) ⟨rfl, rfl⟩ dX8_mostDigits_1 ?_
      refine wp_iconst hb (x := nI 0) rfl dX8_mostDigits_75 ?_
      exact wp_retI hb rfl dX8_mostDigits_76 hv
    by_cases g4 : j = 4
    · subst g4
      have hv := hv.2.2.2.2.1 hx
      have hc9 := hc
      rw [hx] at hc9 ⊢
      refine wp_tabI hb (off := 74) hc9 rfl (t := 75) ⟨rfl, rfl⟩ dX8_mostDigits_1 ?_
      refine wp_iconst hb (x := nI 0) rfl dX8_mostDigits_75 ?_
      exact wp_retI hb rfl dX8_mostDigits_76 hv
    by_cases g5 : j = 5
    · subst g5
      have hv := hv.2.2.2.2.2.1 hx
      have hc9 := hc
      rw [hx] at hc9 ⊢
      refine wp_tabI hb (off := 69) hc9 rfl (t := 70) ⟨rfl, rfl⟩ dX8_mostDigits_1 ?_
      refine wp_iconst hb (x := nI 2) rfl dX8_mostDigits_70 ?_
      exact wp_retI hb rfl dX8_mostDigits_71 hv
    by_cases g6 : j = 6
    · subst g6
      have hv := hv.2.2.2.2.2.2.1 hx
      have hc9 := hc
      rw [hx] at hc9 ⊢
      refine wp_tabI hb (off := 71) hc9 rfl (t := 72) ⟨rfl, rfl⟩ dX8_mostDigits_1 ?_
      refine wp_bipush hb (x := nI 8) rfl dX8_mostDigits_72 ?_
      exact wp_retI hb rfl dX8_mostDigits_74 hv
    by_cases g7 : j = 7
    · subst g7
      have hv := hv.2.2.2.2.2.2.2.1 hx
      have hc9 := hc
      rw [hx] at hc9 ⊢
      refine wp_tabI hb (off := 74) hc9 rfl (t := 75) ⟨rfl, rfl⟩ dX8_mostDigits_1 ?_
      refine wp_iconst hb (x := nI 0) rfl dX8_mostDigits_75 ?_
      exact wp_retI hb rfl dX8_mostDigits_76 hv
    by_cases g8 : j = 8
    · subst g8
      have hv := hv.2.2.2.2.2.2.2.2.1 hx
      have hc9 := hc
      rw [hx] at hc9 ⊢
      refine wp_tabI hb (off := 74) hc9 rfl (t := 75) ⟨rfl, rfl⟩ dX8_mostDigits_1 ?_
      refine wp_iconst hb (x := nI 0) rfl dX8_mostDigits_75 ?_
      exact wp_retI hb rfl dX8_mostDigits_76 hv
    by_cases g9 : j = 9
    · subst g9
      have hv := hv.2.2.2.2.2.2.2.2.2.1 hx
      have hc9 := hc
      rw [hx] at hc9 ⊢
      refine wp_tabI hb (off := 69) hc9 rfl (t := 70) ⟨rfl, rfl⟩ dX8_mostDigits_1 ?_
      refine wp_iconst hb (x := nI 2) rfl dX8_mostDigits_70 ?_
      exact wp_retI hb rfl dX8_mostDigits_71 hv
    by_cases g10 : j = 10
    · subst g10
      have hv := hv.2.2.2.2.2.2.2.2.2.2.1 hx
      have hc9 := hc
      rw [hx] at hc9 ⊢
      refine wp_tabI hb (off := 74) hc9 rfl (t := 75) ⟨rfl, rfl⟩ dX8_mostDigits_1 ?_
      refine wp_iconst hb (x := nI 0) rfl dX8_mostDigits_75 ?_
      exact wp_retI hb rfl dX8_mostDigits_76 hv
    by_cases g11 : j = 11
    · subst g11
      have hv := hv.2.2.2.2.2.2.2.2.2.2.2.1 hx
      have hc9 := hc
      rw [hx] at hc9 ⊢
      refine wp_tabI hb (off := 74) hc9 rfl (t := 75) ⟨rfl, rfl⟩ dX8_mostDigits_1 ?_
      refine wp_iconst hb (x := nI 0) rfl dX8_mostDigits_75 ?_
      exact wp_retI hb rfl dX8_mostDigits_76 hv
    by_cases g12 : j = 12
    · subst g12
      have hv := hv.2.2.2.2.2.2.2.2.2.2.2.2.1 hx
      have hc9 := hc
      rw [hx] at hc9 ⊢
      refine wp_tabI hb (off := 67) hc9 rfl (t := 68) ⟨rfl, rfl⟩ dX8_mostDigits_1 ?_
      refine wp_iconst hb (x := nI 1) rfl dX8_mostDigits_68 ?_
      exact wp_retI hb rfl dX8_mostDigits_69 hv
    omega
