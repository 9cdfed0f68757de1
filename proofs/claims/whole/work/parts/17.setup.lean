set_option maxRecDepth 100000 in
theorem v_X6_restart {d sn : Nat} {a0 : Nat} {v1 : Int32} {m : mm_Mem} {P : mm_Mem → Prop} (ha0 : shS a0) 
    (hv : ∀ m1 : mm_Mem, m1 = (mm_u2 m.1 a0 0 v1, m.2) → (∀ m2 : mm_Mem, m2 = (mm_u2 m1.1 a0 1 (nI 0), m1.2) → (∀ m3 : mm_Mem, m3 = (mm_u2 m2.1 a0 2 (nI 0), m2.2) → (mm_sp d sn kX0_becomeEmpty [.ref (a0 + 1), .int (nI 2)] m3 (qV fun m4 => P m4))))) :
    mm_sp (d + 1) sn kX6_restart [.ref a0, .int v1] m (qV P) := by
  have hb := mb_60
  refine wp_in (la := [some (.ref a0), some (.int v1)]) ⟨⟨Nat.le_of_ble_eq_true rfl, by decide, by decide⟩, rfl⟩ ?_
  refine wp_aload_n hb rfl dX6_restart_0 ?_
  refine wp_iload_n hb rfl dX6_restart_1 ?_
  refine wp_putI hb ko_60 lf_6_9 (by decide) (ha0.1 _) dX6_restart_2 ?_
  have hv := hv _ rfl
  generalize (mm_u2 m.1 a0 0 v1, m.2) = m1 at hv ⊢
  refine wp_aload_n hb rfl dX6_restart_5 ?_
  refine wp_iconst hb (x := nI 0) rfl dX6_restart_6 ?_
  refine wp_putI hb ko_60 lf_6_15 (by decide) (ha0.1 _) dX6_restart_7 ?_
  have hv := hv _ rfl
  generalize (mm_u2 m1.1 a0 1 (nI 0), m1.2) = m2 at hv ⊢
  refine wp_aload_n hb rfl dX6_restart_10 ?_
  refine wp_iconst hb (x := nI 0) rfl dX6_restart_11 ?_
  refine wp_putI hb ko_60 lf_6_18 (by decide) (ha0.1 _) dX6_restart_12 ?_
  have hv := hv _ rfl
  generalize (mm_u2 m2.1 a0 2 (nI 0), m2.2) = m3 at hv ⊢
  refine wp_aload_n hb rfl dX6_restart_15 ?_
  refine wp_getR hb ko_60 lf_6_24 (by decide) (ha0.1 _) ha0.2.1.1 dX6_restart_16 ?_
  refine wp_iconst hb (x := nI 2) rfl dX6_restart_19 ?_
  refine wp_callV hb (k' := 1) ko_60 lm_6_39 rfl (ha0.2.1.2.2.1 _) (by decide) (Nat.le_of_ble_eq_true rfl) dX6_restart_20 (sp_cV (hv.V (Nat.le_refl _) ?_))
  intro m4 hv
  exact wp_retV hb rfl dX6_restart_23 hv
set_option maxRecDepth 100000 in
theorem v_X6_copyFrom {d sn : Nat} {a0 : Nat} {a1 : Nat} {m : mm_Mem} {P : mm_Mem → Prop} (ha0 : shS a0) (ha1 : shS a1) 
    (hv : ∀ m1 : mm_Mem, m1 = (mm_u2 m.1 a0 0 (m.1 a1 0), m.2) → (mm_sp d sn kX0_copyFrom [.ref (a0 + 1), .ref (a1 + 1)] m1 (qV fun m2 => ∀ m3 : mm_Mem, m3 = (mm_u2 m2.1 a0 1 (m2.1 a1 1), m2.2) → (mm_wp d sn kX6_copyFrom 29 [some (.ref a0), some (.ref a1), some (.int (nI 0)), none, none] [] m3 (qV P))))) :
    mm_sp (d + 1) sn kX6_copyFrom [.ref a0, .ref a1] m (qV P) := by
  have hb := mb_61
  refine wp_in (la := [some (.ref a0), some (.ref a1), none, none, none]) ⟨⟨Nat.le_of_ble_eq_true rfl, by decide, by decide⟩, rfl⟩ ?_
  refine wp_aload_n hb rfl dX6_copyFrom_0 ?_
  refine wp_aload_n hb rfl dX6_copyFrom_1 ?_
  refine wp_getI hb ko_61 lf_6_9 (by decide) (ha1.1 _) dX6_copyFrom_2 ?_
  refine wp_putI hb ko_61 lf_6_9 (by decide) (ha0.1 _) dX6_copyFrom_5 ?_
  have hv := hv _ rfl
  generalize (mm_u2 m.1 a0 0 (m.1 a1 0), m.2) = m1 at hv ⊢
  refine wp_aload_n hb rfl dX6_copyFrom_8 ?_
  refine wp_getR hb ko_61 lf_6_24 (by decide) (ha0.1 _) ha0.2.1.1 dX6_copyFrom_9 ?_
  refine wp_aload_n hb rfl dX6_copyFrom_12 ?_
  refine wp_getR hb ko_61 lf_6_24 (by decide) (ha1.1 _) ha1.2.1.1 dX6_copyFrom_13 ?_
  refine wp_callV hb (k' := 2) ko_61 lm_6_43 rfl (ha0.2.1.2.2.1 _) (by decide) (Nat.le_of_ble_eq_true rfl) dX6_copyFrom_16 (sp_cV (hv.V (Nat.le_refl _) ?_))
  intro m2 hv
  refine wp_aload_n hb rfl dX6_copyFrom_19 ?_
  refine wp_aload_n hb rfl dX6_copyFrom_20 ?_
  refine wp_getI hb ko_61 lf_6_15 (by decide) (ha1.1 _) dX6_copyFrom_21 ?_
  refine wp_putI hb ko_61 lf_6_15 (by decide) (ha0.1 _) dX6_copyFrom_24 ?_
  have hv := hv _ rfl
  generalize (mm_u2 m2.1 a0 1 (m2.1 a1 1), m2.2) = m3 at hv ⊢
  refine wp_iconst hb (x := nI 0) rfl dX6_copyFrom_27 ?_
  refine wp_istore_n hb rfl dX6_copyFrom_28 ?_
  exact wp_for (mm_ls_k (mm_ls_k (mm_ls_k (mm_ls_k (mm_ls_k mm_ls_nil))))) hv
set_option maxRecDepth 100000 in
theorem v_X6_copyFrom_29 {d sn : Nat} {a0 : Nat} {a1 : Nat} {v2 : Int32} {m : mm_Mem} {P : mm_Mem → Prop} (ha0 : shS a0) (ha1 : shS a1) 
    (hv : ((m.1 a0 1 ≤ v2) → (∀ m1 : mm_Mem, m1 = (mm_u2 m.1 a0 2 (m.1 a1 2), m.2) → (mm_wp d sn kX6_copyFrom 81 [some (.ref a0), some (.ref a1), some (.int (nI 0)), none, none] [] m1 (qV P)))) ∧ (¬ (m.1 a0 1 ≤ v2) → (mm_sp d sn kX6_wayAt [.ref a0, .int v2] m (qR fun x2 m2 => (x2 = none → (mm_sp d sn kX6_wayAt [.ref a1, .int v2] m2 (qR fun x3 m3 => (x3 = none → (mm_wp d sn kX6_copyFrom 29 [some (.ref a0), some (.ref a1), some (.int (v2 + nI 1)), none, none] [] m3 (qV P))) ∧ (∀ a4, x3 = some a4 → shY a4 ∧ (mm_wp d sn kX6_copyFrom 29 [some (.ref a0), some (.ref a1), some (.int (v2 + nI 1)), none, none] [] m3 (qV P)))))) ∧ (∀ a5, x2 = some a5 → shY a5 ∧ (mm_sp d sn kX6_wayAt [.ref a1, .int v2] m2 (qR fun x6 m4 => (x6 = none → (mm_wp d sn kX6_copyFrom 29 [some (.ref a0), some (.ref a1), some (.int (v2 + nI 1)), none, none] [] m4 (qV P))) ∧ (∀ a7, x6 = some a7 → shY a7 ∧ (mm_sp d sn kX9_copyFrom [.ref a5, .ref a7] m4 (qV fun m5 => mm_wp d sn kX6_copyFrom 29 [some (.ref a0), some (.ref a1), some (.int (v2 + nI 1)), none, none] [] m5 (qV P))))))))))) :
    mm_wp d sn kX6_copyFrom 29 [some (.ref a0), some (.ref a1), some (.int v2), none, none] [] m (qV P) := by
  have hb := mb_61
  refine wp_iload_n hb rfl dX6_copyFrom_29 ?_
  refine wp_aload_n hb rfl dX6_copyFrom_30 ?_
  refine wp_getI hb ko_61 lf_6_15 (by decide) (ha0.1 _) dX6_copyFrom_31 ?_
  refine wp_icmp_ge hb (t := 71) ⟨rfl, rfl⟩ dX6_copyFrom_34 ⟨fun c1 => ?_, fun c1 => ?_⟩
  · have hv := hv.1 c1
    refine wp_aload_n hb rfl dX6_copyFrom_71 ?_
    refine wp_aload_n hb rfl dX6_copyFrom_72 ?_
    refine wp_getI hb ko_61 lf_6_18 (by decide) (ha1.1 _) dX6_copyFrom_73 ?_
    refine wp_putI hb ko_61 lf_6_18 (by decide) (ha0.1 _) dX6_copyFrom_76 ?_
    have hv := hv _ rfl
    generalize (mm_u2 m.1 a0 2 (m.1 a1 2), m.2) = m1 at hv ⊢
    refine wp_iconst hb (x := nI 0) rfl dX6_copyFrom_79 ?_
    refine wp_istore_n hb rfl dX6_copyFrom_80 ?_
    exact wp_for (mm_ls_k (mm_ls_k (mm_ls_k (mm_ls_k (mm_ls_k mm_ls_nil))))) hv
  · have hv := hv.2 c1
    refine wp_aload_n hb rfl dX6_copyFrom_37 ?_
    refine wp_iload_n hb rfl dX6_copyFrom_38 ?_
    refine wp_callV hb (k' := 66) ko_61 lm_6_47 rfl (ha0.1 _) (by decide) (Nat.le_of_ble_eq_true rfl) dX6_copyFrom_39 (sp_cR (hv.R (Nat.le_refl _) ?_))
    intro x2 m2 hv
    refine ⟨fun e9 => ?_, fun a9 e9 => ?_⟩
    · have hv := hv.1 e9
      refine wp_astore_nN hb rfl dX6_copyFrom_42 ?_
      refine wp_aload_n hb rfl dX6_copyFrom_43 ?_
      refine wp_iload_n hb rfl dX6_copyFrom_44 ?_
      refine wp_callV hb (k' := 66) ko_61 lm_6_47 rfl (ha1.1 _) (by decide) (Nat.le_of_ble_eq_true rfl) dX6_copyFrom_45 (sp_cR (hv.R (Nat.le_refl _) ?_))
      intro x3 m3 hv
      refine ⟨fun e9 => ?_, fun a9 e9 => ?_⟩
      · have hv := hv.1 e9
        refine wp_astoreN hb rfl dX6_copyFrom_48 ?_
        refine wp_aload_nN hb rfl dX6_copyFrom_50 ?_
        refine wp_ifnullN hb (t := 65) ⟨rfl, rfl⟩ dX6_copyFrom_51 ?_
        refine wp_iinc hb rfl (y := v2 + nI 1) rfl rfl dX6_copyFrom_65 ?_
        refine wp_goto hb (t := 29) ⟨rfl, rfl⟩ dX6_copyFrom_68 ?_
        exact wp_for (mm_ls_k (mm_ls_k (mm_ls_k (mm_ls_f (mm_ls_f mm_ls_nil))))) hv
      · obtain ⟨ha4, hv⟩ := hv.2 a9 e9
        revert hv ha4
        generalize a9 = a4
        intro ha4 hv
        refine wp_astore hb rfl dX6_copyFrom_48 ?_
        refine wp_aload_nN hb rfl dX6_copyFrom_50 ?_
        refine wp_ifnullN hb (t := 65) ⟨rfl, rfl⟩ dX6_copyFrom_51 ?_
        refine wp_iinc hb rfl (y := v2 + nI 1) rfl rfl dX6_copyFrom_65 ?_
        refine wp_goto hb (t := 29) ⟨rfl, rfl⟩ dX6_copyFrom_68 ?_
        exact wp_for (mm_ls_k (mm_ls_k (mm_ls_k (mm_ls_f (mm_ls_f mm_ls_nil))))) hv
    · obtain ⟨ha5, hv⟩ := hv.2 a9 e9
      revert hv ha5
      generalize a9 = a5
      intro ha5 hv
      refine wp_astore_n hb rfl dX6_copyFrom_42 ?_
      refine wp_aload_n hb rfl dX6_copyFrom_43 ?_
      refine wp_iload_n hb rfl dX6_copyFrom_44 ?_
      refine wp_callV hb (k' := 66) ko_61 lm_6_47 rfl (ha1.1 _) (by decide) (Nat.le_of_ble_eq_true rfl) dX6_copyFrom_45 (sp_cR (hv.R (Nat.le_refl _) ?_))
      intro x6 m4 hv
      refine ⟨fun e9 => ?_, fun a9 e9 => ?_⟩
      · have hv := hv.1 e9
        refine wp_astoreN hb rfl dX6_copyFrom_48 ?_
        refine wp_aload_n hb rfl dX6_copyFrom_50 ?_
        refine wp_ifnull hb dX6_copyFrom_51 ?_
        refine wp_aloadN hb rfl dX6_copyFrom_54 ?_
        refine wp_ifnullN hb (t := 65) ⟨rfl, rfl⟩ dX6_copyFrom_56 ?_
        refine wp_iinc hb rfl (y := v2 + nI 1) rfl rfl dX6_copyFrom_65 ?_
        refine wp_goto hb (t := 29) ⟨rfl, rfl⟩ dX6_copyFrom_68 ?_
        exact wp_for (mm_ls_k (mm_ls_k (mm_ls_k (mm_ls_f (mm_ls_f mm_ls_nil))))) hv
      · obtain ⟨ha7, hv⟩ := hv.2 a9 e9
        revert hv ha7
        generalize a9 = a7
        intro ha7 hv
        refine wp_astore hb rfl dX6_copyFrom_48 ?_
        refine wp_aload_n hb rfl dX6_copyFrom_50 ?_
        refine wp_ifnull hb dX6_copyFrom_51 ?_
        refine wp_aload hb rfl dX6_copyFrom_54 ?_
        refine wp_ifnull hb dX6_copyFrom_56 ?_
        refine wp_aload_n hb rfl dX6_copyFrom_59 ?_
        refine wp_aload hb rfl dX6_copyFrom_60 ?_
        refine wp_callV hb (k' := 89) ko_61 lm_6_51 rfl (ha5.2.1 _) (by decide) (Nat.le_of_ble_eq_true rfl) dX6_copyFrom_62 (sp_cV (hv.V (Nat.le_refl _) ?_))
        intro m5 hv
        refine wp_iinc hb rfl (y := v2 + nI 1) rfl rfl dX6_copyFrom_65 ?_
        refine wp_goto hb (t := 29) ⟨rfl, rfl⟩ dX6_copyFrom_68 ?_
        exact wp_for (mm_ls_k (mm_ls_k (mm_ls_k (mm_ls_f (mm_ls_f mm_ls_nil))))) hv
set_option maxRecDepth 100000 in
theorem v_X6_copyFrom_81 {d sn : Nat} {a0 : Nat} {a1 : Nat} {v2 : Int32} {m : mm_Mem} {P : mm_Mem → Prop} (ha0 : shS a0) (ha1 : shS a1) 
    (hv : ((m.1 a0 2 ≤ v2) → (P m)) ∧ (¬ (m.1 a0 2 ≤ v2) → (mm_sp d sn kX6_designAt [.ref a0, .int v2] m (qR fun x2 m1 => (x2 = none → (mm_sp d sn kX6_designAt [.ref a1, .int v2] m1 (qR fun x3 m2 => (x3 = none → (mm_wp d sn kX6_copyFrom 81 [some (.ref a0), some (.ref a1), some (.int (v2 + nI 1)), none, none] [] m2 (qV P))) ∧ (∀ a4, x3 = some a4 → shB a4 ∧ (mm_wp d sn kX6_copyFrom 81 [some (.ref a0), some (.ref a1), some (.int (v2 + nI 1)), none, none] [] m2 (qV P)))))) ∧ (∀ a5, x2 = some a5 → shB a5 ∧ (mm_sp d sn kX6_designAt [.ref a1, .int v2] m1 (qR fun x6 m3 => (x6 = none → (mm_wp d sn kX6_copyFrom 81 [some (.ref a0), some (.ref a1), some (.int (v2 + nI 1)), none, none] [] m3 (qV P))) ∧ (∀ a7, x6 = some a7 → shB a7 ∧ (mm_sp d sn kX0_copyFrom [.ref a5, .ref a7] m3 (qV fun m4 => mm_wp d sn kX6_copyFrom 81 [some (.ref a0), some (.ref a1), some (.int (v2 + nI 1)), none, none] [] m4 (qV P))))))))))) :
    mm_wp d sn kX6_copyFrom 81 [some (.ref a0), some (.ref a1), some (.int v2), none, none] [] m (qV P) := by
  have hb := mb_61
  refine wp_iload_n hb rfl dX6_copyFrom_81 ?_
  refine wp_aload_n hb rfl dX6_copyFrom_82 ?_
  refine wp_getI hb ko_61 lf_6_18 (by decide) (ha0.1 _) dX6_copyFrom_83 ?_
  refine wp_icmp_ge hb (t := 123) ⟨rfl, rfl⟩ dX6_copyFrom_86 ⟨fun c1 => ?_, fun c1 => ?_⟩
  · have hv := hv.1 c1
    exact wp_retV hb rfl dX6_copyFrom_123 hv
  · have hv := hv.2 c1
    refine wp_aload_n hb rfl dX6_copyFrom_89 ?_
    refine wp_iload_n hb rfl dX6_copyFrom_90 ?_
    refine wp_callV hb (k' := 69) ko_61 lm_6_54 rfl (ha0.1 _) (by decide) (Nat.le_of_ble_eq_true rfl) dX6_copyFrom_91 (sp_cR (hv.R (Nat.le_refl _) ?_))
    intro x2 m1 hv
    refine ⟨fun e9 => ?_, fun a9 e9 => ?_⟩
    · have hv := hv.1 e9
      refine wp_astore_nN hb rfl dX6_copyFrom_94 ?_
      refine wp_aload_n hb rfl dX6_copyFrom_95 ?_
      refine wp_iload_n hb rfl dX6_copyFrom_96 ?_
      refine wp_callV hb (k' := 69) ko_61 lm_6_54 rfl (ha1.1 _) (by decide) (Nat.le_of_ble_eq_true rfl) dX6_copyFrom_97 (sp_cR (hv.R (Nat.le_refl _) ?_))
      intro x3 m2 hv
      refine ⟨fun e9 => ?_, fun a9 e9 => ?_⟩
      · have hv := hv.1 e9
        refine wp_astoreN hb rfl dX6_copyFrom_100 ?_
        refine wp_aload_nN hb rfl dX6_copyFrom_102 ?_
        refine wp_ifnullN hb (t := 117) ⟨rfl, rfl⟩ dX6_copyFrom_103 ?_
        refine wp_iinc hb rfl (y := v2 + nI 1) rfl rfl dX6_copyFrom_117 ?_
        refine wp_goto hb (t := 81) ⟨rfl, rfl⟩ dX6_copyFrom_120 ?_
        exact wp_for (mm_ls_k (mm_ls_k (mm_ls_k (mm_ls_f (mm_ls_f mm_ls_nil))))) hv
      · obtain ⟨ha4, hv⟩ := hv.2 a9 e9
        revert hv ha4
        generalize a9 = a4
        intro ha4 hv
        refine wp_astore hb rfl dX6_copyFrom_100 ?_
        refine wp_aload_nN hb rfl dX6_copyFrom_102 ?_
        refine wp_ifnullN hb (t := 117) ⟨rfl, rfl⟩ dX6_copyFrom_103 ?_
        refine wp_iinc hb rfl (y := v2 + nI 1) rfl rfl dX6_copyFrom_117 ?_
        refine wp_goto hb (t := 81) ⟨rfl, rfl⟩ dX6_copyFrom_120 ?_
        exact wp_for (mm_ls_k (mm_ls_k (mm_ls_k (mm_ls_f (mm_ls_f mm_ls_nil))))) hv
    · obtain ⟨ha5, hv⟩ := hv.2 a9 e9
      revert hv ha5
      generalize a9 = a5
      intro ha5 hv
      refine wp_astore_n hb rfl dX6_copyFrom_94 ?_
      refine wp_aload_n hb rfl dX6_copyFrom_95 ?_
      refine wp_iload_n hb rfl dX6_copyFrom_96 ?_
      refine wp_callV hb (k' := 69) ko_61 lm_6_54 rfl (ha1.1 _) (by decide) (Nat.le_of_ble_eq_true rfl) dX6_copyFrom_97 (sp_cR (hv.R (Nat.le_refl _) ?_))
      intro x6 m3 hv
      refine ⟨fun e9 => ?_, fun a9 e9 => ?_⟩
      · have hv := hv.1 e9
        refine wp_astoreN hb rfl dX6_copyFrom_100 ?_
        refine wp_aload_n hb rfl dX6_copyFrom_102 ?_
        refine wp_ifnull hb dX6_copyFrom_103 ?_
        refine wp_aloadN hb rfl dX6_copyFrom_106 ?_
        refine wp_ifnullN hb (t := 117) ⟨rfl, rfl⟩ dX6_copyFrom_108 ?_
        refine wp_iinc hb rfl (y := v2 + nI 1) rfl rfl dX6_copyFrom_117 ?_
        refine wp_goto hb (t := 81) ⟨rfl, rfl⟩ dX6_copyFrom_120 ?_
        exact wp_for (mm_ls_k (mm_ls_k (mm_ls_k (mm_ls_f (mm_ls_f mm_ls_nil))))) hv
      · obtain ⟨ha7, hv⟩ := hv.2 a9 e9
        revert hv ha7
        generalize a9 = a7
        intro ha7 hv
        refine wp_astore hb rfl dX6_copyFrom_100 ?_
        refine wp_aload_n hb rfl dX6_copyFrom_102 ?_
        refine wp_ifnull hb dX6_copyFrom_103 ?_
        refine wp_aload hb rfl dX6_copyFrom_106 ?_
        refine wp_ifnull hb dX6_copyFrom_108 ?_
        refine wp_aload_n hb rfl dX6_copyFrom_111 ?_
        refine wp_aload hb rfl dX6_copyFrom_112 ?_
        refine wp_callV hb (k' := 2) ko_61 lm_6_43 rfl (ha5.2.1 _) (by decide) (Nat.le_of_ble_eq_true rfl) dX6_copyFrom_114 (sp_cV (hv.V (Nat.le_refl _) ?_))
        intro m4 hv
        refine wp_iinc hb rfl (y := v2 + nI 1) rfl rfl dX6_copyFrom_117 ?_
        refine wp_goto hb (t := 81) ⟨rfl, rfl⟩ dX6_copyFrom_120 ?_
        exact wp_for (mm_ls_k (mm_ls_k (mm_ls_k (mm_ls_f (mm_ls_f mm_ls_nil))))) hv
set_option maxRecDepth 100000 in
theorem v_X6_isPoint {d sn : Nat} {a0 : Nat} {v1 : Int32} {m : mm_Mem} {P : Int32 → mm_Mem → Prop} (ha0 : shS a0) 
    (hv : ((v1 < 0) → (P (nI 0) m)) ∧ (¬ (v1 < 0) → (((m.1 a0 0 ≤ v1) → (P (nI 0) m)) ∧ (¬ (m.1 a0 0 ≤ v1) → (P (nI 1) m))))) :
    mm_sp (d + 1) sn kX6_isPoint [.ref a0, .int v1] m (qI P) := by
  have hb := mb_62
  refine wp_in (la := [some (.ref a0), some (.int v1)]) ⟨⟨Nat.le_of_ble_eq_true rfl, by decide, by decide⟩, rfl⟩ ?_
  refine wp_iload_n hb rfl dX6_isPoint_0 ?_
  refine wp_if_lt hb (y := 0) (t := 16) ⟨rfl, rfl⟩ dX6_isPoint_1 ⟨fun c1 => ?_, fun c1 => ?_⟩
  · have hv := hv.1 c1
    refine wp_iconst hb (x := nI 0) rfl dX6_isPoint_16 ?_
    exact wp_retZ hb rfl (by decide) dX6_isPoint_17 hv
  · have hv := hv.2 c1
    refine wp_iload_n hb rfl dX6_isPoint_4 ?_
    refine wp_aload_n hb rfl dX6_isPoint_5 ?_
    refine wp_getI hb ko_62 lf_6_9 (by decide) (ha0.1 _) dX6_isPoint_6 ?_
    refine wp_icmp_ge hb (t := 16) ⟨rfl, rfl⟩ dX6_isPoint_9 ⟨fun c2 => ?_, fun c2 => ?_⟩
    · have hv := hv.1 c2
      refine wp_iconst hb (x := nI 0) rfl dX6_isPoint_16 ?_
      exact wp_retZ hb rfl (by decide) dX6_isPoint_17 hv
    · have hv := hv.2 c2
      refine wp_iconst hb (x := nI 1) rfl dX6_isPoint_12 ?_
      refine wp_goto hb (t := 17) ⟨rfl, rfl⟩ dX6_isPoint_13 ?_
      exact wp_retZ hb rfl (by decide) dX6_isPoint_17 hv
set_option maxRecDepth 100000 in
theorem v_X6_isSize {d sn : Nat} {a0 : Nat} {v1 : Int32} {m : mm_Mem} {P : Int32 → mm_Mem → Prop} (ha0 : shS a0) 
    (hv : ((v1 < 0) → (P (nI 0) m)) ∧ (¬ (v1 < 0) → (((m.1 a0 0 < v1) → (P (nI 0) m)) ∧ (¬ (m.1 a0 0 < v1) → (P (nI 1) m))))) :
    mm_sp (d + 1) sn kX6_isSize [.ref a0, .int v1] m (qI P) := by
  have hb := mb_63
  refine wp_in (la := [some (.ref a0), some (.int v1)]) ⟨⟨Nat.le_of_ble_eq_true rfl, by decide, by decide⟩, rfl⟩ ?_
  refine wp_iload_n hb rfl dX6_isSize_0 ?_
  refine wp_if_lt hb (y := 0) (t := 16) ⟨rfl, rfl⟩ dX6_isSize_1 ⟨fun c1 => ?_, fun c1 => ?_⟩
  · have hv := hv.1 c1
    refine wp_iconst hb (x := nI 0) rfl dX6_isSize_16 ?_
    exact wp_retZ hb rfl (by decide) dX6_isSize_17 hv
  · have hv := hv.2 c1
    refine wp_iload_n hb rfl dX6_isSize_4 ?_
    refine wp_aload_n hb rfl dX6_isSize_5 ?_
    refine wp_getI hb ko_63 lf_6_9 (by decide) (ha0.1 _) dX6_isSize_6 ?_
    refine wp_icmp_gt hb (t := 16) ⟨rfl, rfl⟩ dX6_isSize_9 ⟨fun c2 => ?_, fun c2 => ?_⟩
    · have hv := hv.1 c2
      refine wp_iconst hb (x := nI 0) rfl dX6_isSize_16 ?_
      exact wp_retZ hb rfl (by decide) dX6_isSize_17 hv
    · have hv := hv.2 c2
      refine wp_iconst hb (x := nI 1) rfl dX6_isSize_12 ?_
      refine wp_goto hb (t := 17) ⟨rfl, rfl⟩ dX6_isSize_13 ?_
      exact wp_retZ hb rfl (by decide) dX6_isSize_17 hv
set_option maxRecDepth 100000 in
theorem v_X6_isSet {d sn : Nat} {a0 : Nat} {v1 : Int32} {m : mm_Mem} {P : Int32 → mm_Mem → Prop} (ha0 : shS a0) 
    (hv : ((v1 < 0) → (P (nI 0) m)) ∧ (¬ (v1 < 0) → (mm_sp d sn kX6_whole [.ref a0] m (qI fun x2 m1 => ((x2 < v1) → (P (nI 0) m1)) ∧ (¬ (x2 < v1) → (P (nI 1) m1)))))) :
    mm_sp (d + 1) sn kX6_isSet [.ref a0, .int v1] m (qI P) := by
  have hb := mb_64
  refine wp_in (la := [some (.ref a0), some (.int v1)]) ⟨⟨Nat.le_of_ble_eq_true rfl, by decide, by decide⟩, rfl⟩ ?_
  refine wp_iload_n hb rfl dX6_isSet_0 ?_
  refine wp_if_lt hb (y := 0) (t := 16) ⟨rfl, rfl⟩ dX6_isSet_1 ⟨fun c1 => ?_, fun c1 => ?_⟩
  · have hv := hv.1 c1
    refine wp_iconst hb (x := nI 0) rfl dX6_isSet_16 ?_
    exact wp_retZ hb rfl (by decide) dX6_isSet_17 hv
  · have hv := hv.2 c1
    refine wp_iload_n hb rfl dX6_isSet_4 ?_
    refine wp_aload_n hb rfl dX6_isSet_5 ?_
    refine wp_callV hb (k' := 65) ko_64 lm_6_58 rfl (ha0.1 _) (by decide) (Nat.le_of_ble_eq_true rfl) dX6_isSet_6 (sp_cI (hv.I (Nat.le_refl _) ?_))
    intro x2 m1 hv
    refine wp_icmp_gt hb (t := 16) ⟨rfl, rfl⟩ dX6_isSet_9 ⟨fun c3 => ?_, fun c3 => ?_⟩
    · have hv := hv.1 c3
      refine wp_iconst hb (x := nI 0) rfl dX6_isSet_16 ?_
      exact wp_retZ hb rfl (by decide) dX6_isSet_17 hv
    · have hv := hv.2 c3
      refine wp_iconst hb (x := nI 1) rfl dX6_isSet_12 ?_
      refine wp_goto hb (t := 17) ⟨rfl, rfl⟩ dX6_isSet_13 ?_
      exact wp_retZ hb rfl (by decide) dX6_isSet_17 hv
set_option maxRecDepth 100000 in
theorem v_X6_whole {d sn : Nat} {a0 : Nat} {m : mm_Mem} {P : Int32 → mm_Mem → Prop} (ha0 : shS a0) 
    (hv : P ((mm_shl (nI 1) (m.1 a0 0)) - (nI 1)) m) :
    mm_sp (d + 1) sn kX6_whole [.ref a0] m (qI P) := by
  have hb := mb_65
  refine wp_in (la := [some (.ref a0)]) ⟨⟨Nat.le_of_ble_eq_true rfl, by decide, by decide⟩, rfl⟩ ?_
  refine wp_iconst hb (x := nI 1) rfl dX6_whole_0 ?_
  refine wp_aload_n hb rfl dX6_whole_1 ?_
  refine wp_getI hb ko_65 lf_6_9 (by decide) (ha0.1 _) dX6_whole_2 ?_
  refine wp_ishl hb dX6_whole_5 ?_
  refine wp_iconst hb (x := nI 1) rfl dX6_whole_6 ?_
  refine wp_isub hb dX6_whole_7 ?_
  exact wp_retI hb rfl dX6_whole_8 hv
set_option maxRecDepth 100000 in
theorem v_X6_wayAt {d sn : Nat} {a0 : Nat} {v1 : Int32} {m : mm_Mem} {P : Option Nat → mm_Mem → Prop} (ha0 : shS a0) 
    (hv : ((v1 < 0) → (P none m)) ∧ (¬ (v1 < 0) → (((m.1 a0 1 ≤ v1) → (P none m)) ∧ (¬ (m.1 a0 1 ≤ v1) → (((v1 < nI 4) → (∃ i4 : Nat, i4 < 4 ∧ v1 = nI i4 ∧ (P (some (a0 + 4 + 2 * i4)) m))) ∧ (¬ (v1 < nI 4) → (P none m))))))) :
    mm_sp (d + 1) sn kX6_wayAt [.ref a0, .int v1] m (qR P) := by
  have hb := mb_66
  refine wp_in (la := [some (.ref a0), some (.int v1)]) ⟨⟨Nat.le_of_ble_eq_true rfl, by decide, by decide⟩, rfl⟩ ?_
  refine wp_iload_n hb rfl dX6_wayAt_0 ?_
  refine wp_if_lt hb (y := 0) (t := 21) ⟨rfl, rfl⟩ dX6_wayAt_1 ⟨fun c1 => ?_, fun c1 => ?_⟩
  · have hv := hv.1 c1
    refine wp_null hb dX6_wayAt_21 ?_
    exact wp_retN hb rfl dX6_wayAt_22 hv
  · have hv := hv.2 c1
    refine wp_iload_n hb rfl dX6_wayAt_4 ?_
    refine wp_aload_n hb rfl dX6_wayAt_5 ?_
    refine wp_getI hb ko_66 lf_6_15 (by decide) (ha0.1 _) dX6_wayAt_6 ?_
    refine wp_icmp_ge hb (t := 21) ⟨rfl, rfl⟩ dX6_wayAt_9 ⟨fun c2 => ?_, fun c2 => ?_⟩
    · have hv := hv.1 c2
      refine wp_null hb dX6_wayAt_21 ?_
      exact wp_retN hb rfl dX6_wayAt_22 hv
    · have hv := hv.2 c2
      refine wp_iload_n hb rfl dX6_wayAt_12 ?_
      refine wp_aload_n hb rfl dX6_wayAt_13 ?_
      refine wp_getR hb ko_66 lf_6_30 (by decide) (ha0.1 _) ha0.2.2.1.1 dX6_wayAt_14 ?_
      refine wp_alen hb (x := nI 4) (ha0.2.2.1.2.1 _) (by decide) rfl dX6_wayAt_17 ?_
      refine wp_icmp_lt hb (t := 23) ⟨rfl, rfl⟩ dX6_wayAt_18 ⟨fun c3 => ?_, fun c3 => ?_⟩
      · have hv := hv.1 c3
        refine wp_aload_n hb rfl dX6_wayAt_23 ?_
        refine wp_getR hb ko_66 lf_6_30 (by decide) (ha0.1 _) ha0.2.2.1.1 dX6_wayAt_24 ?_
        refine wp_iload_n hb rfl dX6_wayAt_27 ?_
        obtain ⟨i4, hi4, hx4, hv⟩ := hv
        refine wp_aaload hb (ha0.2.2.1.2.1 _) (by decide) (mm_inx hx4 hi4 (by decide)) (mm_rx hx4 (by omega) (ha0.2.2.1.2.2 _ hi4).1) dX6_wayAt_28 ?_
        exact wp_retR hb rfl dX6_wayAt_29 hv
      · have hv := hv.2 c3
        refine wp_null hb dX6_wayAt_21 ?_
        exact wp_retN hb rfl dX6_wayAt_22 hv
set_option maxRecDepth 100000 in
theorem v_X6_spareWay {d sn : Nat} {a0 : Nat} {m : mm_Mem} {P : Option Nat → mm_Mem → Prop} (ha0 : shS a0) 
    (hv : ((m.1 a0 1 < 0) → (P none m)) ∧ (¬ (m.1 a0 1 < 0) → (((m.1 a0 1 < nI 4) → (∃ i3 : Nat, i3 < 4 ∧ m.1 a0 1 = nI i3 ∧ (P (some (a0 + 4 + 2 * i3)) m))) ∧ (¬ (m.1 a0 1 < nI 4) → (P none m))))) :
    mm_sp (d + 1) sn kX6_spareWay [.ref a0] m (qR P) := by
  have hb := mb_67
  refine wp_in (la := [some (.ref a0)]) ⟨⟨Nat.le_of_ble_eq_true rfl, by decide, by decide⟩, rfl⟩ ?_
  refine wp_aload_n hb rfl dX6_spareWay_0 ?_
  refine wp_getI hb ko_67 lf_6_15 (by decide) (ha0.1 _) dX6_spareWay_1 ?_
  refine wp_if_lt hb (y := 0) (t := 19) ⟨rfl, rfl⟩ dX6_spareWay_4 ⟨fun c1 => ?_, fun c1 => ?_⟩
  · have hv := hv.1 c1
    refine wp_null hb dX6_spareWay_19 ?_
    exact wp_retN hb rfl dX6_spareWay_20 hv
  · have hv := hv.2 c1
    refine wp_aload_n hb rfl dX6_spareWay_7 ?_
    refine wp_getI hb ko_67 lf_6_15 (by decide) (ha0.1 _) dX6_spareWay_8 ?_
    refine wp_aload_n hb rfl dX6_spareWay_11 ?_
    refine wp_getR hb ko_67 lf_6_30 (by decide) (ha0.1 _) ha0.2.2.1.1 dX6_spareWay_12 ?_
    refine wp_alen hb (x := nI 4) (ha0.2.2.1.2.1 _) (by decide) rfl dX6_spareWay_15 ?_
    refine wp_icmp_lt hb (t := 21) ⟨rfl, rfl⟩ dX6_spareWay_16 ⟨fun c2 => ?_, fun c2 => ?_⟩
    · have hv := hv.1 c2
      refine wp_aload_n hb rfl dX6_spareWay_21 ?_
      refine wp_getR hb ko_67 lf_6_30 (by decide) (ha0.1 _) ha0.2.2.1.1 dX6_spareWay_22 ?_
      refine wp_aload_n hb rfl dX6_spareWay_25 ?_
      refine wp_getI hb ko_67 lf_6_15 (by decide) (ha0.1 _) dX6_spareWay_26 ?_
      obtain ⟨i3, hi3, hx3, hv⟩ := hv
      refine wp_aaload hb (ha0.2.2.1.2.1 _) (by decide) (mm_inx hx3 hi3 (by decide)) (mm_rx hx3 (by omega) (ha0.2.2.1.2.2 _ hi3).1) dX6_spareWay_29 ?_
      exact wp_retR hb rfl dX6_spareWay_30 hv
    · have hv := hv.2 c2
      refine wp_null hb dX6_spareWay_19 ?_
      exact wp_retN hb rfl dX6_spareWay_20 hv
set_option maxRecDepth 100000 in
theorem v_X6_removeWay {d sn : Nat} {a0 : Nat} {v1 : Int32} {m : mm_Mem} {P : mm_Mem → Prop} (ha0 : shS a0) 
    (hv : mm_wp d sn kX6_removeWay 2 [some (.ref a0), none, some (.int v1), none, none] [] m (qV P)) :
    mm_sp (d + 1) sn kX6_removeWay [.ref a0, .int v1] m (qV P) := by
  have hb := mb_68
  refine wp_in (la := [some (.ref a0), some (.int v1), none, none, none]) ⟨⟨Nat.le_of_ble_eq_true rfl, by decide, by decide⟩, rfl⟩ ?_
  refine wp_iload_n hb rfl dX6_removeWay_0 ?_
  refine wp_istore_n hb rfl dX6_removeWay_1 ?_
  exact wp_for (mm_ls_k (mm_ls_f (mm_ls_k (mm_ls_k (mm_ls_k mm_ls_nil))))) hv
set_option maxRecDepth 100000 in
theorem v_X6_removeWay_2 {d sn : Nat} {a0 : Nat} {v2 : Int32} {m : mm_Mem} {P : mm_Mem → Prop} (ha0 : shS a0) 
    (hv : (((m.1 a0 1) - (nI 1) ≤ v2) → (∀ m1 : mm_Mem, m1 = (mm_u2 m.1 a0 1 ((m.1 a0 1) - (nI 1)), m.2) → (P m1))) ∧ (¬ ((m.1 a0 1) - (nI 1) ≤ v2) → (mm_sp d sn kX6_wayAt [.ref a0, .int v2] m (qR fun x2 m2 => (x2 = none → (mm_sp d sn kX6_wayAt [.ref a0, .int (v2 + (nI 1))] m2 (qR fun x3 m3 => (x3 = none → (mm_wp d sn kX6_removeWay 2 [some (.ref a0), none, some (.int (v2 + nI 1)), none, none] [] m3 (qV P))) ∧ (∀ a4, x3 = some a4 → shY a4 ∧ (mm_wp d sn kX6_removeWay 2 [some (.ref a0), none, some (.int (v2 + nI 1)), none, none] [] m3 (qV P)))))) ∧ (∀ a5, x2 = some a5 → shY a5 ∧ (mm_sp d sn kX6_wayAt [.ref a0, .int (v2 + (nI 1))] m2 (qR fun x6 m4 => (x6 = none → (mm_wp d sn kX6_removeWay 2 [some (.ref a0), none, some (.int (v2 + nI 1)), none, none] [] m4 (qV P))) ∧ (∀ a7, x6 = some a7 → shY a7 ∧ (mm_sp d sn kX9_copyFrom [.ref a5, .ref a7] m4 (qV fun m5 => mm_wp d sn kX6_removeWay 2 [some (.ref a0), none, some (.int (v2 + nI 1)), none, none] [] m5 (qV P))))))))))) :
    mm_wp d sn kX6_removeWay 2 [some (.ref a0), none, some (.int v2), none, none] [] m (qV P) := by
  have hb := mb_68
  refine wp_iload_n hb rfl dX6_removeWay_2 ?_
  refine wp_aload_n hb rfl dX6_removeWay_3 ?_
  refine wp_getI hb ko_68 lf_6_15 (by decide) (ha0.1 _) dX6_removeWay_4 ?_
  refine wp_iconst hb (x := nI 1) rfl dX6_removeWay_7 ?_
  refine wp_isub hb dX6_removeWay_8 ?_
  refine wp_icmp_ge hb (t := 48) ⟨rfl, rfl⟩ dX6_removeWay_9 ⟨fun c1 => ?_, fun c1 => ?_⟩
  · have hv := hv.1 c1
    refine wp_aload_n hb rfl dX6_removeWay_48 ?_
    refine wp_dupR hb dX6_removeWay_49 ?_
    refine wp_getI hb ko_68 lf_6_15 (by decide) (ha0.1 _) dX6_removeWay_50 ?_
    refine wp_iconst hb (x := nI 1) rfl dX6_removeWay_53 ?_
    refine wp_isub hb dX6_removeWay_54 ?_
    refine wp_putI hb ko_68 lf_6_15 (by decide) (ha0.1 _) dX6_removeWay_55 ?_
    have hv := hv _ rfl
    generalize (mm_u2 m.1 a0 1 ((m.1 a0 1) - (nI 1)), m.2) = m1 at hv ⊢
    exact wp_retV hb rfl dX6_removeWay_58 hv
  · have hv := hv.2 c1
    refine wp_aload_n hb rfl dX6_removeWay_12 ?_
    refine wp_iload_n hb rfl dX6_removeWay_13 ?_
    refine wp_callV hb (k' := 66) ko_68 lm_6_47 rfl (ha0.1 _) (by decide) (Nat.le_of_ble_eq_true rfl) dX6_removeWay_14 (sp_cR (hv.R (Nat.le_refl _) ?_))
    intro x2 m2 hv
    refine ⟨fun e9 => ?_, fun a9 e9 => ?_⟩
    · have hv := hv.1 e9
      refine wp_astore_nN hb rfl dX6_removeWay_17 ?_
      refine wp_aload_n hb rfl dX6_removeWay_18 ?_
      refine wp_iload_n hb rfl dX6_removeWay_19 ?_
      refine wp_iconst hb (x := nI 1) rfl dX6_removeWay_20 ?_
      refine wp_iadd hb dX6_removeWay_21 ?_
      refine wp_callV hb (k' := 66) ko_68 lm_6_47 rfl (ha0.1 _) (by decide) (Nat.le_of_ble_eq_true rfl) dX6_removeWay_22 (sp_cR (hv.R (Nat.le_refl _) ?_))
      intro x3 m3 hv
      refine ⟨fun e9 => ?_, fun a9 e9 => ?_⟩
      · have hv := hv.1 e9
        refine wp_astoreN hb rfl dX6_removeWay_25 ?_
        refine wp_aload_nN hb rfl dX6_removeWay_27 ?_
        refine wp_ifnullN hb (t := 42) ⟨rfl, rfl⟩ dX6_removeWay_28 ?_
        refine wp_iinc hb rfl (y := v2 + nI 1) rfl rfl dX6_removeWay_42 ?_
        refine wp_goto hb (t := 2) ⟨rfl, rfl⟩ dX6_removeWay_45 ?_
        exact wp_for (mm_ls_k (mm_ls_k (mm_ls_k (mm_ls_f (mm_ls_f mm_ls_nil))))) hv
      · obtain ⟨ha4, hv⟩ := hv.2 a9 e9
        revert hv ha4
        generalize a9 = a4
        intro ha4 hv
        refine wp_astore hb rfl dX6_removeWay_25 ?_
        refine wp_aload_nN hb rfl dX6_removeWay_27 ?_
        refine wp_ifnullN hb (t := 42) ⟨rfl, rfl⟩ dX6_removeWay_28 ?_
        refine wp_iinc hb rfl (y := v2 + nI 1) rfl rfl dX6_removeWay_42 ?_
        refine wp_goto hb (t := 2) ⟨rfl, rfl⟩ dX6_removeWay_45 ?_
        exact wp_for (mm_ls_k (mm_ls_k (mm_ls_k (mm_ls_f (mm_ls_f mm_ls_nil))))) hv
    · obtain ⟨ha5, hv⟩ := hv.2 a9 e9
      revert hv ha5
      generalize a9 = a5
      intro ha5 hv
      refine wp_astore_n hb rfl dX6_removeWay_17 ?_
      refine wp_aload_n hb rfl dX6_removeWay_18 ?_
      refine wp_iload_n hb rfl dX6_removeWay_19 ?_
      refine wp_iconst hb (x := nI 1) rfl dX6_removeWay_20 ?_
      refine wp_iadd hb dX6_removeWay_21 ?_
      refine wp_callV hb (k' := 66) ko_68 lm_6_47 rfl (ha0.1 _) (by decide) (Nat.le_of_ble_eq_true rfl) dX6_removeWay_22 (sp_cR (hv.R (Nat.le_refl _) ?_))
      intro x6 m4 hv
      refine ⟨fun e9 => ?_, fun a9 e9 => ?_⟩
      · have hv := hv.1 e9
        refine wp_astoreN hb rfl dX6_removeWay_25 ?_
        refine wp_aload_n hb rfl dX6_removeWay_27 ?_
        refine wp_ifnull hb dX6_removeWay_28 ?_
        refine wp_aloadN hb rfl dX6_removeWay_31 ?_
        refine wp_ifnullN hb (t := 42) ⟨rfl, rfl⟩ dX6_removeWay_33 ?_
        refine wp_iinc hb rfl (y := v2 + nI 1) rfl rfl dX6_removeWay_42 ?_
        refine wp_goto hb (t := 2) ⟨rfl, rfl⟩ dX6_removeWay_45 ?_
        exact wp_for (mm_ls_k (mm_ls_k (mm_ls_k (mm_ls_f (mm_ls_f mm_ls_nil))))) hv
      · obtain ⟨ha7, hv⟩ := hv.2 a9 e9
        revert hv ha7
        generalize a9 = a7
        intro ha7 hv
        refine wp_astore hb rfl dX6_removeWay_25 ?_
        refine wp_aload_n hb rfl dX6_removeWay_27 ?_
        refine wp_ifnull hb dX6_removeWay_28 ?_
        refine wp_aload hb rfl dX6_removeWay_31 ?_
        refine wp_ifnull hb dX6_removeWay_33 ?_
        refine wp_aload_n hb rfl dX6_removeWay_36 ?_
        refine wp_aload hb rfl dX6_removeWay_37 ?_
        refine wp_callV hb (k' := 89) ko_68 lm_6_51 rfl (ha5.2.1 _) (by decide) (Nat.le_of_ble_eq_true rfl) dX6_removeWay_39 (sp_cV (hv.V (Nat.le_refl _) ?_))
        intro m5 hv
        refine wp_iinc hb rfl (y := v2 + nI 1) rfl rfl dX6_removeWay_42 ?_
        refine wp_goto hb (t := 2) ⟨rfl, rfl⟩ dX6_removeWay_45 ?_
        exact wp_for (mm_ls_k (mm_ls_k (mm_ls_k (mm_ls_f (mm_ls_f mm_ls_nil))))) hv
set_option maxRecDepth 100000 in
theorem v_X6_designAt {d sn : Nat} {a0 : Nat} {v1 : Int32} {m : mm_Mem} {P : Option Nat → mm_Mem → Prop} (ha0 : shS a0) 
    (hv : ((v1 < 0) → (P none m)) ∧ (¬ (v1 < 0) → (((m.1 a0 2 ≤ v1) → (P none m)) ∧ (¬ (m.1 a0 2 ≤ v1) → (((v1 < nI 4) → (∃ i4 : Nat, i4 < 4 ∧ v1 = nI i4 ∧ (P (some (a0 + 13 + 2 * i4)) m))) ∧ (¬ (v1 < nI 4) → (P none m))))))) :
    mm_sp (d + 1) sn kX6_designAt [.ref a0, .int v1] m (qR P) := by
  have hb := mb_69
  refine wp_in (la := [some (.ref a0), some (.int v1)]) ⟨⟨Nat.le_of_ble_eq_true rfl, by decide, by decide⟩, rfl⟩ ?_
  refine wp_iload_n hb rfl dX6_designAt_0 ?_
  refine wp_if_lt hb (y := 0) (t := 21) ⟨rfl, rfl⟩ dX6_designAt_1 ⟨fun c1 => ?_, fun c1 => ?_⟩
  · have hv := hv.1 c1
    refine wp_null hb dX6_designAt_21 ?_
    exact wp_retN hb rfl dX6_designAt_22 hv
  · have hv := hv.2 c1
    refine wp_iload_n hb rfl dX6_designAt_4 ?_
    refine wp_aload_n hb rfl dX6_designAt_5 ?_
    refine wp_getI hb ko_69 lf_6_18 (by decide) (ha0.1 _) dX6_designAt_6 ?_
    refine wp_icmp_ge hb (t := 21) ⟨rfl, rfl⟩ dX6_designAt_9 ⟨fun c2 => ?_, fun c2 => ?_⟩
    · have hv := hv.1 c2
      refine wp_null hb dX6_designAt_21 ?_
      exact wp_retN hb rfl dX6_designAt_22 hv
    · have hv := hv.2 c2
      refine wp_iload_n hb rfl dX6_designAt_12 ?_
      refine wp_aload_n hb rfl dX6_designAt_13 ?_
      refine wp_getR hb ko_69 lf_6_35 (by decide) (ha0.1 _) ha0.2.2.2.1 dX6_designAt_14 ?_
      refine wp_alen hb (x := nI 4) (ha0.2.2.2.2.1 _) (by decide) rfl dX6_designAt_17 ?_
      refine wp_icmp_lt hb (t := 23) ⟨rfl, rfl⟩ dX6_designAt_18 ⟨fun c3 => ?_, fun c3 => ?_⟩
      · have hv := hv.1 c3
        refine wp_aload_n hb rfl dX6_designAt_23 ?_
        refine wp_getR hb ko_69 lf_6_35 (by decide) (ha0.1 _) ha0.2.2.2.1 dX6_designAt_24 ?_
        refine wp_iload_n hb rfl dX6_designAt_27 ?_
        obtain ⟨i4, hi4, hx4, hv⟩ := hv
        refine wp_aaload hb (ha0.2.2.2.2.1 _) (by decide) (mm_inx hx4 hi4 (by decide)) (mm_rx hx4 (by omega) (ha0.2.2.2.2.2 _ hi4).1) dX6_designAt_28 ?_
        exact wp_retR hb rfl dX6_designAt_29 hv
      · have hv := hv.2 c3
        refine wp_null hb dX6_designAt_21 ?_
        exact wp_retN hb rfl dX6_designAt_22 hv
set_option maxRecDepth 100000 in
theorem v_X6_spareDesign {d sn : Nat} {a0 : Nat} {m : mm_Mem} {P : Option Nat → mm_Mem → Prop} (ha0 : shS a0) 
    (hv : ((m.1 a0 2 < 0) → (P none m)) ∧ (¬ (m.1 a0 2 < 0) → (((m.1 a0 2 < nI 4) → (∃ i3 : Nat, i3 < 4 ∧ m.1 a0 2 = nI i3 ∧ (P (some (a0 + 13 + 2 * i3)) m))) ∧ (¬ (m.1 a0 2 < nI 4) → (P none m))))) :
    mm_sp (d + 1) sn kX6_spareDesign [.ref a0] m (qR P) := by
  have hb := mb_70
  refine wp_in (la := [some (.ref a0)]) ⟨⟨Nat.le_of_ble_eq_true rfl, by decide, by decide⟩, rfl⟩ ?_
  refine wp_aload_n hb rfl dX6_spareDesign_0 ?_
  refine wp_getI hb ko_70 lf_6_18 (by decide) (ha0.1 _) dX6_spareDesign_1 ?_
  refine wp_if_lt hb (y := 0) (t := 19) ⟨rfl, rfl⟩ dX6_spareDesign_4 ⟨fun c1 => ?_, fun c1 => ?_⟩
  · have hv := hv.1 c1
    refine wp_null hb dX6_spareDesign_19 ?_
    exact wp_retN hb rfl dX6_spareDesign_20 hv
  · have hv := hv.2 c1
    refine wp_aload_n hb rfl dX6_spareDesign_7 ?_
    refine wp_getI hb ko_70 lf_6_18 (by decide) (ha0.1 _) dX6_spareDesign_8 ?_
    refine wp_aload_n hb rfl dX6_spareDesign_11 ?_
    refine wp_getR hb ko_70 lf_6_35 (by decide) (ha0.1 _) ha0.2.2.2.1 dX6_spareDesign_12 ?_
    refine wp_alen hb (x := nI 4) (ha0.2.2.2.2.1 _) (by decide) rfl dX6_spareDesign_15 ?_
    refine wp_icmp_lt hb (t := 21) ⟨rfl, rfl⟩ dX6_spareDesign_16 ⟨fun c2 => ?_, fun c2 => ?_⟩
    · have hv := hv.1 c2
      refine wp_aload_n hb rfl dX6_spareDesign_21 ?_
      refine wp_getR hb ko_70 lf_6_35 (by decide) (ha0.1 _) ha0.2.2.2.1 dX6_spareDesign_22 ?_
      refine wp_aload_n hb rfl dX6_spareDesign_25 ?_
      refine wp_getI hb ko_70 lf_6_18 (by decide) (ha0.1 _) dX6_spareDesign_26 ?_
      obtain ⟨i3, hi3, hx3, hv⟩ := hv
      refine wp_aaload hb (ha0.2.2.2.2.1 _) (by decide) (mm_inx hx3 hi3 (by decide)) (mm_rx hx3 (by omega) (ha0.2.2.2.2.2 _ hi3).1) dX6_spareDesign_29 ?_
      exact wp_retR hb rfl dX6_spareDesign_30 hv
    · have hv := hv.2 c2
      refine wp_null hb dX6_spareDesign_19 ?_
      exact wp_retN hb rfl dX6_spareDesign_20 hv
