set_option maxRecDepth 100000 in
theorem v_X11_waysFrom {d sn : Nat} {a1 : Nat} {a2 : Nat} {v3 : Int32} {v4 : Int32} {v5 : Int32} {m : mm_Mem} {P : Int32 → mm_Mem → Prop} (ha1 : shZ a1) (ha2 : shZ a2) 
    (hv : ((¬ v3 = m.1 83 0) → (mm_wp d sn kX11_waysFrom 56 [some (.ref 82), some (.ref a1), some (.ref a2), some (.int v3), some (.int v4), some (.int v5), some (.int (nI 0)), some (.int (nI 0))] [] m (qI P))) ∧ (¬ (¬ v3 = m.1 83 0) → (mm_wp d sn kX11_waysFrom 13 [some (.ref 82), some (.ref a1), some (.ref a2), none, none, none, some (.int (nI 0)), none] [] m (qI P)))) :
    mm_sp (d + 1) sn kX11_waysFrom [.ref 82, .ref a1, .ref a2, .int v3, .int v4, .int v5] m (qI P) := by
  have hb := mb_206
  refine wp_in (la := [some (.ref 82), some (.ref a1), some (.ref a2), some (.int v3), some (.int v4), some (.int v5), none, none]) ⟨⟨Nat.le_of_ble_eq_true rfl, by decide, by decide⟩, rfl⟩ ?_
  refine wp_iload_n hb rfl dX11_waysFrom_0 ?_
  refine wp_aload_n hb rfl dX11_waysFrom_1 ?_
  refine wp_getR hb ko_206 lf_11_11 (by decide) m0_82 r0_82_0 dX11_waysFrom_2 ?_
  refine wp_iconst hb (x := nI 0) rfl dX11_waysFrom_5 ?_
  refine wp_iaload hb (q := 0) (by decide) m0_83 (vp_in_nI (by decide) (by decide)) dX11_waysFrom_6 ?_
  refine wp_icmp_ne hb (t := 50) ⟨rfl, rfl⟩ dX11_waysFrom_7 ⟨fun c1 => ?_, fun c1 => ?_⟩
  · have hv := hv.1 c1
    refine wp_iconst hb (x := nI 0) rfl dX11_waysFrom_50 ?_
    refine wp_istore hb rfl dX11_waysFrom_51 ?_
    refine wp_iconst hb (x := nI 0) rfl dX11_waysFrom_53 ?_
    refine wp_istore hb rfl dX11_waysFrom_54 ?_
    exact wp_for (mm_ls_k (mm_ls_k (mm_ls_k (mm_ls_k (mm_ls_k (mm_ls_k (mm_ls_k (mm_ls_k mm_ls_nil)))))))) hv
  · have hv := hv.2 c1
    refine wp_iconst hb (x := nI 0) rfl dX11_waysFrom_10 ?_
    refine wp_istore hb rfl dX11_waysFrom_11 ?_
    exact wp_for (mm_ls_k (mm_ls_k (mm_ls_k (mm_ls_f (mm_ls_f (mm_ls_f (mm_ls_k (mm_ls_k mm_ls_nil)))))))) hv
set_option maxRecDepth 100000 in
theorem v_X11_waysFrom_56 {d sn : Nat} {a1 : Nat} {a2 : Nat} {v3 : Int32} {v4 : Int32} {v5 : Int32} {v6 : Int32} {v7 : Int32} {m : mm_Mem} {P : Int32 → mm_Mem → Prop} (ha1 : shZ a1) (ha2 : shZ a2) 
    (hv : ((m.1 83 0 ≤ v7) → (P v6 m)) ∧ (¬ (m.1 83 0 ≤ v7) → (((v5 = 0) → (((¬ (mm_shr v4 v7) &&& (nI 1) = 0) → (mm_wp d sn kX11_waysFrom 56 [some (.ref 82), some (.ref a1), some (.ref a2), some (.int v3), some (.int v4), some (.int v5), some (.int v6), some (.int (v7 + nI 1))] [] m (qI P))) ∧ (¬ (¬ (mm_shr v4 v7) &&& (nI 1) = 0) → (vp_in v3 8 ∧ (∀ m1 : mm_Mem, m1 = (mm_u2 m.1 175 v3.toNatClampNeg v7, m.2) → (mm_sp d sn kX11_waysFrom [.ref 82, .ref a1, .ref a2, .int (v3 + (nI 1)), .int (v4 ||| (mm_shl (nI 1) v7)), .int v5] m1 (qI fun x5 m2 => mm_wp d sn kX11_waysFrom 56 [some (.ref 82), some (.ref a1), some (.ref a2), some (.int v3), some (.int v4), some (.int v5), some (.int (v6 + x5)), some (.int (v7 + nI 1))] [] m2 (qI P)))))))) ∧ (¬ (v5 = 0) → (((¬ v6 = 0) → (P v6 m)) ∧ (¬ (¬ v6 = 0) → (((¬ (mm_shr v4 v7) &&& (nI 1) = 0) → (mm_wp d sn kX11_waysFrom 56 [some (.ref 82), some (.ref a1), some (.ref a2), some (.int v3), some (.int v4), some (.int v5), some (.int v6), some (.int (v7 + nI 1))] [] m (qI P))) ∧ (¬ (¬ (mm_shr v4 v7) &&& (nI 1) = 0) → (vp_in v3 8 ∧ (∀ m3 : mm_Mem, m3 = (mm_u2 m.1 175 v3.toNatClampNeg v7, m.2) → (mm_sp d sn kX11_waysFrom [.ref 82, .ref a1, .ref a2, .int (v3 + (nI 1)), .int (v4 ||| (mm_shl (nI 1) v7)), .int v5] m3 (qI fun x9 m4 => mm_wp d sn kX11_waysFrom 56 [some (.ref 82), some (.ref a1), some (.ref a2), some (.int v3), some (.int v4), some (.int v5), some (.int (v6 + x9)), some (.int (v7 + nI 1))] [] m4 (qI P))))))))))))) :
    mm_wp d sn kX11_waysFrom 56 [some (.ref 82), some (.ref a1), some (.ref a2), some (.int v3), some (.int v4), some (.int v5), some (.int v6), some (.int v7)] [] m (qI P) := by
  have hb := mb_206
  refine wp_iload hb rfl dX11_waysFrom_56 ?_
  refine wp_aload_n hb rfl dX11_waysFrom_58 ?_
  refine wp_getR hb ko_206 lf_11_11 (by decide) m0_82 r0_82_0 dX11_waysFrom_59 ?_
  refine wp_iconst hb (x := nI 0) rfl dX11_waysFrom_62 ?_
  refine wp_iaload hb (q := 0) (by decide) m0_83 (vp_in_nI (by decide) (by decide)) dX11_waysFrom_63 ?_
  refine wp_icmp_ge hb (t := 124) ⟨rfl, rfl⟩ dX11_waysFrom_64 ⟨fun c1 => ?_, fun c1 => ?_⟩
  · have hv := hv.1 c1
    refine wp_iload hb rfl dX11_waysFrom_124 ?_
    exact wp_retI hb rfl dX11_waysFrom_126 hv
  · have hv := hv.2 c1
    refine wp_iload hb rfl dX11_waysFrom_67 ?_
    refine wp_if_eq hb (y := 0) (t := 77) ⟨rfl, rfl⟩ dX11_waysFrom_69 ⟨fun c2 => ?_, fun c2 => ?_⟩
    · have hv := hv.1 c2
      refine wp_iload hb rfl dX11_waysFrom_77 ?_
      refine wp_iload hb rfl dX11_waysFrom_79 ?_
      refine wp_ishr hb dX11_waysFrom_81 ?_
      refine wp_iconst hb (x := nI 1) rfl dX11_waysFrom_82 ?_
      refine wp_iand hb dX11_waysFrom_83 ?_
      refine wp_if_ne hb (y := 0) (t := 118) ⟨rfl, rfl⟩ dX11_waysFrom_84 ⟨fun c3 => ?_, fun c3 => ?_⟩
      · have hv := hv.1 c3
        refine wp_iinc hb rfl (y := v7 + nI 1) rfl rfl dX11_waysFrom_118 ?_
        refine wp_goto hb (t := 56) ⟨rfl, rfl⟩ dX11_waysFrom_121 ?_
        exact wp_for (mm_ls_k (mm_ls_k (mm_ls_k (mm_ls_k (mm_ls_k (mm_ls_k (mm_ls_k (mm_ls_k mm_ls_nil)))))))) hv
      · have hv := hv.2 c3
        refine wp_aload_n hb rfl dX11_waysFrom_87 ?_
        refine wp_getR hb ko_206 lf_11_53 (by decide) m0_82 r0_82_13 dX11_waysFrom_88 ?_
        refine wp_iload_n hb rfl dX11_waysFrom_91 ?_
        refine wp_iload hb rfl dX11_waysFrom_92 ?_
        obtain ⟨q4, hv⟩ := hv
        refine wp_iastore hb rfl m0_175 (by decide) q4 dX11_waysFrom_94 ?_
        have hv := hv _ rfl
        generalize (mm_u2 m.1 175 v3.toNatClampNeg v7, m.2) = m1 at hv ⊢
        refine wp_iload hb rfl dX11_waysFrom_95 ?_
        refine wp_aload_n hb rfl dX11_waysFrom_97 ?_
        refine wp_aload_n hb rfl dX11_waysFrom_98 ?_
        refine wp_aload_n hb rfl dX11_waysFrom_99 ?_
        refine wp_iload_n hb rfl dX11_waysFrom_100 ?_
        refine wp_iconst hb (x := nI 1) rfl dX11_waysFrom_101 ?_
        refine wp_iadd hb dX11_waysFrom_102 ?_
        refine wp_iload hb rfl dX11_waysFrom_103 ?_
        refine wp_iconst hb (x := nI 1) rfl dX11_waysFrom_105 ?_
        refine wp_iload hb rfl dX11_waysFrom_106 ?_
        refine wp_ishl hb dX11_waysFrom_108 ?_
        refine wp_ior hb dX11_waysFrom_109 ?_
        refine wp_iload hb rfl dX11_waysFrom_110 ?_
        refine wp_callV hb (k' := 206) ko_206 lm_11_187 rfl m0_82 (by decide) (Nat.le_of_ble_eq_true rfl) dX11_waysFrom_112 (sp_cI (hv.I (Nat.le_refl _) ?_))
        intro x5 m2 hv
        refine wp_iadd hb dX11_waysFrom_115 ?_
        refine wp_istore hb rfl dX11_waysFrom_116 ?_
        refine wp_iinc hb rfl (y := v7 + nI 1) rfl rfl dX11_waysFrom_118 ?_
        refine wp_goto hb (t := 56) ⟨rfl, rfl⟩ dX11_waysFrom_121 ?_
        exact wp_for (mm_ls_k (mm_ls_k (mm_ls_k (mm_ls_k (mm_ls_k (mm_ls_k (mm_ls_k (mm_ls_k mm_ls_nil)))))))) hv
    · have hv := hv.2 c2
      refine wp_iload hb rfl dX11_waysFrom_72 ?_
      refine wp_if_ne hb (y := 0) (t := 124) ⟨rfl, rfl⟩ dX11_waysFrom_74 ⟨fun c6 => ?_, fun c6 => ?_⟩
      · have hv := hv.1 c6
        refine wp_iload hb rfl dX11_waysFrom_124 ?_
        exact wp_retI hb rfl dX11_waysFrom_126 hv
      · have hv := hv.2 c6
        refine wp_iload hb rfl dX11_waysFrom_77 ?_
        refine wp_iload hb rfl dX11_waysFrom_79 ?_
        refine wp_ishr hb dX11_waysFrom_81 ?_
        refine wp_iconst hb (x := nI 1) rfl dX11_waysFrom_82 ?_
        refine wp_iand hb dX11_waysFrom_83 ?_
        refine wp_if_ne hb (y := 0) (t := 118) ⟨rfl, rfl⟩ dX11_waysFrom_84 ⟨fun c7 => ?_, fun c7 => ?_⟩
        · have hv := hv.1 c7
          refine wp_iinc hb rfl (y := v7 + nI 1) rfl rfl dX11_waysFrom_118 ?_
          refine wp_goto hb (t := 56) ⟨rfl, rfl⟩ dX11_waysFrom_121 ?_
          exact wp_for (mm_ls_k (mm_ls_k (mm_ls_k (mm_ls_k (mm_ls_k (mm_ls_k (mm_ls_k (mm_ls_k mm_ls_nil)))))))) hv
        · have hv := hv.2 c7
          refine wp_aload_n hb rfl dX11_waysFrom_87 ?_
          refine wp_getR hb ko_206 lf_11_53 (by decide) m0_82 r0_82_13 dX11_waysFrom_88 ?_
          refine wp_iload_n hb rfl dX11_waysFrom_91 ?_
          refine wp_iload hb rfl dX11_waysFrom_92 ?_
          obtain ⟨q8, hv⟩ := hv
          refine wp_iastore hb rfl m0_175 (by decide) q8 dX11_waysFrom_94 ?_
          have hv := hv _ rfl
          generalize (mm_u2 m.1 175 v3.toNatClampNeg v7, m.2) = m3 at hv ⊢
          refine wp_iload hb rfl dX11_waysFrom_95 ?_
          refine wp_aload_n hb rfl dX11_waysFrom_97 ?_
          refine wp_aload_n hb rfl dX11_waysFrom_98 ?_
          refine wp_aload_n hb rfl dX11_waysFrom_99 ?_
          refine wp_iload_n hb rfl dX11_waysFrom_100 ?_
          refine wp_iconst hb (x := nI 1) rfl dX11_waysFrom_101 ?_
          refine wp_iadd hb dX11_waysFrom_102 ?_
          refine wp_iload hb rfl dX11_waysFrom_103 ?_
          refine wp_iconst hb (x := nI 1) rfl dX11_waysFrom_105 ?_
          refine wp_iload hb rfl dX11_waysFrom_106 ?_
          refine wp_ishl hb dX11_waysFrom_108 ?_
          refine wp_ior hb dX11_waysFrom_109 ?_
          refine wp_iload hb rfl dX11_waysFrom_110 ?_
          refine wp_callV hb (k' := 206) ko_206 lm_11_187 rfl m0_82 (by decide) (Nat.le_of_ble_eq_true rfl) dX11_waysFrom_112 (sp_cI (hv.I (Nat.le_refl _) ?_))
          intro x9 m4 hv
          refine wp_iadd hb dX11_waysFrom_115 ?_
          refine wp_istore hb rfl dX11_waysFrom_116 ?_
          refine wp_iinc hb rfl (y := v7 + nI 1) rfl rfl dX11_waysFrom_118 ?_
          refine wp_goto hb (t := 56) ⟨rfl, rfl⟩ dX11_waysFrom_121 ?_
          exact wp_for (mm_ls_k (mm_ls_k (mm_ls_k (mm_ls_k (mm_ls_k (mm_ls_k (mm_ls_k (mm_ls_k mm_ls_nil)))))))) hv
set_option maxRecDepth 100000 in
theorem v_X11_waysFrom_13 {d sn : Nat} {a1 : Nat} {a2 : Nat} {v6 : Int32} {m : mm_Mem} {P : Int32 → mm_Mem → Prop} (ha1 : shZ a1) (ha2 : shZ a2) 
    (hv : mm_sp d sn kX11_whole [.ref 82] m (qI fun x1 m1 => ((x1 < v6) → (P (nI 1) m1)) ∧ (¬ (x1 < v6) → (vp_in v6 256 ∧ (((m1.1 a1 v6.toNatClampNeg = 0) → (mm_wp d sn kX11_waysFrom 13 [some (.ref 82), some (.ref a1), some (.ref a2), none, none, none, some (.int (v6 + nI 1)), none] [] m1 (qI P))) ∧ (¬ (m1.1 a1 v6.toNatClampNeg = 0) → (mm_sp d sn kX11_lined [.ref 82, .int v6] m1 (qI fun x5 m2 => vp_in x5 256 ∧ (((¬ m2.1 a2 x5.toNatClampNeg = 0) → (mm_wp d sn kX11_waysFrom 13 [some (.ref 82), some (.ref a1), some (.ref a2), none, none, none, some (.int (v6 + nI 1)), none] [] m2 (qI P))) ∧ (¬ (¬ m2.1 a2 x5.toNatClampNeg = 0) → (P (nI 0) m2))))))))))) :
    mm_wp d sn kX11_waysFrom 13 [some (.ref 82), some (.ref a1), some (.ref a2), none, none, none, some (.int v6), none] [] m (qI P) := by
  have hb := mb_206
  refine wp_iload hb rfl dX11_waysFrom_13 ?_
  refine wp_aload_n hb rfl dX11_waysFrom_15 ?_
  refine wp_callV hb (k' := 155) ko_206 lm_11_81 rfl m0_82 (by decide) (Nat.le_of_ble_eq_true rfl) dX11_waysFrom_16 (sp_cI (hv.I (Nat.le_refl _) ?_))
  intro x1 m1 hv
  refine wp_icmp_gt hb (t := 48) ⟨rfl, rfl⟩ dX11_waysFrom_19 ⟨fun c2 => ?_, fun c2 => ?_⟩
  · have hv := hv.1 c2
    refine wp_iconst hb (x := nI 1) rfl dX11_waysFrom_48 ?_
    exact wp_retI hb rfl dX11_waysFrom_49 hv
  · have hv := hv.2 c2
    refine wp_aload_n hb rfl dX11_waysFrom_22 ?_
    refine wp_iload hb rfl dX11_waysFrom_23 ?_
    obtain ⟨q3, hv⟩ := hv
    refine wp_baload hb rfl (ha1.2 _) q3 dX11_waysFrom_25 ?_
    refine wp_if_eq hb (y := 0) (t := 42) ⟨rfl, rfl⟩ dX11_waysFrom_26 ⟨fun c4 => ?_, fun c4 => ?_⟩
    · have hv := hv.1 c4
      refine wp_iinc hb rfl (y := v6 + nI 1) rfl rfl dX11_waysFrom_42 ?_
      refine wp_goto hb (t := 13) ⟨rfl, rfl⟩ dX11_waysFrom_45 ?_
      exact wp_for (mm_ls_k (mm_ls_k (mm_ls_k (mm_ls_k (mm_ls_k (mm_ls_k (mm_ls_k (mm_ls_k mm_ls_nil)))))))) hv
    · have hv := hv.2 c4
      refine wp_aload_n hb rfl dX11_waysFrom_29 ?_
      refine wp_aload_n hb rfl dX11_waysFrom_30 ?_
      refine wp_iload hb rfl dX11_waysFrom_31 ?_
      refine wp_callV hb (k' := 205) ko_206 lm_11_184 rfl m0_82 (by decide) (Nat.le_of_ble_eq_true rfl) dX11_waysFrom_33 (sp_cI (hv.I (Nat.le_refl _) ?_))
      intro x5 m2 hv
      obtain ⟨q6, hv⟩ := hv
      refine wp_baload hb rfl (ha2.2 _) q6 dX11_waysFrom_36 ?_
      refine wp_if_ne hb (y := 0) (t := 42) ⟨rfl, rfl⟩ dX11_waysFrom_37 ⟨fun c7 => ?_, fun c7 => ?_⟩
      · have hv := hv.1 c7
        refine wp_iinc hb rfl (y := v6 + nI 1) rfl rfl dX11_waysFrom_42 ?_
        refine wp_goto hb (t := 13) ⟨rfl, rfl⟩ dX11_waysFrom_45 ?_
        exact wp_for (mm_ls_k (mm_ls_k (mm_ls_k (mm_ls_k (mm_ls_k (mm_ls_k (mm_ls_k (mm_ls_k mm_ls_nil)))))))) hv
      · have hv := hv.2 c7
        refine wp_iconst hb (x := nI 0) rfl dX11_waysFrom_40 ?_
        exact wp_retI hb rfl dX11_waysFrom_41 hv
set_option maxRecDepth 100000 in
theorem v_X11_areAlike {d sn : Nat} {a1 : Nat} {a2 : Nat} {m : mm_Mem} {P : Int32 → mm_Mem → Prop} (ha1 : shZ a1) (ha2 : shZ a2) 
    (hv : mm_sp d sn kX11_many [.ref a1] m (qI fun x1 m1 => mm_sp d sn kX11_many [.ref a2] m1 (qI fun x2 m2 => ((¬ x1 = x2) → (P (nI 0) m2)) ∧ (¬ (¬ x1 = x2) → (mm_sp d sn kX11_waysFrom [.ref 82, .ref a1, .ref a2, .int (nI 0), .int (nI 0), .int (nI 1)] m2 (qI fun x4 m3 => ((x4 ≤ 0) → (P (nI 0) m3)) ∧ (¬ (x4 ≤ 0) → (P (nI 1) m3)))))))) :
    mm_sp (d + 1) sn kX11_areAlike [.ref 82, .ref a1, .ref a2] m (qI P) := by
  have hb := mb_207
  refine wp_in (la := [some (.ref 82), some (.ref a1), some (.ref a2)]) ⟨⟨Nat.le_of_ble_eq_true rfl, by decide, by decide⟩, rfl⟩ ?_
  refine wp_aload_n hb rfl dX11_areAlike_0 ?_
  refine wp_callS hb (k' := 191) ko_207 lm_11_170 (by decide) rfl (Nat.le_of_ble_eq_true rfl) dX11_areAlike_1 (sp_cI (hv.I (Nat.le_refl _) ?_))
  intro x1 m1 hv
  refine wp_aload_n hb rfl dX11_areAlike_4 ?_
  refine wp_callS hb (k' := 191) ko_207 lm_11_170 (by decide) rfl (Nat.le_of_ble_eq_true rfl) dX11_areAlike_5 (sp_cI (hv.I (Nat.le_refl _) ?_))
  intro x2 m2 hv
  refine wp_icmp_ne hb (t := 27) ⟨rfl, rfl⟩ dX11_areAlike_8 ⟨fun c3 => ?_, fun c3 => ?_⟩
  · have hv := hv.1 c3
    refine wp_iconst hb (x := nI 0) rfl dX11_areAlike_27 ?_
    exact wp_retZ hb rfl (by decide) dX11_areAlike_28 hv
  · have hv := hv.2 c3
    refine wp_aload_n hb rfl dX11_areAlike_11 ?_
    refine wp_aload_n hb rfl dX11_areAlike_12 ?_
    refine wp_aload_n hb rfl dX11_areAlike_13 ?_
    refine wp_iconst hb (x := nI 0) rfl dX11_areAlike_14 ?_
    refine wp_iconst hb (x := nI 0) rfl dX11_areAlike_15 ?_
    refine wp_iconst hb (x := nI 1) rfl dX11_areAlike_16 ?_
    refine wp_callV hb (k' := 206) ko_207 lm_11_187 rfl m0_82 (by decide) (Nat.le_of_ble_eq_true rfl) dX11_areAlike_17 (sp_cI (hv.I (Nat.le_refl _) ?_))
    intro x4 m3 hv
    refine wp_if_le hb (y := 0) (t := 27) ⟨rfl, rfl⟩ dX11_areAlike_20 ⟨fun c5 => ?_, fun c5 => ?_⟩
    · have hv := hv.1 c5
      refine wp_iconst hb (x := nI 0) rfl dX11_areAlike_27 ?_
      exact wp_retZ hb rfl (by decide) dX11_areAlike_28 hv
    · have hv := hv.2 c5
      refine wp_iconst hb (x := nI 1) rfl dX11_areAlike_23 ?_
      refine wp_goto hb (t := 28) ⟨rfl, rfl⟩ dX11_areAlike_24 ?_
      exact wp_retZ hb rfl (by decide) dX11_areAlike_28 hv
set_option maxRecDepth 100000 in
theorem v_X11_alike {d sn : Nat} {v1 : Int32} {v2 : Int32} {m : mm_Mem} {P : Int32 → mm_Mem → Prop} 
    (hv : mm_sp d sn kX11_isDesign [.ref 82, .int v1] m (qI fun x1 m1 => ((x1 = 0) → (P (-1) m1)) ∧ (¬ (x1 = 0) → (mm_sp d sn kX11_isDesign [.ref 82, .int v2] m1 (qI fun x3 m2 => ((¬ x3 = 0) → (((¬ m2.1 83 0 = nI 8) → (∃ i6 : Nat, i6 < 5 ∧ (nI 1) + v1 = nI i6 ∧ (∃ i7 : Nat, i7 < 5 ∧ (nI 1) + v2 = nI i7 ∧ (mm_sp d sn kX11_areAlike [.ref 82, .ref (86 + i6), .ref (86 + i7)] m2 (qI fun x8 m3 => ((x8 = 0) → (P (nI 0) m3)) ∧ (¬ (x8 = 0) → (P (nI 1) m3))))))) ∧ (¬ (¬ m2.1 83 0 = nI 8) → (P (-3) m2)))) ∧ (¬ (¬ x3 = 0) → (P (-1) m2))))))) :
    mm_sp (d + 1) sn kX11_alike [.ref 82, .int v1, .int v2] m (qI P) := by
  have hb := mb_208
  refine wp_in (la := [some (.ref 82), some (.int v1), some (.int v2)]) ⟨⟨Nat.le_of_ble_eq_true rfl, by decide, by decide⟩, rfl⟩ ?_
  refine wp_aload_n hb rfl dX11_alike_0 ?_
  refine wp_iload_n hb rfl dX11_alike_1 ?_
  refine wp_callV hb (k' := 203) ko_208 lm_11_181 rfl m0_82 (by decide) (Nat.le_of_ble_eq_true rfl) dX11_alike_2 (sp_cI (hv.I (Nat.le_refl _) ?_))
  intro x1 m1 hv
  refine wp_if_eq hb (y := 0) (t := 16) ⟨rfl, rfl⟩ dX11_alike_5 ⟨fun c2 => ?_, fun c2 => ?_⟩
  · have hv := hv.1 c2
    refine wp_iconst hb (x := (-1)) rfl dX11_alike_16 ?_
    exact wp_retI hb rfl dX11_alike_17 hv
  · have hv := hv.2 c2
    refine wp_aload_n hb rfl dX11_alike_8 ?_
    refine wp_iload_n hb rfl dX11_alike_9 ?_
    refine wp_callV hb (k' := 203) ko_208 lm_11_181 rfl m0_82 (by decide) (Nat.le_of_ble_eq_true rfl) dX11_alike_10 (sp_cI (hv.I (Nat.le_refl _) ?_))
    intro x3 m2 hv
    refine wp_if_ne hb (y := 0) (t := 18) ⟨rfl, rfl⟩ dX11_alike_13 ⟨fun c4 => ?_, fun c4 => ?_⟩
    · have hv := hv.1 c4
      refine wp_aload_n hb rfl dX11_alike_18 ?_
      refine wp_getR hb ko_208 lf_11_11 (by decide) m0_82 r0_82_0 dX11_alike_19 ?_
      refine wp_iconst hb (x := nI 0) rfl dX11_alike_22 ?_
      refine wp_iaload hb (q := 0) (by decide) m0_83 (vp_in_nI (by decide) (by decide)) dX11_alike_23 ?_
      refine wp_bipush hb (x := nI 8) rfl dX11_alike_24 ?_
      refine wp_icmp_ne hb (t := 32) ⟨rfl, rfl⟩ dX11_alike_26 ⟨fun c5 => ?_, fun c5 => ?_⟩
      · have hv := hv.1 c5
        refine wp_aload_n hb rfl dX11_alike_32 ?_
        refine wp_aload_n hb rfl dX11_alike_33 ?_
        refine wp_getR hb ko_208 lf_11_20 (by decide) m0_82 r0_82_2 dX11_alike_34 ?_
        refine wp_iconst hb (x := nI 1) rfl dX11_alike_37 ?_
        refine wp_iload_n hb rfl dX11_alike_38 ?_
        refine wp_iadd hb dX11_alike_39 ?_
        obtain ⟨i6, hi6, hx6, hv⟩ := hv
        refine wp_aaload hb m0_85 (by decide) (mm_inx hx6 hi6 (by decide)) (mm_rx hx6 (by omega) (shQ_85.2 _ hi6).1) dX11_alike_40 ?_
        refine wp_aload_n hb rfl dX11_alike_41 ?_
        refine wp_getR hb ko_208 lf_11_20 (by decide) m0_82 r0_82_2 dX11_alike_42 ?_
        refine wp_iconst hb (x := nI 1) rfl dX11_alike_45 ?_
        refine wp_iload_n hb rfl dX11_alike_46 ?_
        refine wp_iadd hb dX11_alike_47 ?_
        obtain ⟨i7, hi7, hx7, hv⟩ := hv
        refine wp_aaload hb m0_85 (by decide) (mm_inx hx7 hi7 (by decide)) (mm_rx hx7 (by omega) (shQ_85.2 _ hi7).1) dX11_alike_48 ?_
        refine wp_callV hb (k' := 207) ko_208 lm_11_191 rfl m0_82 (by decide) (Nat.le_of_ble_eq_true rfl) dX11_alike_49 (sp_cI (hv.I (Nat.le_refl _) ?_))
        intro x8 m3 hv
        refine wp_if_eq hb (y := 0) (t := 59) ⟨rfl, rfl⟩ dX11_alike_52 ⟨fun c9 => ?_, fun c9 => ?_⟩
        · have hv := hv.1 c9
          refine wp_iconst hb (x := nI 0) rfl dX11_alike_59 ?_
          exact wp_retI hb rfl dX11_alike_60 hv
        · have hv := hv.2 c9
          refine wp_iconst hb (x := nI 1) rfl dX11_alike_55 ?_
          refine wp_goto hb (t := 60) ⟨rfl, rfl⟩ dX11_alike_56 ?_
          exact wp_retI hb rfl dX11_alike_60 hv
      · have hv := hv.2 c5
        refine wp_bipush hb (x := (-3)) rfl dX11_alike_29 ?_
        exact wp_retI hb rfl dX11_alike_31 hv
    · have hv := hv.2 c4
      refine wp_iconst hb (x := (-1)) rfl dX11_alike_16 ?_
      exact wp_retI hb rfl dX11_alike_17 hv
set_option maxRecDepth 100000 in
theorem v_X11_selves {d sn : Nat} {v1 : Int32} {m : mm_Mem} {P : Int32 → mm_Mem → Prop} 
    (hv : mm_sp d sn kX11_isDesign [.ref 82, .int v1] m (qI fun x1 m1 => ((¬ x1 = 0) → (((¬ m1.1 83 0 = nI 8) → (∃ i4 : Nat, i4 < 5 ∧ (nI 1) + v1 = nI i4 ∧ (∃ i5 : Nat, i5 < 5 ∧ (nI 1) + v1 = nI i5 ∧ (mm_sp d sn kX11_waysFrom [.ref 82, .ref (86 + i4), .ref (86 + i5), .int (nI 0), .int (nI 0), .int (nI 0)] m1 (qI fun x6 m2 => P x6 m2))))) ∧ (¬ (¬ m1.1 83 0 = nI 8) → (P (-3) m1)))) ∧ (¬ (¬ x1 = 0) → (P (-1) m1)))) :
    mm_sp (d + 1) sn kX11_selves [.ref 82, .int v1] m (qI P) := by
  have hb := mb_209
  refine wp_in (la := [some (.ref 82), some (.int v1)]) ⟨⟨Nat.le_of_ble_eq_true rfl, by decide, by decide⟩, rfl⟩ ?_
  refine wp_aload_n hb rfl dX11_selves_0 ?_
  refine wp_iload_n hb rfl dX11_selves_1 ?_
  refine wp_callV hb (k' := 203) ko_209 lm_11_181 rfl m0_82 (by decide) (Nat.le_of_ble_eq_true rfl) dX11_selves_2 (sp_cI (hv.I (Nat.le_refl _) ?_))
  intro x1 m1 hv
  refine wp_if_ne hb (y := 0) (t := 10) ⟨rfl, rfl⟩ dX11_selves_5 ⟨fun c2 => ?_, fun c2 => ?_⟩
  · have hv := hv.1 c2
    refine wp_aload_n hb rfl dX11_selves_10 ?_
    refine wp_getR hb ko_209 lf_11_11 (by decide) m0_82 r0_82_0 dX11_selves_11 ?_
    refine wp_iconst hb (x := nI 0) rfl dX11_selves_14 ?_
    refine wp_iaload hb (q := 0) (by decide) m0_83 (vp_in_nI (by decide) (by decide)) dX11_selves_15 ?_
    refine wp_bipush hb (x := nI 8) rfl dX11_selves_16 ?_
    refine wp_icmp_ne hb (t := 24) ⟨rfl, rfl⟩ dX11_selves_18 ⟨fun c3 => ?_, fun c3 => ?_⟩
    · have hv := hv.1 c3
      refine wp_aload_n hb rfl dX11_selves_24 ?_
      refine wp_aload_n hb rfl dX11_selves_25 ?_
      refine wp_getR hb ko_209 lf_11_20 (by decide) m0_82 r0_82_2 dX11_selves_26 ?_
      refine wp_iconst hb (x := nI 1) rfl dX11_selves_29 ?_
      refine wp_iload_n hb rfl dX11_selves_30 ?_
      refine wp_iadd hb dX11_selves_31 ?_
      obtain ⟨i4, hi4, hx4, hv⟩ := hv
      refine wp_aaload hb m0_85 (by decide) (mm_inx hx4 hi4 (by decide)) (mm_rx hx4 (by omega) (shQ_85.2 _ hi4).1) dX11_selves_32 ?_
      refine wp_aload_n hb rfl dX11_selves_33 ?_
      refine wp_getR hb ko_209 lf_11_20 (by decide) m0_82 r0_82_2 dX11_selves_34 ?_
      refine wp_iconst hb (x := nI 1) rfl dX11_selves_37 ?_
      refine wp_iload_n hb rfl dX11_selves_38 ?_
      refine wp_iadd hb dX11_selves_39 ?_
      obtain ⟨i5, hi5, hx5, hv⟩ := hv
      refine wp_aaload hb m0_85 (by decide) (mm_inx hx5 hi5 (by decide)) (mm_rx hx5 (by omega) (shQ_85.2 _ hi5).1) dX11_selves_40 ?_
      refine wp_iconst hb (x := nI 0) rfl dX11_selves_41 ?_
      refine wp_iconst hb (x := nI 0) rfl dX11_selves_42 ?_
      refine wp_iconst hb (x := nI 0) rfl dX11_selves_43 ?_
      refine wp_callV hb (k' := 206) ko_209 lm_11_187 rfl m0_82 (by decide) (Nat.le_of_ble_eq_true rfl) dX11_selves_44 (sp_cI (hv.I (Nat.le_refl _) ?_))
      intro x6 m2 hv
      exact wp_retI hb rfl dX11_selves_47 hv
    · have hv := hv.2 c3
      refine wp_bipush hb (x := (-3)) rfl dX11_selves_21 ?_
      exact wp_retI hb rfl dX11_selves_23 hv
  · have hv := hv.2 c2
    refine wp_iconst hb (x := (-1)) rfl dX11_selves_8 ?_
    exact wp_retI hb rfl dX11_selves_9 hv
set_option maxRecDepth 100000 in
theorem v_X11_unlike {d sn : Nat} {v1 : Int32} {v2 : Int32} {v3 : Int32} {m : mm_Mem} {P : Int32 → mm_Mem → Prop} 
    (hv : mm_sp d sn kX11_areSizes [.ref 82, .int v1, .int v2] m (qI fun x1 m1 => ((x1 = 0) → (P (-2) m1)) ∧ (¬ (x1 = 0) → (mm_sp d sn kX11_in [.long v3.toInt64, .long (lN 1), .long (lN 70)] m1 (qI fun x3 m2 => ((¬ x3 = 0) → (mm_sp d sn kX11_tables [.ref 82, .int v1, .int v2] m2 (qV fun m3 => ((nI 6 < m3.1 83 0) → (P (-3) m3)) ∧ (¬ (nI 6 < m3.1 83 0) → (vp_in v2 9 ∧ (((m3.1 100 v2.toNatClampNeg ≤ nI 14) → (mm_sp d sn kX11_nth [.ref 82, .int v1, .int v2, .int v3, .int (-1)] m3 (qI fun x9 m4 => ((x9 ≤ nI 24) → (mm_wp d sn kX11_unlike 81 [some (.ref 82), some (.int v1), some (.int v2), some (.int v3), some (.int x9), some (.int (nI 0)), some (.int (nI 0)), none, none, none] [] m4 (qI P))) ∧ (¬ (x9 ≤ nI 24) → (P (-3) m4))))) ∧ (¬ (m3.1 100 v2.toNatClampNeg ≤ nI 14) → (P (-3) m3)))))))) ∧ (¬ (¬ x3 = 0) → (P (-2) m2))))))) :
    mm_sp (d + 1) sn kX11_unlike [.ref 82, .int v1, .int v2, .int v3] m (qI P) := by
  have hb := mb_210
  refine wp_in (la := [some (.ref 82), some (.int v1), some (.int v2), some (.int v3), none, none, none, none, none, none]) ⟨⟨Nat.le_of_ble_eq_true rfl, by decide, by decide⟩, rfl⟩ ?_
  refine wp_aload_n hb rfl dX11_unlike_0 ?_
  refine wp_iload_n hb rfl dX11_unlike_1 ?_
  refine wp_iload_n hb rfl dX11_unlike_2 ?_
  refine wp_callV hb (k' := 181) ko_210 lm_11_146 rfl m0_82 (by decide) (Nat.le_of_ble_eq_true rfl) dX11_unlike_3 (sp_cI (hv.I (Nat.le_refl _) ?_))
  intro x1 m1 hv
  refine wp_if_eq hb (y := 0) (t := 21) ⟨rfl, rfl⟩ dX11_unlike_6 ⟨fun c2 => ?_, fun c2 => ?_⟩
  · have hv := hv.1 c2
    refine wp_bipush hb (x := (-2)) rfl dX11_unlike_21 ?_
    exact wp_retI hb rfl dX11_unlike_23 hv
  · have hv := hv.2 c2
    refine wp_iload_n hb rfl dX11_unlike_9 ?_
    refine wp_i2l hb dX11_unlike_10 ?_
    refine wp_lconst hb (x := lN 1) rfl dX11_unlike_11 ?_
    refine wp_ldc2 hb (ko_210) (kl_11_161) dX11_unlike_12 ?_
    refine wp_callS hb (k' := 152) ko_210 lm_11_85 (by decide) rfl (Nat.le_of_ble_eq_true rfl) dX11_unlike_15 (sp_cI (hv.I (Nat.le_refl _) ?_))
    intro x3 m2 hv
    refine wp_if_ne hb (y := 0) (t := 24) ⟨rfl, rfl⟩ dX11_unlike_18 ⟨fun c4 => ?_, fun c4 => ?_⟩
    · have hv := hv.1 c4
      refine wp_aload_n hb rfl dX11_unlike_24 ?_
      refine wp_iload_n hb rfl dX11_unlike_25 ?_
      refine wp_iload_n hb rfl dX11_unlike_26 ?_
      refine wp_callV hb (k' := 182) ko_210 lm_11_150 rfl m0_82 (by decide) (Nat.le_of_ble_eq_true rfl) dX11_unlike_27 (sp_cV (hv.V (Nat.le_refl _) ?_))
      intro m3 hv
      refine wp_aload_n hb rfl dX11_unlike_30 ?_
      refine wp_getR hb ko_210 lf_11_11 (by decide) m0_82 r0_82_0 dX11_unlike_31 ?_
      refine wp_iconst hb (x := nI 0) rfl dX11_unlike_34 ?_
      refine wp_iaload hb (q := 0) (by decide) m0_83 (vp_in_nI (by decide) (by decide)) dX11_unlike_35 ?_
      refine wp_bipush hb (x := nI 6) rfl dX11_unlike_36 ?_
      refine wp_icmp_gt hb (t := 52) ⟨rfl, rfl⟩ dX11_unlike_38 ⟨fun c6 => ?_, fun c6 => ?_⟩
      · have hv := hv.1 c6
        refine wp_bipush hb (x := (-3)) rfl dX11_unlike_52 ?_
        exact wp_retI hb rfl dX11_unlike_54 hv
      · have hv := hv.2 c6
        refine wp_aload_n hb rfl dX11_unlike_41 ?_
        refine wp_getR hb ko_210 lf_11_35 (by decide) m0_82 r0_82_8 dX11_unlike_42 ?_
        refine wp_iload_n hb rfl dX11_unlike_45 ?_
        obtain ⟨q7, hv⟩ := hv
        refine wp_iaload hb rfl m0_100 q7 dX11_unlike_46 ?_
        refine wp_bipush hb (x := nI 14) rfl dX11_unlike_47 ?_
        refine wp_icmp_le hb (t := 55) ⟨rfl, rfl⟩ dX11_unlike_49 ⟨fun c8 => ?_, fun c8 => ?_⟩
        · have hv := hv.1 c8
          refine wp_aload_n hb rfl dX11_unlike_55 ?_
          refine wp_iload_n hb rfl dX11_unlike_56 ?_
          refine wp_iload_n hb rfl dX11_unlike_57 ?_
          refine wp_iload_n hb rfl dX11_unlike_58 ?_
          refine wp_iconst hb (x := (-1)) rfl dX11_unlike_59 ?_
          refine wp_callV hb (k' := 186) ko_210 lm_11_163 rfl m0_82 (by decide) (Nat.le_of_ble_eq_true rfl) dX11_unlike_60 (sp_cI (hv.I (Nat.le_refl _) ?_))
          intro x9 m4 hv
          refine wp_istore hb rfl dX11_unlike_63 ?_
          refine wp_iload hb rfl dX11_unlike_65 ?_
          refine wp_bipush hb (x := nI 24) rfl dX11_unlike_67 ?_
          refine wp_icmp_le hb (t := 75) ⟨rfl, rfl⟩ dX11_unlike_69 ⟨fun c10 => ?_, fun c10 => ?_⟩
          · have hv := hv.1 c10
            refine wp_iconst hb (x := nI 0) rfl dX11_unlike_75 ?_
            refine wp_istore hb rfl dX11_unlike_76 ?_
            refine wp_iconst hb (x := nI 0) rfl dX11_unlike_78 ?_
            refine wp_istore hb rfl dX11_unlike_79 ?_
            exact wp_for (mm_ls_k (mm_ls_k (mm_ls_k (mm_ls_k (mm_ls_k (mm_ls_k (mm_ls_k (mm_ls_k (mm_ls_k (mm_ls_k mm_ls_nil)))))))))) hv
          · have hv := hv.2 c10
            refine wp_bipush hb (x := (-3)) rfl dX11_unlike_72 ?_
            exact wp_retI hb rfl dX11_unlike_74 hv
        · have hv := hv.2 c8
          refine wp_bipush hb (x := (-3)) rfl dX11_unlike_52 ?_
          exact wp_retI hb rfl dX11_unlike_54 hv
    · have hv := hv.2 c4
      refine wp_bipush hb (x := (-2)) rfl dX11_unlike_21 ?_
      exact wp_retI hb rfl dX11_unlike_23 hv
set_option maxRecDepth 100000 in
theorem v_X11_unlike_81 {d sn : Nat} {v1 : Int32} {v2 : Int32} {v3 : Int32} {v4 : Int32} {v5 : Int32} {v6 : Int32} {m : mm_Mem} {P : Int32 → mm_Mem → Prop} 
    (hv : ((v4 ≤ v6) → (P v5 m)) ∧ (¬ (v4 ≤ v6) → (mm_sp d sn kX11_nth [.ref 82, .int v1, .int v2, .int v3, .int v6] m (qI fun x2 m1 => mm_wp d sn kX11_unlike 102 [some (.ref 82), some (.int v1), some (.int v2), some (.int v3), some (.int v4), some (.int v5), some (.int v6), some (.int x2), some (.int (nI 0)), none] [] m1 (qI P))))) :
    mm_wp d sn kX11_unlike 81 [some (.ref 82), some (.int v1), some (.int v2), some (.int v3), some (.int v4), some (.int v5), some (.int v6), none, none, none] [] m (qI P) := by
  have hb := mb_210
  refine wp_iload hb rfl dX11_unlike_81 ?_
  refine wp_iload hb rfl dX11_unlike_83 ?_
  refine wp_icmp_ge hb (t := 238) ⟨rfl, rfl⟩ dX11_unlike_85 ⟨fun c1 => ?_, fun c1 => ?_⟩
  · have hv := hv.1 c1
    refine wp_iload hb rfl dX11_unlike_238 ?_
    exact wp_retI hb rfl dX11_unlike_240 hv
  · have hv := hv.2 c1
    refine wp_aload_n hb rfl dX11_unlike_88 ?_
    refine wp_iload_n hb rfl dX11_unlike_89 ?_
    refine wp_iload_n hb rfl dX11_unlike_90 ?_
    refine wp_iload_n hb rfl dX11_unlike_91 ?_
    refine wp_iload hb rfl dX11_unlike_92 ?_
    refine wp_callV hb (k' := 186) ko_210 lm_11_163 rfl m0_82 (by decide) (Nat.le_of_ble_eq_true rfl) dX11_unlike_94 (sp_cI (hv.I (Nat.le_refl _) ?_))
    intro x2 m1 hv
    refine wp_istore hb rfl dX11_unlike_97 ?_
    refine wp_iconst hb (x := nI 0) rfl dX11_unlike_99 ?_
    refine wp_istore hb rfl dX11_unlike_100 ?_
    exact wp_for (mm_ls_k (mm_ls_k (mm_ls_k (mm_ls_k (mm_ls_k (mm_ls_k (mm_ls_k (mm_ls_k (mm_ls_k (mm_ls_k mm_ls_nil)))))))))) hv
set_option maxRecDepth 100000 in
theorem v_X11_unlike_102 {d sn : Nat} {v1 : Int32} {v2 : Int32} {v3 : Int32} {v4 : Int32} {v5 : Int32} {v6 : Int32} {v7 : Int32} {v8 : Int32} {m : mm_Mem} {P : Int32 → mm_Mem → Prop} 
    (hv : ((nI 256 ≤ v8) → (mm_wp d sn kX11_unlike 171 [some (.ref 82), some (.int v1), some (.int v2), some (.int v3), some (.int v4), some (.int v5), some (.int v6), none, some (.int (nI 1)), some (.int (nI 0))] [] m (qI P))) ∧ (¬ (nI 256 ≤ v8) → (∃ i2 : Nat, i2 < 24 ∧ v5 = nI i2 ∧ (mm_sp d sn kX11_whole [.ref 82] m (qI fun x3 m1 => ((x3 < v8) → (vp_in v8 256 ∧ (∀ m2 : mm_Mem, m2 = (mm_u2 m1.1 (177 + i2) v8.toNatClampNeg (vp_nar .boolean (nI 0)), m1.2) → (mm_wp d sn kX11_unlike 102 [some (.ref 82), some (.int v1), some (.int v2), some (.int v3), some (.int v4), some (.int v5), some (.int v6), some (.int v7), some (.int (v8 + nI 1)), none] [] m2 (qI P))))) ∧ (¬ (x3 < v8) → (mm_sp d sn kX11_size [.int v8] m1 (qI fun x6 m3 => ((¬ x6 = v2) → (vp_in v8 256 ∧ (∀ m4 : mm_Mem, m4 = (mm_u2 m3.1 (177 + i2) v8.toNatClampNeg (vp_nar .boolean (nI 0)), m3.2) → (mm_wp d sn kX11_unlike 102 [some (.ref 82), some (.int v1), some (.int v2), some (.int v3), some (.int v4), some (.int v5), some (.int v6), some (.int v7), some (.int (v8 + nI 1)), none] [] m4 (qI P))))) ∧ (¬ (¬ x6 = v2) → (vp_in v8 256 ∧ (((¬ (mm_shr v7 (m3.1 99 v8.toNatClampNeg)) &&& (nI 1) = nI 1) → (vp_in v8 256 ∧ (∀ m5 : mm_Mem, m5 = (mm_u2 m3.1 (177 + i2) v8.toNatClampNeg (vp_nar .boolean (nI 0)), m3.2) → (mm_wp d sn kX11_unlike 102 [some (.ref 82), some (.int v1), some (.int v2), some (.int v3), some (.int v4), some (.int v5), some (.int v6), some (.int v7), some (.int (v8 + nI 1)), none] [] m5 (qI P))))) ∧ (¬ (¬ (mm_shr v7 (m3.1 99 v8.toNatClampNeg)) &&& (nI 1) = nI 1) → (vp_in v8 256 ∧ (∀ m6 : mm_Mem, m6 = (mm_u2 m3.1 (177 + i2) v8.toNatClampNeg (vp_nar .boolean (nI 1)), m3.2) → (mm_wp d sn kX11_unlike 102 [some (.ref 82), some (.int v1), some (.int v2), some (.int v3), some (.int v4), some (.int v5), some (.int v6), some (.int v7), some (.int (v8 + nI 1)), none] [] m6 (qI P)))))))))))))))) :
    mm_wp d sn kX11_unlike 102 [some (.ref 82), some (.int v1), some (.int v2), some (.int v3), some (.int v4), some (.int v5), some (.int v6), some (.int v7), some (.int v8), none] [] m (qI P) := by
  have hb := mb_210
  refine wp_iload hb rfl dX11_unlike_102 ?_
  refine wp_sipush hb (x := nI 256) rfl dX11_unlike_104 ?_
  refine wp_icmp_ge hb (t := 165) ⟨rfl, rfl⟩ dX11_unlike_107 ⟨fun c1 => ?_, fun c1 => ?_⟩
  · have hv := hv.1 c1
    refine wp_iconst hb (x := nI 1) rfl dX11_unlike_165 ?_
    refine wp_istore hb rfl dX11_unlike_166 ?_
    refine wp_iconst hb (x := nI 0) rfl dX11_unlike_168 ?_
    refine wp_istore hb rfl dX11_unlike_169 ?_
    exact wp_for (mm_ls_k (mm_ls_k (mm_ls_k (mm_ls_k (mm_ls_k (mm_ls_k (mm_ls_k (mm_ls_f (mm_ls_k (mm_ls_k mm_ls_nil)))))))))) hv
  · have hv := hv.2 c1
    refine wp_aload_n hb rfl dX11_unlike_110 ?_
    refine wp_getR hb ko_210 lf_11_56 (by decide) m0_82 r0_82_14 dX11_unlike_111 ?_
    refine wp_iload hb rfl dX11_unlike_114 ?_
    obtain ⟨i2, hi2, hx2, hv⟩ := hv
    refine wp_aaload hb m0_176 (by decide) (mm_inx hx2 hi2 (by decide)) (mm_rx hx2 (by omega) (mm_sols _ hi2).1) dX11_unlike_116 ?_
    refine wp_iload hb rfl dX11_unlike_117 ?_
    refine wp_iload hb rfl dX11_unlike_119 ?_
    refine wp_aload_n hb rfl dX11_unlike_121 ?_
    refine wp_callV hb (k' := 155) ko_210 lm_11_81 rfl m0_82 (by decide) (Nat.le_of_ble_eq_true rfl) dX11_unlike_122 (sp_cI (hv.I (Nat.le_refl _) ?_))
    intro x3 m1 hv
    refine wp_icmp_gt hb (t := 157) ⟨rfl, rfl⟩ dX11_unlike_125 ⟨fun c4 => ?_, fun c4 => ?_⟩
    · have hv := hv.1 c4
      refine wp_iconst hb (x := nI 0) rfl dX11_unlike_157 ?_
      obtain ⟨q5, hv⟩ := hv
      refine wp_bastore hb rfl ((mm_sols _ hi2).2.2 _) (mm_sols _ hi2).2.1 q5 dX11_unlike_158 ?_
      have hv := hv _ rfl
      generalize (mm_u2 m1.1 (177 + i2) v8.toNatClampNeg (vp_nar .boolean (nI 0)), m1.2) = m2 at hv ⊢
      refine wp_iinc hb rfl (y := v8 + nI 1) rfl rfl dX11_unlike_159 ?_
      refine wp_goto hb (t := 102) ⟨rfl, rfl⟩ dX11_unlike_162 ?_
      exact wp_for (mm_ls_k (mm_ls_k (mm_ls_k (mm_ls_k (mm_ls_k (mm_ls_k (mm_ls_k (mm_ls_k (mm_ls_k (mm_ls_k mm_ls_nil)))))))))) hv
    · have hv := hv.2 c4
      refine wp_iload hb rfl dX11_unlike_128 ?_
      refine wp_callS hb (k' := 154) ko_210 lm_11_128 (by decide) rfl (Nat.le_of_ble_eq_true rfl) dX11_unlike_130 (sp_cI (hv.I (Nat.le_refl _) ?_))
      intro x6 m3 hv
      refine wp_iload_n hb rfl dX11_unlike_133 ?_
      refine wp_icmp_ne hb (t := 157) ⟨rfl, rfl⟩ dX11_unlike_134 ⟨fun c7 => ?_, fun c7 => ?_⟩
      · have hv := hv.1 c7
        refine wp_iconst hb (x := nI 0) rfl dX11_unlike_157 ?_
        obtain ⟨q8, hv⟩ := hv
        refine wp_bastore hb rfl ((mm_sols _ hi2).2.2 _) (mm_sols _ hi2).2.1 q8 dX11_unlike_158 ?_
        have hv := hv _ rfl
        generalize (mm_u2 m3.1 (177 + i2) v8.toNatClampNeg (vp_nar .boolean (nI 0)), m3.2) = m4 at hv ⊢
        refine wp_iinc hb rfl (y := v8 + nI 1) rfl rfl dX11_unlike_159 ?_
        refine wp_goto hb (t := 102) ⟨rfl, rfl⟩ dX11_unlike_162 ?_
        exact wp_for (mm_ls_k (mm_ls_k (mm_ls_k (mm_ls_k (mm_ls_k (mm_ls_k (mm_ls_k (mm_ls_k (mm_ls_k (mm_ls_k mm_ls_nil)))))))))) hv
      · have hv := hv.2 c7
        refine wp_iload hb rfl dX11_unlike_137 ?_
        refine wp_aload_n hb rfl dX11_unlike_139 ?_
        refine wp_getR hb ko_210 lf_11_32 (by decide) m0_82 r0_82_7 dX11_unlike_140 ?_
        refine wp_iload hb rfl dX11_unlike_143 ?_
        obtain ⟨q9, hv⟩ := hv
        refine wp_iaload hb rfl m0_99 q9 dX11_unlike_145 ?_
        refine wp_ishr hb dX11_unlike_146 ?_
        refine wp_iconst hb (x := nI 1) rfl dX11_unlike_147 ?_
        refine wp_iand hb dX11_unlike_148 ?_
        refine wp_iconst hb (x := nI 1) rfl dX11_unlike_149 ?_
        refine wp_icmp_ne hb (t := 157) ⟨rfl, rfl⟩ dX11_unlike_150 ⟨fun c10 => ?_, fun c10 => ?_⟩
        · have hv := hv.1 c10
          refine wp_iconst hb (x := nI 0) rfl dX11_unlike_157 ?_
          obtain ⟨q11, hv⟩ := hv
          refine wp_bastore hb rfl ((mm_sols _ hi2).2.2 _) (mm_sols _ hi2).2.1 q11 dX11_unlike_158 ?_
          have hv := hv _ rfl
          generalize (mm_u2 m3.1 (177 + i2) v8.toNatClampNeg (vp_nar .boolean (nI 0)), m3.2) = m5 at hv ⊢
          refine wp_iinc hb rfl (y := v8 + nI 1) rfl rfl dX11_unlike_159 ?_
          refine wp_goto hb (t := 102) ⟨rfl, rfl⟩ dX11_unlike_162 ?_
          exact wp_for (mm_ls_k (mm_ls_k (mm_ls_k (mm_ls_k (mm_ls_k (mm_ls_k (mm_ls_k (mm_ls_k (mm_ls_k (mm_ls_k mm_ls_nil)))))))))) hv
        · have hv := hv.2 c10
          refine wp_iconst hb (x := nI 1) rfl dX11_unlike_153 ?_
          refine wp_goto hb (t := 158) ⟨rfl, rfl⟩ dX11_unlike_154 ?_
          obtain ⟨q12, hv⟩ := hv
          refine wp_bastore hb rfl ((mm_sols _ hi2).2.2 _) (mm_sols _ hi2).2.1 q12 dX11_unlike_158 ?_
          have hv := hv _ rfl
          generalize (mm_u2 m3.1 (177 + i2) v8.toNatClampNeg (vp_nar .boolean (nI 1)), m3.2) = m6 at hv ⊢
          refine wp_iinc hb rfl (y := v8 + nI 1) rfl rfl dX11_unlike_159 ?_
          refine wp_goto hb (t := 102) ⟨rfl, rfl⟩ dX11_unlike_162 ?_
          exact wp_for (mm_ls_k (mm_ls_k (mm_ls_k (mm_ls_k (mm_ls_k (mm_ls_k (mm_ls_k (mm_ls_k (mm_ls_k (mm_ls_k mm_ls_nil)))))))))) hv
set_option maxRecDepth 100000 in
theorem v_X11_unlike_171 {d sn : Nat} {v1 : Int32} {v2 : Int32} {v3 : Int32} {v4 : Int32} {v5 : Int32} {v6 : Int32} {v8 : Int32} {v9 : Int32} {m : mm_Mem} {P : Int32 → mm_Mem → Prop} 
    (hv : ((v5 ≤ v9) → (((v8 = 0) → (mm_wp d sn kX11_unlike 81 [some (.ref 82), some (.int v1), some (.int v2), some (.int v3), some (.int v4), some (.int (v5 + (nI 0))), some (.int (v6 + nI 1)), none, none, none] [] m (qI P))) ∧ (¬ (v8 = 0) → (mm_wp d sn kX11_unlike 81 [some (.ref 82), some (.int v1), some (.int v2), some (.int v3), some (.int v4), some (.int (v5 + (nI 1))), some (.int (v6 + nI 1)), none, none, none] [] m (qI P))))) ∧ (¬ (v5 ≤ v9) → (((v8 = 0) → (((v8 = 0) → (mm_wp d sn kX11_unlike 81 [some (.ref 82), some (.int v1), some (.int v2), some (.int v3), some (.int v4), some (.int (v5 + (nI 0))), some (.int (v6 + nI 1)), none, none, none] [] m (qI P))) ∧ (¬ (v8 = 0) → (mm_wp d sn kX11_unlike 81 [some (.ref 82), some (.int v1), some (.int v2), some (.int v3), some (.int v4), some (.int (v5 + (nI 1))), some (.int (v6 + nI 1)), none, none, none] [] m (qI P))))) ∧ (¬ (v8 = 0) → (∃ i5 : Nat, i5 < 24 ∧ v9 = nI i5 ∧ (∃ i6 : Nat, i6 < 24 ∧ v5 = nI i6 ∧ (mm_sp d sn kX11_areAlike [.ref 82, .ref (177 + i5), .ref (177 + i6)] m (qI fun x7 m1 => ((¬ x7 = 0) → (mm_wp d sn kX11_unlike 171 [some (.ref 82), some (.int v1), some (.int v2), some (.int v3), some (.int v4), some (.int v5), some (.int v6), none, some (.int (nI 0)), some (.int (v9 + nI 1))] [] m1 (qI P))) ∧ (¬ (¬ x7 = 0) → (mm_wp d sn kX11_unlike 171 [some (.ref 82), some (.int v1), some (.int v2), some (.int v3), some (.int v4), some (.int v5), some (.int v6), none, some (.int (nI 1)), some (.int (v9 + nI 1))] [] m1 (qI P))))))))))) :
    mm_wp d sn kX11_unlike 171 [some (.ref 82), some (.int v1), some (.int v2), some (.int v3), some (.int v4), some (.int v5), some (.int v6), none, some (.int v8), some (.int v9)] [] m (qI P) := by
  have hb := mb_210
  refine wp_iload hb rfl dX11_unlike_171 ?_
  refine wp_iload hb rfl dX11_unlike_173 ?_
  refine wp_icmp_ge hb (t := 217) ⟨rfl, rfl⟩ dX11_unlike_175 ⟨fun c1 => ?_, fun c1 => ?_⟩
  · have hv := hv.1 c1
    refine wp_iload hb rfl dX11_unlike_217 ?_
    refine wp_iload hb rfl dX11_unlike_219 ?_
    refine wp_if_eq hb (y := 0) (t := 228) ⟨rfl, rfl⟩ dX11_unlike_221 ⟨fun c2 => ?_, fun c2 => ?_⟩
    · have hv := hv.1 c2
      refine wp_iconst hb (x := nI 0) rfl dX11_unlike_228 ?_
      refine wp_iadd hb dX11_unlike_229 ?_
      refine wp_istore hb rfl dX11_unlike_230 ?_
      refine wp_iinc hb rfl (y := v6 + nI 1) rfl rfl dX11_unlike_232 ?_
      refine wp_goto hb (t := 81) ⟨rfl, rfl⟩ dX11_unlike_235 ?_
      exact wp_for (mm_ls_k (mm_ls_k (mm_ls_k (mm_ls_k (mm_ls_k (mm_ls_k (mm_ls_k (mm_ls_k (mm_ls_f (mm_ls_f mm_ls_nil)))))))))) hv
    · have hv := hv.2 c2
      refine wp_iconst hb (x := nI 1) rfl dX11_unlike_224 ?_
      refine wp_goto hb (t := 229) ⟨rfl, rfl⟩ dX11_unlike_225 ?_
      refine wp_iadd hb dX11_unlike_229 ?_
      refine wp_istore hb rfl dX11_unlike_230 ?_
      refine wp_iinc hb rfl (y := v6 + nI 1) rfl rfl dX11_unlike_232 ?_
      refine wp_goto hb (t := 81) ⟨rfl, rfl⟩ dX11_unlike_235 ?_
      exact wp_for (mm_ls_k (mm_ls_k (mm_ls_k (mm_ls_k (mm_ls_k (mm_ls_k (mm_ls_k (mm_ls_k (mm_ls_f (mm_ls_f mm_ls_nil)))))))))) hv
  · have hv := hv.2 c1
    refine wp_iload hb rfl dX11_unlike_178 ?_
    refine wp_if_eq hb (y := 0) (t := 217) ⟨rfl, rfl⟩ dX11_unlike_180 ⟨fun c3 => ?_, fun c3 => ?_⟩
    · have hv := hv.1 c3
      refine wp_iload hb rfl dX11_unlike_217 ?_
      refine wp_iload hb rfl dX11_unlike_219 ?_
      refine wp_if_eq hb (y := 0) (t := 228) ⟨rfl, rfl⟩ dX11_unlike_221 ⟨fun c4 => ?_, fun c4 => ?_⟩
      · have hv := hv.1 c4
        refine wp_iconst hb (x := nI 0) rfl dX11_unlike_228 ?_
        refine wp_iadd hb dX11_unlike_229 ?_
        refine wp_istore hb rfl dX11_unlike_230 ?_
        refine wp_iinc hb rfl (y := v6 + nI 1) rfl rfl dX11_unlike_232 ?_
        refine wp_goto hb (t := 81) ⟨rfl, rfl⟩ dX11_unlike_235 ?_
        exact wp_for (mm_ls_k (mm_ls_k (mm_ls_k (mm_ls_k (mm_ls_k (mm_ls_k (mm_ls_k (mm_ls_k (mm_ls_f (mm_ls_f mm_ls_nil)))))))))) hv
      · have hv := hv.2 c4
        refine wp_iconst hb (x := nI 1) rfl dX11_unlike_224 ?_
        refine wp_goto hb (t := 229) ⟨rfl, rfl⟩ dX11_unlike_225 ?_
        refine wp_iadd hb dX11_unlike_229 ?_
        refine wp_istore hb rfl dX11_unlike_230 ?_
        refine wp_iinc hb rfl (y := v6 + nI 1) rfl rfl dX11_unlike_232 ?_
        refine wp_goto hb (t := 81) ⟨rfl, rfl⟩ dX11_unlike_235 ?_
        exact wp_for (mm_ls_k (mm_ls_k (mm_ls_k (mm_ls_k (mm_ls_k (mm_ls_k (mm_ls_k (mm_ls_k (mm_ls_f (mm_ls_f mm_ls_nil)))))))))) hv
    · have hv := hv.2 c3
      refine wp_aload_n hb rfl dX11_unlike_183 ?_
      refine wp_aload_n hb rfl dX11_unlike_184 ?_
      refine wp_getR hb ko_210 lf_11_56 (by decide) m0_82 r0_82_14 dX11_unlike_185 ?_
      refine wp_iload hb rfl dX11_unlike_188 ?_
      obtain ⟨i5, hi5, hx5, hv⟩ := hv
      refine wp_aaload hb m0_176 (by decide) (mm_inx hx5 hi5 (by decide)) (mm_rx hx5 (by omega) (mm_sols _ hi5).1) dX11_unlike_190 ?_
      refine wp_aload_n hb rfl dX11_unlike_191 ?_
      refine wp_getR hb ko_210 lf_11_56 (by decide) m0_82 r0_82_14 dX11_unlike_192 ?_
      refine wp_iload hb rfl dX11_unlike_195 ?_
      obtain ⟨i6, hi6, hx6, hv⟩ := hv
      refine wp_aaload hb m0_176 (by decide) (mm_inx hx6 hi6 (by decide)) (mm_rx hx6 (by omega) (mm_sols _ hi6).1) dX11_unlike_197 ?_
      refine wp_callV hb (k' := 207) ko_210 lm_11_191 rfl m0_82 (by decide) (Nat.le_of_ble_eq_true rfl) dX11_unlike_198 (sp_cI (hv.I (Nat.le_refl _) ?_))
      intro x7 m1 hv
      refine wp_if_ne hb (y := 0) (t := 208) ⟨rfl, rfl⟩ dX11_unlike_201 ⟨fun c8 => ?_, fun c8 => ?_⟩
      · have hv := hv.1 c8
        refine wp_iconst hb (x := nI 0) rfl dX11_unlike_208 ?_
        refine wp_istore hb rfl dX11_unlike_209 ?_
        refine wp_iinc hb rfl (y := v9 + nI 1) rfl rfl dX11_unlike_211 ?_
        refine wp_goto hb (t := 171) ⟨rfl, rfl⟩ dX11_unlike_214 ?_
        exact wp_for (mm_ls_k (mm_ls_k (mm_ls_k (mm_ls_k (mm_ls_k (mm_ls_k (mm_ls_k (mm_ls_k (mm_ls_k (mm_ls_k mm_ls_nil)))))))))) hv
      · have hv := hv.2 c8
        refine wp_iconst hb (x := nI 1) rfl dX11_unlike_204 ?_
        refine wp_goto hb (t := 209) ⟨rfl, rfl⟩ dX11_unlike_205 ?_
        refine wp_istore hb rfl dX11_unlike_209 ?_
        refine wp_iinc hb rfl (y := v9 + nI 1) rfl rfl dX11_unlike_211 ?_
        refine wp_goto hb (t := 171) ⟨rfl, rfl⟩ dX11_unlike_214 ?_
        exact wp_for (mm_ls_k (mm_ls_k (mm_ls_k (mm_ls_k (mm_ls_k (mm_ls_k (mm_ls_k (mm_ls_k (mm_ls_k (mm_ls_k mm_ls_nil)))))))))) hv
set_option maxRecDepth 100000 in
theorem v_X11_lots {d sn : Nat} {v1 : Int32} {v2 : Int32} {v3 : Int32} {v4 : Int32} {m : mm_Mem} {P : Int32 → mm_Mem → Prop} 
    (hv : mm_sp d sn kX11_isSize [.ref 82, .int v1] m (qI fun x1 m1 => ((x1 = 0) → (P (-2) m1)) ∧ (¬ (x1 = 0) → (mm_sp d sn kX11_in [.long v2.toInt64, .long (lN 1), .long (lN 20)] m1 (qI fun x3 m2 => ((¬ x3 = 0) → (mm_sp d sn kX11_in [.long v4.toInt64, .long (lN 0), .long (lN 1)] m2 (qI fun x5 m3 => ((¬ x5 = 0) → (mm_sp d sn kX11_finds [.ref 82] m3 (qV fun m4 => mm_wp d sn kX11_lots 52 [some (.ref 82), some (.int v1), some (.int v2), none, some (.int v4), some (.int v3), some (.int (nI 0)), some (.int (nI 0)), some (.int (nI 0)), none, none, none] [] m4 (qI P)))) ∧ (¬ (¬ x5 = 0) → (P (-1) m3))))) ∧ (¬ (¬ x3 = 0) → (P (-2) m2))))))) :
    mm_sp (d + 1) sn kX11_lots [.ref 82, .int v1, .int v2, .int v3, .int v4] m (qI P) := by
  have hb := mb_211
  refine wp_in (la := [some (.ref 82), some (.int v1), some (.int v2), some (.int v3), some (.int v4), none, none, none, none, none, none, none]) ⟨⟨Nat.le_of_ble_eq_true rfl, by decide, by decide⟩, rfl⟩ ?_
  refine wp_aload_n hb rfl dX11_lots_0 ?_
  refine wp_iload_n hb rfl dX11_lots_1 ?_
  refine wp_callV hb (k' := 174) ko_211 lm_11_131 rfl m0_82 (by decide) (Nat.le_of_ble_eq_true rfl) dX11_lots_2 (sp_cI (hv.I (Nat.le_refl _) ?_))
  intro x1 m1 hv
  refine wp_if_eq hb (y := 0) (t := 20) ⟨rfl, rfl⟩ dX11_lots_5 ⟨fun c2 => ?_, fun c2 => ?_⟩
  · have hv := hv.1 c2
    refine wp_bipush hb (x := (-2)) rfl dX11_lots_20 ?_
    exact wp_retI hb rfl dX11_lots_22 hv
  · have hv := hv.2 c2
    refine wp_iload_n hb rfl dX11_lots_8 ?_
    refine wp_i2l hb dX11_lots_9 ?_
    refine wp_lconst hb (x := lN 1) rfl dX11_lots_10 ?_
    refine wp_ldc2 hb (ko_211) (kl_11_195) dX11_lots_11 ?_
    refine wp_callS hb (k' := 152) ko_211 lm_11_85 (by decide) rfl (Nat.le_of_ble_eq_true rfl) dX11_lots_14 (sp_cI (hv.I (Nat.le_refl _) ?_))
    intro x3 m2 hv
    refine wp_if_ne hb (y := 0) (t := 23) ⟨rfl, rfl⟩ dX11_lots_17 ⟨fun c4 => ?_, fun c4 => ?_⟩
    · have hv := hv.1 c4
      refine wp_iload hb rfl dX11_lots_23 ?_
      refine wp_i2l hb dX11_lots_25 ?_
      refine wp_lconst hb (x := lN 0) rfl dX11_lots_26 ?_
      refine wp_lconst hb (x := lN 1) rfl dX11_lots_27 ?_
      refine wp_callS hb (k' := 152) ko_211 lm_11_85 (by decide) rfl (Nat.le_of_ble_eq_true rfl) dX11_lots_28 (sp_cI (hv.I (Nat.le_refl _) ?_))
      intro x5 m3 hv
      refine wp_if_ne hb (y := 0) (t := 36) ⟨rfl, rfl⟩ dX11_lots_31 ⟨fun c6 => ?_, fun c6 => ?_⟩
      · have hv := hv.1 c6
        refine wp_aload_n hb rfl dX11_lots_36 ?_
        refine wp_callV hb (k' := 173) ko_211 lm_11_134 rfl m0_82 (by decide) (Nat.le_of_ble_eq_true rfl) dX11_lots_37 (sp_cV (hv.V (Nat.le_refl _) ?_))
        intro m4 hv
        refine wp_iload_n hb rfl dX11_lots_40 ?_
        refine wp_istore hb rfl dX11_lots_41 ?_
        refine wp_iconst hb (x := nI 0) rfl dX11_lots_43 ?_
        refine wp_istore hb rfl dX11_lots_44 ?_
        refine wp_iconst hb (x := nI 0) rfl dX11_lots_46 ?_
        refine wp_istore hb rfl dX11_lots_47 ?_
        refine wp_iconst hb (x := nI 0) rfl dX11_lots_49 ?_
        refine wp_istore hb rfl dX11_lots_50 ?_
        exact wp_for (mm_ls_k (mm_ls_k (mm_ls_k (mm_ls_f (mm_ls_k (mm_ls_k (mm_ls_k (mm_ls_k (mm_ls_k (mm_ls_k (mm_ls_k (mm_ls_k mm_ls_nil)))))))))))) hv
      · have hv := hv.2 c6
        refine wp_iconst hb (x := (-1)) rfl dX11_lots_34 ?_
        exact wp_retI hb rfl dX11_lots_35 hv
    · have hv := hv.2 c4
      refine wp_bipush hb (x := (-2)) rfl dX11_lots_20 ?_
      exact wp_retI hb rfl dX11_lots_22 hv
set_option maxRecDepth 100000 in
theorem v_X11_lots_52 {d sn : Nat} {v1 : Int32} {v2 : Int32} {v4 : Int32} {v5 : Int32} {v6 : Int32} {v7 : Int32} {v8 : Int32} {m : mm_Mem} {P : Int32 → mm_Mem → Prop} 
    (hv : ((v2 ≤ v8) → (((¬ v4 = 0) → (P v7 m)) ∧ (¬ (¬ v4 = 0) → (P v6 m)))) ∧ (¬ (v2 ≤ v8) → (mm_wp d sn kX11_lots 61 [some (.ref 82), some (.int v1), some (.int v2), none, some (.int v4), some (.int v5), some (.int v6), some (.int v7), some (.int v8), some (.int (nI 0)), none, none] [] m (qI P)))) :
    mm_wp d sn kX11_lots 52 [some (.ref 82), some (.int v1), some (.int v2), none, some (.int v4), some (.int v5), some (.int v6), some (.int v7), some (.int v8), none, none, none] [] m (qI P) := by
  have hb := mb_211
  refine wp_iload hb rfl dX11_lots_52 ?_
  refine wp_iload_n hb rfl dX11_lots_54 ?_
  refine wp_icmp_ge hb (t := 228) ⟨rfl, rfl⟩ dX11_lots_55 ⟨fun c1 => ?_, fun c1 => ?_⟩
  · have hv := hv.1 c1
    refine wp_iload hb rfl dX11_lots_228 ?_
    refine wp_if_ne hb (y := 0) (t := 238) ⟨rfl, rfl⟩ dX11_lots_230 ⟨fun c2 => ?_, fun c2 => ?_⟩
    · have hv := hv.1 c2
      refine wp_iload hb rfl dX11_lots_238 ?_
      exact wp_retI hb rfl dX11_lots_240 hv
    · have hv := hv.2 c2
      refine wp_iload hb rfl dX11_lots_233 ?_
      refine wp_goto hb (t := 240) ⟨rfl, rfl⟩ dX11_lots_235 ?_
      exact wp_retI hb rfl dX11_lots_240 hv
  · have hv := hv.2 c1
    refine wp_iconst hb (x := nI 0) rfl dX11_lots_58 ?_
    refine wp_istore hb rfl dX11_lots_59 ?_
    exact wp_for (mm_ls_k (mm_ls_k (mm_ls_k (mm_ls_k (mm_ls_k (mm_ls_k (mm_ls_k (mm_ls_k (mm_ls_k (mm_ls_k (mm_ls_k (mm_ls_k mm_ls_nil)))))))))))) hv
set_option maxRecDepth 100000 in
theorem v_X11_lots_61 {d sn : Nat} {v1 : Int32} {v2 : Int32} {v4 : Int32} {v5 : Int32} {v6 : Int32} {v7 : Int32} {v8 : Int32} {v9 : Int32} {m : mm_Mem} {P : Int32 → mm_Mem → Prop} 
    (hv : ((nI 256 ≤ v9) → (mm_wp d sn kX11_lots 86 [some (.ref 82), some (.int v1), some (.int v2), none, some (.int v4), some (.int v5), some (.int v6), some (.int v7), some (.int v8), some (.int (nI 0)), none, none] [] m (qI P))) ∧ (¬ (nI 256 ≤ v9) → (vp_in v9 256 ∧ (∀ m1 : mm_Mem, m1 = (mm_u2 m.1 174 v9.toNatClampNeg (vp_nar .boolean (nI 0)), m.2) → (mm_wp d sn kX11_lots 61 [some (.ref 82), some (.int v1), some (.int v2), none, some (.int v4), some (.int v5), some (.int v6), some (.int v7), some (.int v8), some (.int (v9 + nI 1)), none, none] [] m1 (qI P)))))) :
    mm_wp d sn kX11_lots 61 [some (.ref 82), some (.int v1), some (.int v2), none, some (.int v4), some (.int v5), some (.int v6), some (.int v7), some (.int v8), some (.int v9), none, none] [] m (qI P) := by
  have hb := mb_211
  refine wp_iload hb rfl dX11_lots_61 ?_
  refine wp_sipush hb (x := nI 256) rfl dX11_lots_63 ?_
  refine wp_icmp_ge hb (t := 83) ⟨rfl, rfl⟩ dX11_lots_66 ⟨fun c1 => ?_, fun c1 => ?_⟩
  · have hv := hv.1 c1
    refine wp_iconst hb (x := nI 0) rfl dX11_lots_83 ?_
    refine wp_istore hb rfl dX11_lots_84 ?_
    exact wp_for (mm_ls_k (mm_ls_k (mm_ls_k (mm_ls_k (mm_ls_k (mm_ls_k (mm_ls_k (mm_ls_k (mm_ls_k (mm_ls_k (mm_ls_k (mm_ls_k mm_ls_nil)))))))))))) hv
  · have hv := hv.2 c1
    refine wp_aload_n hb rfl dX11_lots_69 ?_
    refine wp_getR hb ko_211 lf_11_49 (by decide) m0_82 r0_82_12 dX11_lots_70 ?_
    refine wp_iload hb rfl dX11_lots_73 ?_
    refine wp_iconst hb (x := nI 0) rfl dX11_lots_75 ?_
    obtain ⟨q2, hv⟩ := hv
    refine wp_bastore hb rfl m0_174 (by decide) q2 dX11_lots_76 ?_
    have hv := hv _ rfl
    generalize (mm_u2 m.1 174 v9.toNatClampNeg (vp_nar .boolean (nI 0)), m.2) = m1 at hv ⊢
    refine wp_iinc hb rfl (y := v9 + nI 1) rfl rfl dX11_lots_77 ?_
    refine wp_goto hb (t := 61) ⟨rfl, rfl⟩ dX11_lots_80 ?_
    exact wp_for (mm_ls_k (mm_ls_k (mm_ls_k (mm_ls_k (mm_ls_k (mm_ls_k (mm_ls_k (mm_ls_k (mm_ls_k (mm_ls_k (mm_ls_k (mm_ls_k mm_ls_nil)))))))))))) hv
set_option maxRecDepth 100000 in
theorem v_X11_lots_86 {d sn : Nat} {v1 : Int32} {v2 : Int32} {v4 : Int32} {v5 : Int32} {v6 : Int32} {v7 : Int32} {v8 : Int32} {v9 : Int32} {m : mm_Mem} {P : Int32 → mm_Mem → Prop} 
    (hv : vp_in v1 9 ∧ (((m.1 100 v1.toNatClampNeg ≤ v9) → (mm_sp d sn kX11_whole [.ref 82] m (qI fun x3 m1 => mm_sp d sn kX11_shareOf [.ref 174, .int x3, .int (nI 1)] m1 (qI fun x4 m2 => ((x4 < 0) → (mm_sp d sn kX11_many [.ref 174] m2 (qI fun x6 m3 => mm_wp d sn kX11_lots 52 [some (.ref 82), some (.int v1), some (.int v2), none, some (.int v4), some (.int v5), some (.int (v6 + (nI 0))), some (.int (v7 + x6)), some (.int (v8 + nI 1)), none, none, none] [] m3 (qI P)))) ∧ (¬ (x4 < 0) → (mm_sp d sn kX11_many [.ref 174] m2 (qI fun x7 m4 => mm_wp d sn kX11_lots 52 [some (.ref 82), some (.int v1), some (.int v2), none, some (.int v4), some (.int v5), some (.int (v6 + (nI 1))), some (.int (v7 + x7)), some (.int (v8 + nI 1)), none, none, none] [] m4 (qI P)))))))) ∧ (¬ (m.1 100 v1.toNatClampNeg ≤ v9) → (((¬ mm_rem ((((v5 * (nI 1103515245)) + (nI 12345)) &&& (nI 2147483647)) / (nI 65536)) (nI 2) = nI 1) → (mm_wp d sn kX11_lots 132 [some (.ref 82), some (.int v1), some (.int v2), none, some (.int v4), some (.int ((v5 * (nI 1103515245)) + (nI 12345))), some (.int v6), some (.int v7), some (.int v8), some (.int v9), some (.int (nI 0)), some (.int (nI 0))] [] m (qI P))) ∧ (¬ (¬ mm_rem ((((v5 * (nI 1103515245)) + (nI 12345)) &&& (nI 2147483647)) / (nI 65536)) (nI 2) = nI 1) → (mm_wp d sn kX11_lots 132 [some (.ref 82), some (.int v1), some (.int v2), none, some (.int v4), some (.int ((v5 * (nI 1103515245)) + (nI 12345))), some (.int v6), some (.int v7), some (.int v8), some (.int v9), some (.int (nI 1)), some (.int (nI 0))] [] m (qI P))))))) :
    mm_wp d sn kX11_lots 86 [some (.ref 82), some (.int v1), some (.int v2), none, some (.int v4), some (.int v5), some (.int v6), some (.int v7), some (.int v8), some (.int v9), none, none] [] m (qI P) := by
  have hb := mb_211
  refine wp_iload hb rfl dX11_lots_86 ?_
  refine wp_aload_n hb rfl dX11_lots_88 ?_
  refine wp_getR hb ko_211 lf_11_35 (by decide) m0_82 r0_82_8 dX11_lots_89 ?_
  refine wp_iload_n hb rfl dX11_lots_92 ?_
  obtain ⟨q1, hv⟩ := hv
  refine wp_iaload hb rfl m0_100 q1 dX11_lots_93 ?_
  refine wp_icmp_ge hb (t := 185) ⟨rfl, rfl⟩ dX11_lots_94 ⟨fun c2 => ?_, fun c2 => ?_⟩
  · have hv := hv.1 c2
    refine wp_iload hb rfl dX11_lots_185 ?_
    refine wp_aload_n hb rfl dX11_lots_187 ?_
    refine wp_getR hb ko_211 lf_11_49 (by decide) m0_82 r0_82_12 dX11_lots_188 ?_
    refine wp_aload_n hb rfl dX11_lots_191 ?_
    refine wp_callV hb (k' := 155) ko_211 lm_11_81 rfl m0_82 (by decide) (Nat.le_of_ble_eq_true rfl) dX11_lots_192 (sp_cI (hv.I (Nat.le_refl _) ?_))
    intro x3 m1 hv
    refine wp_iconst hb (x := nI 1) rfl dX11_lots_195 ?_
    refine wp_callS hb (k' := 195) ko_211 lm_11_174 (by decide) rfl (Nat.le_of_ble_eq_true rfl) dX11_lots_196 (sp_cI (hv.I (Nat.le_refl _) ?_))
    intro x4 m2 hv
    refine wp_if_lt hb (y := 0) (t := 206) ⟨rfl, rfl⟩ dX11_lots_199 ⟨fun c5 => ?_, fun c5 => ?_⟩
    · have hv := hv.1 c5
      refine wp_iconst hb (x := nI 0) rfl dX11_lots_206 ?_
      refine wp_iadd hb dX11_lots_207 ?_
      refine wp_istore hb rfl dX11_lots_208 ?_
      refine wp_iload hb rfl dX11_lots_210 ?_
      refine wp_aload_n hb rfl dX11_lots_212 ?_
      refine wp_getR hb ko_211 lf_11_49 (by decide) m0_82 r0_82_12 dX11_lots_213 ?_
      refine wp_callS hb (k' := 191) ko_211 lm_11_170 (by decide) rfl (Nat.le_of_ble_eq_true rfl) dX11_lots_216 (sp_cI (hv.I (Nat.le_refl _) ?_))
      intro x6 m3 hv
      refine wp_iadd hb dX11_lots_219 ?_
      refine wp_istore hb rfl dX11_lots_220 ?_
      refine wp_iinc hb rfl (y := v8 + nI 1) rfl rfl dX11_lots_222 ?_
      refine wp_goto hb (t := 52) ⟨rfl, rfl⟩ dX11_lots_225 ?_
      exact wp_for (mm_ls_k (mm_ls_k (mm_ls_k (mm_ls_k (mm_ls_k (mm_ls_k (mm_ls_k (mm_ls_k (mm_ls_k (mm_ls_f (mm_ls_k (mm_ls_k mm_ls_nil)))))))))))) hv
    · have hv := hv.2 c5
      refine wp_iconst hb (x := nI 1) rfl dX11_lots_202 ?_
      refine wp_goto hb (t := 207) ⟨rfl, rfl⟩ dX11_lots_203 ?_
      refine wp_iadd hb dX11_lots_207 ?_
      refine wp_istore hb rfl dX11_lots_208 ?_
      refine wp_iload hb rfl dX11_lots_210 ?_
      refine wp_aload_n hb rfl dX11_lots_212 ?_
      refine wp_getR hb ko_211 lf_11_49 (by decide) m0_82 r0_82_12 dX11_lots_213 ?_
      refine wp_callS hb (k' := 191) ko_211 lm_11_170 (by decide) rfl (Nat.le_of_ble_eq_true rfl) dX11_lots_216 (sp_cI (hv.I (Nat.le_refl _) ?_))
      intro x7 m4 hv
      refine wp_iadd hb dX11_lots_219 ?_
      refine wp_istore hb rfl dX11_lots_220 ?_
      refine wp_iinc hb rfl (y := v8 + nI 1) rfl rfl dX11_lots_222 ?_
      refine wp_goto hb (t := 52) ⟨rfl, rfl⟩ dX11_lots_225 ?_
      exact wp_for (mm_ls_k (mm_ls_k (mm_ls_k (mm_ls_k (mm_ls_k (mm_ls_k (mm_ls_k (mm_ls_k (mm_ls_k (mm_ls_f (mm_ls_k (mm_ls_k mm_ls_nil)))))))))))) hv
  · have hv := hv.2 c2
    refine wp_iload hb rfl dX11_lots_97 ?_
    refine wp_ldc hb (ko_211) (ki_11_197) dX11_lots_99 ?_
    refine wp_imul hb dX11_lots_101 ?_
    refine wp_sipush hb (x := nI 12345) rfl dX11_lots_102 ?_
    refine wp_iadd hb dX11_lots_105 ?_
    refine wp_istore hb rfl dX11_lots_106 ?_
    refine wp_iload hb rfl dX11_lots_108 ?_
    refine wp_ldc hb (ko_211) (ki_11_198) dX11_lots_110 ?_
    refine wp_iand hb dX11_lots_112 ?_
    refine wp_ldc hb (ko_211) (ki_11_199) dX11_lots_113 ?_
    refine wp_idiv hb (by decide) dX11_lots_115 ?_
    refine wp_iconst hb (x := nI 2) rfl dX11_lots_116 ?_
    refine wp_irem hb (by decide) dX11_lots_117 ?_
    refine wp_iconst hb (x := nI 1) rfl dX11_lots_118 ?_
    refine wp_icmp_ne hb (t := 126) ⟨rfl, rfl⟩ dX11_lots_119 ⟨fun c8 => ?_, fun c8 => ?_⟩
    · have hv := hv.1 c8
      refine wp_iconst hb (x := nI 0) rfl dX11_lots_126 ?_
      refine wp_istore hb rfl dX11_lots_127 ?_
      refine wp_iconst hb (x := nI 0) rfl dX11_lots_129 ?_
      refine wp_istore hb rfl dX11_lots_130 ?_
      exact wp_for (mm_ls_k (mm_ls_k (mm_ls_k (mm_ls_k (mm_ls_k (mm_ls_k (mm_ls_k (mm_ls_k (mm_ls_k (mm_ls_k (mm_ls_k (mm_ls_k mm_ls_nil)))))))))))) hv
    · have hv := hv.2 c8
      refine wp_iconst hb (x := nI 1) rfl dX11_lots_122 ?_
      refine wp_goto hb (t := 127) ⟨rfl, rfl⟩ dX11_lots_123 ?_
      refine wp_istore hb rfl dX11_lots_127 ?_
      refine wp_iconst hb (x := nI 0) rfl dX11_lots_129 ?_
      refine wp_istore hb rfl dX11_lots_130 ?_
      exact wp_for (mm_ls_k (mm_ls_k (mm_ls_k (mm_ls_k (mm_ls_k (mm_ls_k (mm_ls_k (mm_ls_k (mm_ls_k (mm_ls_k (mm_ls_k (mm_ls_k mm_ls_nil)))))))))))) hv
set_option maxRecDepth 100000 in
theorem v_X11_lots_132 {d sn : Nat} {v1 : Int32} {v2 : Int32} {v4 : Int32} {v5 : Int32} {v6 : Int32} {v7 : Int32} {v8 : Int32} {v9 : Int32} {v10 : Int32} {v11 : Int32} {m : mm_Mem} {P : Int32 → mm_Mem → Prop} 
    (hv : mm_sp d sn kX11_whole [.ref 82] m (qI fun x1 m1 => ((x1 < v11) → (mm_wp d sn kX11_lots 86 [some (.ref 82), some (.int v1), some (.int v2), none, some (.int v4), some (.int v5), some (.int v6), some (.int v7), some (.int v8), some (.int (v9 + nI 1)), none, none] [] m1 (qI P))) ∧ (¬ (x1 < v11) → (vp_in v11 256 ∧ (((v10 = 0) → (vp_in v11 256 ∧ (∀ m2 : mm_Mem, m2 = (mm_u2 m1.1 174 v11.toNatClampNeg (vp_nar .boolean ((m1.1 174 v11.toNatClampNeg) ||| (nI 0))), m1.2) → (mm_wp d sn kX11_lots 132 [some (.ref 82), some (.int v1), some (.int v2), none, some (.int v4), some (.int v5), some (.int v6), some (.int v7), some (.int v8), some (.int v9), some (.int v10), some (.int (v11 + nI 1))] [] m2 (qI P))))) ∧ (¬ (v10 = 0) → (mm_sp d sn kX11_isIn [.ref 82, .int v11, .int v1, .int v9] m1 (qI fun x6 m3 => ((x6 = 0) → (vp_in v11 256 ∧ (∀ m4 : mm_Mem, m4 = (mm_u2 m3.1 174 v11.toNatClampNeg (vp_nar .boolean ((m1.1 174 v11.toNatClampNeg) ||| (nI 0))), m3.2) → (mm_wp d sn kX11_lots 132 [some (.ref 82), some (.int v1), some (.int v2), none, some (.int v4), some (.int v5), some (.int v6), some (.int v7), some (.int v8), some (.int v9), some (.int v10), some (.int (v11 + nI 1))] [] m4 (qI P))))) ∧ (¬ (x6 = 0) → (vp_in v11 256 ∧ (∀ m5 : mm_Mem, m5 = (mm_u2 m3.1 174 v11.toNatClampNeg (vp_nar .boolean ((m1.1 174 v11.toNatClampNeg) ||| (nI 1))), m3.2) → (mm_wp d sn kX11_lots 132 [some (.ref 82), some (.int v1), some (.int v2), none, some (.int v4), some (.int v5), some (.int v6), some (.int v7), some (.int v8), some (.int v9), some (.int v10), some (.int (v11 + nI 1))] [] m5 (qI P))))))))))))) :
    mm_wp d sn kX11_lots 132 [some (.ref 82), some (.int v1), some (.int v2), none, some (.int v4), some (.int v5), some (.int v6), some (.int v7), some (.int v8), some (.int v9), some (.int v10), some (.int v11)] [] m (qI P) := by
  have hb := mb_211
  refine wp_iload hb rfl dX11_lots_132 ?_
  refine wp_aload_n hb rfl dX11_lots_134 ?_
  refine wp_callV hb (k' := 155) ko_211 lm_11_81 rfl m0_82 (by decide) (Nat.le_of_ble_eq_true rfl) dX11_lots_135 (sp_cI (hv.I (Nat.le_refl _) ?_))
  intro x1 m1 hv
  refine wp_icmp_gt hb (t := 179) ⟨rfl, rfl⟩ dX11_lots_138 ⟨fun c2 => ?_, fun c2 => ?_⟩
  · have hv := hv.1 c2
    refine wp_iinc hb rfl (y := v9 + nI 1) rfl rfl dX11_lots_179 ?_
    refine wp_goto hb (t := 86) ⟨rfl, rfl⟩ dX11_lots_182 ?_
    exact wp_for (mm_ls_k (mm_ls_k (mm_ls_k (mm_ls_k (mm_ls_k (mm_ls_k (mm_ls_k (mm_ls_k (mm_ls_k (mm_ls_k (mm_ls_f (mm_ls_f mm_ls_nil)))))))))))) hv
  · have hv := hv.2 c2
    refine wp_aload_n hb rfl dX11_lots_141 ?_
    refine wp_getR hb ko_211 lf_11_49 (by decide) m0_82 r0_82_12 dX11_lots_142 ?_
    refine wp_iload hb rfl dX11_lots_145 ?_
    refine wp_dup2 hb dX11_lots_147 ?_
    obtain ⟨q3, hv⟩ := hv
    refine wp_baload hb rfl m0_174 q3 dX11_lots_148 ?_
    refine wp_iload hb rfl dX11_lots_149 ?_
    refine wp_if_eq hb (y := 0) (t := 170) ⟨rfl, rfl⟩ dX11_lots_151 ⟨fun c4 => ?_, fun c4 => ?_⟩
    · have hv := hv.1 c4
      refine wp_iconst hb (x := nI 0) rfl dX11_lots_170 ?_
      refine wp_ior hb dX11_lots_171 ?_
      obtain ⟨q5, hv⟩ := hv
      refine wp_bastore hb rfl m0_174 (by decide) q5 dX11_lots_172 ?_
      have hv := hv _ rfl
      generalize (mm_u2 m1.1 174 v11.toNatClampNeg (vp_nar .boolean ((m1.1 174 v11.toNatClampNeg) ||| (nI 0))), m1.2) = m2 at hv ⊢
      refine wp_iinc hb rfl (y := v11 + nI 1) rfl rfl dX11_lots_173 ?_
      refine wp_goto hb (t := 132) ⟨rfl, rfl⟩ dX11_lots_176 ?_
      exact wp_for (mm_ls_k (mm_ls_k (mm_ls_k (mm_ls_k (mm_ls_k (mm_ls_k (mm_ls_k (mm_ls_k (mm_ls_k (mm_ls_k (mm_ls_k (mm_ls_k mm_ls_nil)))))))))))) hv
    · have hv := hv.2 c4
      refine wp_aload_n hb rfl dX11_lots_154 ?_
      refine wp_iload hb rfl dX11_lots_155 ?_
      refine wp_iload_n hb rfl dX11_lots_157 ?_
      refine wp_iload hb rfl dX11_lots_158 ?_
      refine wp_callV hb (k' := 176) ko_211 lm_11_137 rfl m0_82 (by decide) (Nat.le_of_ble_eq_true rfl) dX11_lots_160 (sp_cI (hv.I (Nat.le_refl _) ?_))
      intro x6 m3 hv
      refine wp_if_eq hb (y := 0) (t := 170) ⟨rfl, rfl⟩ dX11_lots_163 ⟨fun c7 => ?_, fun c7 => ?_⟩
      · have hv := hv.1 c7
        refine wp_iconst hb (x := nI 0) rfl dX11_lots_170 ?_
        refine wp_ior hb dX11_lots_171 ?_
        obtain ⟨q8, hv⟩ := hv
        refine wp_bastore hb rfl m0_174 (by decide) q8 dX11_lots_172 ?_
        have hv := hv _ rfl
        generalize (mm_u2 m3.1 174 v11.toNatClampNeg (vp_nar .boolean ((m1.1 174 v11.toNatClampNeg) ||| (nI 0))), m3.2) = m4 at hv ⊢
        refine wp_iinc hb rfl (y := v11 + nI 1) rfl rfl dX11_lots_173 ?_
        refine wp_goto hb (t := 132) ⟨rfl, rfl⟩ dX11_lots_176 ?_
        exact wp_for (mm_ls_k (mm_ls_k (mm_ls_k (mm_ls_k (mm_ls_k (mm_ls_k (mm_ls_k (mm_ls_k (mm_ls_k (mm_ls_k (mm_ls_k (mm_ls_k mm_ls_nil)))))))))))) hv
      · have hv := hv.2 c7
        refine wp_iconst hb (x := nI 1) rfl dX11_lots_166 ?_
        refine wp_goto hb (t := 171) ⟨rfl, rfl⟩ dX11_lots_167 ?_
        refine wp_ior hb dX11_lots_171 ?_
        obtain ⟨q9, hv⟩ := hv
        refine wp_bastore hb rfl m0_174 (by decide) q9 dX11_lots_172 ?_
        have hv := hv _ rfl
        generalize (mm_u2 m3.1 174 v11.toNatClampNeg (vp_nar .boolean ((m1.1 174 v11.toNatClampNeg) ||| (nI 1))), m3.2) = m5 at hv ⊢
        refine wp_iinc hb rfl (y := v11 + nI 1) rfl rfl dX11_lots_173 ?_
        refine wp_goto hb (t := 132) ⟨rfl, rfl⟩ dX11_lots_176 ?_
        exact wp_for (mm_ls_k (mm_ls_k (mm_ls_k (mm_ls_k (mm_ls_k (mm_ls_k (mm_ls_k (mm_ls_k (mm_ls_k (mm_ls_k (mm_ls_k (mm_ls_k mm_ls_nil)))))))))))) hv
set_option maxRecDepth 100000 in
theorem v_X11_feed {d sn : Nat} {v1 : Int32} {m : mm_Mem} {P : Int32 → mm_Mem → Prop} 
    (hv : mm_sp d sn kX11_in [.long v1.toInt64, .long (lN 0), .long (lN 127)] m (qI fun x1 m1 => ((¬ x1 = 0) → (((¬ m1.1 82 16 = nI 100) → (vp_in (m1.1 82 16) 100 ∧ (∀ m2 : mm_Mem, m2 = (mm_u2 m1.1 201 (m1.1 82 16).toNatClampNeg v1, m1.2) → (∀ m3 : mm_Mem, m3 = (mm_u2 m2.1 82 16 ((m2.1 82 16) + (nI 1)), m2.2) → (P (m3.1 82 16) m3))))) ∧ (¬ (¬ m1.1 82 16 = nI 100) → (P (-4) m1)))) ∧ (¬ (¬ x1 = 0) → (P (-2) m1)))) :
    mm_sp (d + 1) sn kX11_feed [.ref 82, .int v1] m (qI P) := by
  have hb := mb_212
  refine wp_in (la := [some (.ref 82), some (.int v1)]) ⟨⟨Nat.le_of_ble_eq_true rfl, by decide, by decide⟩, rfl⟩ ?_
  refine wp_iload_n hb rfl dX11_feed_0 ?_
  refine wp_i2l hb dX11_feed_1 ?_
  refine wp_lconst hb (x := lN 0) rfl dX11_feed_2 ?_
  refine wp_ldc2 hb (ko_212) (kl_11_200) dX11_feed_3 ?_
  refine wp_callS hb (k' := 152) ko_212 lm_11_85 (by decide) rfl (Nat.le_of_ble_eq_true rfl) dX11_feed_6 (sp_cI (hv.I (Nat.le_refl _) ?_))
  intro x1 m1 hv
  refine wp_if_ne hb (y := 0) (t := 15) ⟨rfl, rfl⟩ dX11_feed_9 ⟨fun c2 => ?_, fun c2 => ?_⟩
  · have hv := hv.1 c2
    refine wp_aload_n hb rfl dX11_feed_15 ?_
    refine wp_getI hb ko_212 lf_11_202 (by decide) m0_82 dX11_feed_16 ?_
    refine wp_bipush hb (x := nI 100) rfl dX11_feed_19 ?_
    refine wp_icmp_ne hb (t := 27) ⟨rfl, rfl⟩ dX11_feed_21 ⟨fun c3 => ?_, fun c3 => ?_⟩
    · have hv := hv.1 c3
      refine wp_aload_n hb rfl dX11_feed_27 ?_
      refine wp_getR hb ko_212 lf_11_59 (by decide) m0_82 r0_82_15 dX11_feed_28 ?_
      refine wp_aload_n hb rfl dX11_feed_31 ?_
      refine wp_getI hb ko_212 lf_11_202 (by decide) m0_82 dX11_feed_32 ?_
      refine wp_iload_n hb rfl dX11_feed_35 ?_
      obtain ⟨q4, hv⟩ := hv
      refine wp_iastore hb rfl m0_201 (by decide) q4 dX11_feed_36 ?_
      have hv := hv _ rfl
      generalize (mm_u2 m1.1 201 (m1.1 82 16).toNatClampNeg v1, m1.2) = m2 at hv ⊢
      refine wp_aload_n hb rfl dX11_feed_37 ?_
      refine wp_dupR hb dX11_feed_38 ?_
      refine wp_getI hb ko_212 lf_11_202 (by decide) m0_82 dX11_feed_39 ?_
      refine wp_iconst hb (x := nI 1) rfl dX11_feed_42 ?_
      refine wp_iadd hb dX11_feed_43 ?_
      refine wp_putI hb ko_212 lf_11_202 (by decide) m0_82 dX11_feed_44 ?_
      have hv := hv _ rfl
      generalize (mm_u2 m2.1 82 16 ((m2.1 82 16) + (nI 1)), m2.2) = m3 at hv ⊢
      refine wp_aload_n hb rfl dX11_feed_47 ?_
      refine wp_getI hb ko_212 lf_11_202 (by decide) m0_82 dX11_feed_48 ?_
      exact wp_retI hb rfl dX11_feed_51 hv
    · have hv := hv.2 c3
      refine wp_bipush hb (x := (-4)) rfl dX11_feed_24 ?_
      exact wp_retI hb rfl dX11_feed_26 hv
  · have hv := hv.2 c2
    refine wp_bipush hb (x := (-2)) rfl dX11_feed_12 ?_
    exact wp_retI hb rfl dX11_feed_14 hv
set_option maxRecDepth 100000 in
theorem v_X11_here {d sn : Nat} {m : mm_Mem} {P : Int32 → mm_Mem → Prop} 
    (hv : ((m.1 82 16 ≤ m.1 82 17) → (P (-1) m)) ∧ (¬ (m.1 82 16 ≤ m.1 82 17) → (vp_in (m.1 82 17) 100 ∧ (P (m.1 201 (m.1 82 17).toNatClampNeg) m)))) :
    mm_sp (d + 1) sn kX11_here [.ref 82] m (qI P) := by
  have hb := mb_213
  refine wp_in (la := [some (.ref 82)]) ⟨⟨Nat.le_of_ble_eq_true rfl, by decide, by decide⟩, rfl⟩ ?_
  refine wp_aload_n hb rfl dX11_here_0 ?_
  refine wp_getI hb ko_213 lf_11_206 (by decide) m0_82 dX11_here_1 ?_
  refine wp_aload_n hb rfl dX11_here_4 ?_
  refine wp_getI hb ko_213 lf_11_202 (by decide) m0_82 dX11_here_5 ?_
  refine wp_icmp_ge hb (t := 23) ⟨rfl, rfl⟩ dX11_here_8 ⟨fun c1 => ?_, fun c1 => ?_⟩
  · have hv := hv.1 c1
    refine wp_iconst hb (x := (-1)) rfl dX11_here_23 ?_
    exact wp_retI hb rfl dX11_here_24 hv
  · have hv := hv.2 c1
    refine wp_aload_n hb rfl dX11_here_11 ?_
    refine wp_getR hb ko_213 lf_11_59 (by decide) m0_82 r0_82_15 dX11_here_12 ?_
    refine wp_aload_n hb rfl dX11_here_15 ?_
    refine wp_getI hb ko_213 lf_11_206 (by decide) m0_82 dX11_here_16 ?_
    obtain ⟨q2, hv⟩ := hv
    refine wp_iaload hb rfl m0_201 q2 dX11_here_19 ?_
    refine wp_goto hb (t := 24) ⟨rfl, rfl⟩ dX11_here_20 ?_
    exact wp_retI hb rfl dX11_here_24 hv
set_option maxRecDepth 100000 in
theorem v_X11_hasClause {d sn : Nat} {m : mm_Mem} {P : Int32 → mm_Mem → Prop} 
    (hv : mm_sp d sn kX11_here [.ref 82] m (qI fun x1 m1 => ((x1 = nI 110) → (((x1 = nI 104) → (∀ m2 : mm_Mem, m2 = (mm_u2 m1.1 82 17 ((m1.1 82 17) + (nI 1)), m1.2) → (∀ m3 : mm_Mem, m3 = (mm_u2 m2.1 82 18 (nI 0), m2.2) → (∀ m4 : mm_Mem, m4 = (mm_u2 m3.1 82 19 (nI 0), m3.2) → (∀ m5 : mm_Mem, m5 = (mm_u2 m4.1 82 20 (nI 0), m4.2) → (mm_wp d sn kX11_hasClause 99 [some (.ref 82), none, some (.int (nI 1)), some (.int (nI 8))] [] m5 (qI P))))))) ∧ (¬ (x1 = nI 104) → (((¬ x1 = nI 98) → (∀ m6 : mm_Mem, m6 = (mm_u2 m1.1 82 17 ((m1.1 82 17) + (nI 1)), m1.2) → (∀ m7 : mm_Mem, m7 = (mm_u2 m6.1 82 18 (nI 0), m6.2) → (∀ m8 : mm_Mem, m8 = (mm_u2 m7.1 82 19 (nI 0), m7.2) → (∀ m9 : mm_Mem, m9 = (mm_u2 m8.1 82 20 (nI 0), m8.2) → (mm_wp d sn kX11_hasClause 99 [some (.ref 82), none, some (.int (nI 1)), some (.int (nI 1))] [] m9 (qI P))))))) ∧ (¬ (¬ x1 = nI 98) → (∀ m10 : mm_Mem, m10 = (mm_u2 m1.1 82 17 ((m1.1 82 17) + (nI 1)), m1.2) → (∀ m11 : mm_Mem, m11 = (mm_u2 m10.1 82 18 (nI 0), m10.2) → (∀ m12 : mm_Mem, m12 = (mm_u2 m11.1 82 19 (nI 0), m11.2) → (∀ m13 : mm_Mem, m13 = (mm_u2 m12.1 82 20 (nI 0), m12.2) → (mm_wp d sn kX11_hasClause 99 [some (.ref 82), none, some (.int (nI 1)), some (.int (nI 8))] [] m13 (qI P))))))))))) ∧ (¬ (x1 = nI 110) → (((¬ x1 = nI 98) → (((x1 = nI 103) → (((x1 = nI 104) → (∀ m14 : mm_Mem, m14 = (mm_u2 m1.1 82 17 ((m1.1 82 17) + (nI 1)), m1.2) → (∀ m15 : mm_Mem, m15 = (mm_u2 m14.1 82 18 (nI 0), m14.2) → (∀ m16 : mm_Mem, m16 = (mm_u2 m15.1 82 19 (nI 0), m15.2) → (∀ m17 : mm_Mem, m17 = (mm_u2 m16.1 82 20 (nI 0), m16.2) → (mm_wp d sn kX11_hasClause 99 [some (.ref 82), none, some (.int (nI 2)), some (.int (nI 8))] [] m17 (qI P))))))) ∧ (¬ (x1 = nI 104) → (((¬ x1 = nI 98) → (∀ m18 : mm_Mem, m18 = (mm_u2 m1.1 82 17 ((m1.1 82 17) + (nI 1)), m1.2) → (∀ m19 : mm_Mem, m19 = (mm_u2 m18.1 82 18 (nI 0), m18.2) → (∀ m20 : mm_Mem, m20 = (mm_u2 m19.1 82 19 (nI 0), m19.2) → (∀ m21 : mm_Mem, m21 = (mm_u2 m20.1 82 20 (nI 0), m20.2) → (mm_wp d sn kX11_hasClause 99 [some (.ref 82), none, some (.int (nI 2)), some (.int (nI 2))] [] m21 (qI P))))))) ∧ (¬ (¬ x1 = nI 98) → (∀ m22 : mm_Mem, m22 = (mm_u2 m1.1 82 17 ((m1.1 82 17) + (nI 1)), m1.2) → (∀ m23 : mm_Mem, m23 = (mm_u2 m22.1 82 18 (nI 0), m22.2) → (∀ m24 : mm_Mem, m24 = (mm_u2 m23.1 82 19 (nI 0), m23.2) → (∀ m25 : mm_Mem, m25 = (mm_u2 m24.1 82 20 (nI 0), m24.2) → (mm_wp d sn kX11_hasClause 99 [some (.ref 82), none, some (.int (nI 2)), some (.int (nI 8))] [] m25 (qI P))))))))))) ∧ (¬ (x1 = nI 103) → (((¬ x1 = nI 107) → (((¬ x1 = nI 104) → (((x1 = nI 104) → (P (nI 0) m1)) ∧ (¬ (x1 = nI 104) → (((¬ x1 = nI 98) → (P (nI 0) m1)) ∧ (¬ (¬ x1 = nI 98) → (P (nI 0) m1)))))) ∧ (¬ (¬ x1 = nI 104) → (((x1 = nI 104) → (∀ m26 : mm_Mem, m26 = (mm_u2 m1.1 82 17 ((m1.1 82 17) + (nI 1)), m1.2) → (∀ m27 : mm_Mem, m27 = (mm_u2 m26.1 82 18 (nI 0), m26.2) → (∀ m28 : mm_Mem, m28 = (mm_u2 m27.1 82 19 (nI 0), m27.2) → (∀ m29 : mm_Mem, m29 = (mm_u2 m28.1 82 20 (nI 0), m28.2) → (mm_wp d sn kX11_hasClause 99 [some (.ref 82), none, some (.int (nI 3)), some (.int (nI 8))] [] m29 (qI P))))))) ∧ (¬ (x1 = nI 104) → (((¬ x1 = nI 98) → (∀ m30 : mm_Mem, m30 = (mm_u2 m1.1 82 17 ((m1.1 82 17) + (nI 1)), m1.2) → (∀ m31 : mm_Mem, m31 = (mm_u2 m30.1 82 18 (nI 0), m30.2) → (∀ m32 : mm_Mem, m32 = (mm_u2 m31.1 82 19 (nI 0), m31.2) → (∀ m33 : mm_Mem, m33 = (mm_u2 m32.1 82 20 (nI 0), m32.2) → (mm_wp d sn kX11_hasClause 99 [some (.ref 82), none, some (.int (nI 3)), some (.int (nI 3))] [] m33 (qI P))))))) ∧ (¬ (¬ x1 = nI 98) → (∀ m34 : mm_Mem, m34 = (mm_u2 m1.1 82 17 ((m1.1 82 17) + (nI 1)), m1.2) → (∀ m35 : mm_Mem, m35 = (mm_u2 m34.1 82 18 (nI 0), m34.2) → (∀ m36 : mm_Mem, m36 = (mm_u2 m35.1 82 19 (nI 0), m35.2) → (∀ m37 : mm_Mem, m37 = (mm_u2 m36.1 82 20 (nI 0), m36.2) → (mm_wp d sn kX11_hasClause 99 [some (.ref 82), none, some (.int (nI 3)), some (.int (nI 8))] [] m37 (qI P))))))))))))) ∧ (¬ (¬ x1 = nI 107) → (((x1 = nI 104) → (∀ m38 : mm_Mem, m38 = (mm_u2 m1.1 82 17 ((m1.1 82 17) + (nI 1)), m1.2) → (∀ m39 : mm_Mem, m39 = (mm_u2 m38.1 82 18 (nI 0), m38.2) → (∀ m40 : mm_Mem, m40 = (mm_u2 m39.1 82 19 (nI 0), m39.2) → (∀ m41 : mm_Mem, m41 = (mm_u2 m40.1 82 20 (nI 0), m40.2) → (mm_wp d sn kX11_hasClause 99 [some (.ref 82), none, some (.int (nI 2)), some (.int (nI 8))] [] m41 (qI P))))))) ∧ (¬ (x1 = nI 104) → (((¬ x1 = nI 98) → (∀ m42 : mm_Mem, m42 = (mm_u2 m1.1 82 17 ((m1.1 82 17) + (nI 1)), m1.2) → (∀ m43 : mm_Mem, m43 = (mm_u2 m42.1 82 18 (nI 0), m42.2) → (∀ m44 : mm_Mem, m44 = (mm_u2 m43.1 82 19 (nI 0), m43.2) → (∀ m45 : mm_Mem, m45 = (mm_u2 m44.1 82 20 (nI 0), m44.2) → (mm_wp d sn kX11_hasClause 99 [some (.ref 82), none, some (.int (nI 2)), some (.int (nI 2))] [] m45 (qI P))))))) ∧ (¬ (¬ x1 = nI 98) → (∀ m46 : mm_Mem, m46 = (mm_u2 m1.1 82 17 ((m1.1 82 17) + (nI 1)), m1.2) → (∀ m47 : mm_Mem, m47 = (mm_u2 m46.1 82 18 (nI 0), m46.2) → (∀ m48 : mm_Mem, m48 = (mm_u2 m47.1 82 19 (nI 0), m47.2) → (∀ m49 : mm_Mem, m49 = (mm_u2 m48.1 82 20 (nI 0), m48.2) → (mm_wp d sn kX11_hasClause 99 [some (.ref 82), none, some (.int (nI 2)), some (.int (nI 8))] [] m49 (qI P))))))))))))))) ∧ (¬ (¬ x1 = nI 98) → (((x1 = nI 104) → (∀ m50 : mm_Mem, m50 = (mm_u2 m1.1 82 17 ((m1.1 82 17) + (nI 1)), m1.2) → (∀ m51 : mm_Mem, m51 = (mm_u2 m50.1 82 18 (nI 0), m50.2) → (∀ m52 : mm_Mem, m52 = (mm_u2 m51.1 82 19 (nI 0), m51.2) → (∀ m53 : mm_Mem, m53 = (mm_u2 m52.1 82 20 (nI 0), m52.2) → (mm_wp d sn kX11_hasClause 99 [some (.ref 82), none, some (.int (nI 1)), some (.int (nI 8))] [] m53 (qI P))))))) ∧ (¬ (x1 = nI 104) → (((¬ x1 = nI 98) → (∀ m54 : mm_Mem, m54 = (mm_u2 m1.1 82 17 ((m1.1 82 17) + (nI 1)), m1.2) → (∀ m55 : mm_Mem, m55 = (mm_u2 m54.1 82 18 (nI 0), m54.2) → (∀ m56 : mm_Mem, m56 = (mm_u2 m55.1 82 19 (nI 0), m55.2) → (∀ m57 : mm_Mem, m57 = (mm_u2 m56.1 82 20 (nI 0), m56.2) → (mm_wp d sn kX11_hasClause 99 [some (.ref 82), none, some (.int (nI 1)), some (.int (nI 1))] [] m57 (qI P))))))) ∧ (¬ (¬ x1 = nI 98) → (∀ m58 : mm_Mem, m58 = (mm_u2 m1.1 82 17 ((m1.1 82 17) + (nI 1)), m1.2) → (∀ m59 : mm_Mem, m59 = (mm_u2 m58.1 82 18 (nI 0), m58.2) → (∀ m60 : mm_Mem, m60 = (mm_u2 m59.1 82 19 (nI 0), m59.2) → (∀ m61 : mm_Mem, m61 = (mm_u2 m60.1 82 20 (nI 0), m60.2) → (mm_wp d sn kX11_hasClause 99 [some (.ref 82), none, some (.int (nI 1)), some (.int (nI 8))] [] m61 (qI P))))))))))))))) :
    mm_sp (d + 1) sn kX11_hasClause [.ref 82] m (qI P) := by
  have hb := mb_214
  refine wp_in (la := [some (.ref 82), none, none, none]) ⟨⟨Nat.le_of_ble_eq_true rfl, by decide, by decide⟩, rfl⟩ ?_
  refine wp_aload_n hb rfl dX11_hasClause_0 ?_
  refine wp_callV hb (k' := 213) ko_214 lm_11_209 rfl m0_82 (by decide) (Nat.le_of_ble_eq_true rfl) dX11_hasClause_1 (sp_cI (hv.I (Nat.le_refl _) ?_))
  intro x1 m1 hv
  refine wp_istore_n hb rfl dX11_hasClause_4 ?_
  refine wp_iload_n hb rfl dX11_hasClause_5 ?_
  refine wp_bipush hb (x := nI 110) rfl dX11_hasClause_6 ?_
  refine wp_icmp_eq hb (t := 17) ⟨rfl, rfl⟩ dX11_hasClause_8 ⟨fun c2 => ?_, fun c2 => ?_⟩
  · have hv := hv.1 c2
    refine wp_iconst hb (x := nI 1) rfl dX11_hasClause_17 ?_
    refine wp_goto hb (t := 48) ⟨rfl, rfl⟩ dX11_hasClause_18 ?_
    refine wp_istore_n hb rfl dX11_hasClause_48 ?_
    refine wp_iload_n hb rfl dX11_hasClause_49 ?_
    refine wp_bipush hb (x := nI 104) rfl dX11_hasClause_50 ?_
    refine wp_icmp_eq hb (t := 61) ⟨rfl, rfl⟩ dX11_hasClause_52 ⟨fun c3 => ?_, fun c3 => ?_⟩
    · have hv := hv.1 c3
      refine wp_bipush hb (x := nI 8) rfl dX11_hasClause_61 ?_
      refine wp_goto hb (t := 67) ⟨rfl, rfl⟩ dX11_hasClause_63 ?_
      refine wp_istore_n hb rfl dX11_hasClause_67 ?_
      refine wp_iload_n hb rfl dX11_hasClause_68 ?_
      refine wp_if_ne hb (y := 0) (t := 74) ⟨rfl, rfl⟩ dX11_hasClause_69 ⟨fun _ => ?_, fun c => absurd (by decide) c⟩
      refine wp_aload_n hb rfl dX11_hasClause_74 ?_
      refine wp_dupR hb dX11_hasClause_75 ?_
      refine wp_getI hb ko_214 lf_11_206 (by decide) m0_82 dX11_hasClause_76 ?_
      refine wp_iconst hb (x := nI 1) rfl dX11_hasClause_79 ?_
      refine wp_iadd hb dX11_hasClause_80 ?_
      refine wp_putI hb ko_214 lf_11_206 (by decide) m0_82 dX11_hasClause_81 ?_
      have hv := hv _ rfl
      generalize (mm_u2 m1.1 82 17 ((m1.1 82 17) + (nI 1)), m1.2) = m2 at hv ⊢
      refine wp_aload_n hb rfl dX11_hasClause_84 ?_
      refine wp_iconst hb (x := nI 0) rfl dX11_hasClause_85 ?_
      refine wp_putI hb ko_214 lf_11_212 (by decide) m0_82 dX11_hasClause_86 ?_
      have hv := hv _ rfl
      generalize (mm_u2 m2.1 82 18 (nI 0), m2.2) = m3 at hv ⊢
      refine wp_aload_n hb rfl dX11_hasClause_89 ?_
      refine wp_iconst hb (x := nI 0) rfl dX11_hasClause_90 ?_
      refine wp_putI hb ko_214 lf_11_215 (by decide) m0_82 dX11_hasClause_91 ?_
      have hv := hv _ rfl
      generalize (mm_u2 m3.1 82 19 (nI 0), m3.2) = m4 at hv ⊢
      refine wp_aload_n hb rfl dX11_hasClause_94 ?_
      refine wp_iconst hb (x := nI 0) rfl dX11_hasClause_95 ?_
      refine wp_putI hb ko_214 lf_11_218 (by decide) m0_82 dX11_hasClause_96 ?_
      have hv := hv _ rfl
      generalize (mm_u2 m4.1 82 20 (nI 0), m4.2) = m5 at hv ⊢
      exact wp_for (mm_ls_k (mm_ls_f (mm_ls_k (mm_ls_k mm_ls_nil)))) hv
    · have hv := hv.2 c3
      refine wp_iload_n hb rfl dX11_hasClause_55 ?_
      refine wp_bipush hb (x := nI 98) rfl dX11_hasClause_56 ?_
      refine wp_icmp_ne hb (t := 66) ⟨rfl, rfl⟩ dX11_hasClause_58 ⟨fun c4 => ?_, fun c4 => ?_⟩
      · have hv := hv.1 c4
        refine wp_iload_n hb rfl dX11_hasClause_66 ?_
        refine wp_istore_n hb rfl dX11_hasClause_67 ?_
        refine wp_iload_n hb rfl dX11_hasClause_68 ?_
        refine wp_if_ne hb (y := 0) (t := 74) ⟨rfl, rfl⟩ dX11_hasClause_69 ⟨fun _ => ?_, fun c => absurd (by decide) c⟩
        refine wp_aload_n hb rfl dX11_hasClause_74 ?_
        refine wp_dupR hb dX11_hasClause_75 ?_
        refine wp_getI hb ko_214 lf_11_206 (by decide) m0_82 dX11_hasClause_76 ?_
        refine wp_iconst hb (x := nI 1) rfl dX11_hasClause_79 ?_
        refine wp_iadd hb dX11_hasClause_80 ?_
        refine wp_putI hb ko_214 lf_11_206 (by decide) m0_82 dX11_hasClause_81 ?_
        have hv := hv _ rfl
        generalize (mm_u2 m1.1 82 17 ((m1.1 82 17) + (nI 1)), m1.2) = m6 at hv ⊢
        refine wp_aload_n hb rfl dX11_hasClause_84 ?_
        refine wp_iconst hb (x := nI 0) rfl dX11_hasClause_85 ?_
        refine wp_putI hb ko_214 lf_11_212 (by decide) m0_82 dX11_hasClause_86 ?_
        have hv := hv _ rfl
        generalize (mm_u2 m6.1 82 18 (nI 0), m6.2) = m7 at hv ⊢
        refine wp_aload_n hb rfl dX11_hasClause_89 ?_
        refine wp_iconst hb (x := nI 0) rfl dX11_hasClause_90 ?_
        refine wp_putI hb ko_214 lf_11_215 (by decide) m0_82 dX11_hasClause_91 ?_
        have hv := hv _ rfl
        generalize (mm_u2 m7.1 82 19 (nI 0), m7.2) = m8 at hv ⊢
        refine wp_aload_n hb rfl dX11_hasClause_94 ?_
        refine wp_iconst hb (x := nI 0) rfl dX11_hasClause_95 ?_
        refine wp_putI hb ko_214 lf_11_218 (by decide) m0_82 dX11_hasClause_96 ?_
        have hv := hv _ rfl
        generalize (mm_u2 m8.1 82 20 (nI 0), m8.2) = m9 at hv ⊢
        exact wp_for (mm_ls_k (mm_ls_f (mm_ls_k (mm_ls_k mm_ls_nil)))) hv
      · have hv := hv.2 c4
        refine wp_bipush hb (x := nI 8) rfl dX11_hasClause_61 ?_
        refine wp_goto hb (t := 67) ⟨rfl, rfl⟩ dX11_hasClause_63 ?_
        refine wp_istore_n hb rfl dX11_hasClause_67 ?_
        refine wp_iload_n hb rfl dX11_hasClause_68 ?_
        refine wp_if_ne hb (y := 0) (t := 74) ⟨rfl, rfl⟩ dX11_hasClause_69 ⟨fun _ => ?_, fun c => absurd (by decide) c⟩
        refine wp_aload_n hb rfl dX11_hasClause_74 ?_
        refine wp_dupR hb dX11_hasClause_75 ?_
        refine wp_getI hb ko_214 lf_11_206 (by decide) m0_82 dX11_hasClause_76 ?_
        refine wp_iconst hb (x := nI 1) rfl dX11_hasClause_79 ?_
        refine wp_iadd hb dX11_hasClause_80 ?_
        refine wp_putI hb ko_214 lf_11_206 (by decide) m0_82 dX11_hasClause_81 ?_
        have hv := hv _ rfl
        generalize (mm_u2 m1.1 82 17 ((m1.1 82 17) + (nI 1)), m1.2) = m10 at hv ⊢
        refine wp_aload_n hb rfl dX11_hasClause_84 ?_
        refine wp_iconst hb (x := nI 0) rfl dX11_hasClause_85 ?_
        refine wp_putI hb ko_214 lf_11_212 (by decide) m0_82 dX11_hasClause_86 ?_
        have hv := hv _ rfl
        generalize (mm_u2 m10.1 82 18 (nI 0), m10.2) = m11 at hv ⊢
        refine wp_aload_n hb rfl dX11_hasClause_89 ?_
        refine wp_iconst hb (x := nI 0) rfl dX11_hasClause_90 ?_
        refine wp_putI hb ko_214 lf_11_215 (by decide) m0_82 dX11_hasClause_91 ?_
        have hv := hv _ rfl
        generalize (mm_u2 m11.1 82 19 (nI 0), m11.2) = m12 at hv ⊢
        refine wp_aload_n hb rfl dX11_hasClause_94 ?_
        refine wp_iconst hb (x := nI 0) rfl dX11_hasClause_95 ?_
        refine wp_putI hb ko_214 lf_11_218 (by decide) m0_82 dX11_hasClause_96 ?_
        have hv := hv _ rfl
        generalize (mm_u2 m12.1 82 20 (nI 0), m12.2) = m13 at hv ⊢
        exact wp_for (mm_ls_k (mm_ls_f (mm_ls_k (mm_ls_k mm_ls_nil)))) hv
  · have hv := hv.2 c2
    refine wp_iload_n hb rfl dX11_hasClause_11 ?_
    refine wp_bipush hb (x := nI 98) rfl dX11_hasClause_12 ?_
    refine wp_icmp_ne hb (t := 21) ⟨rfl, rfl⟩ dX11_hasClause_14 ⟨fun c5 => ?_, fun c5 => ?_⟩
    · have hv := hv.1 c5
      refine wp_iload_n hb rfl dX11_hasClause_21 ?_
      refine wp_bipush hb (x := nI 103) rfl dX11_hasClause_22 ?_
      refine wp_icmp_eq hb (t := 33) ⟨rfl, rfl⟩ dX11_hasClause_24 ⟨fun c6 => ?_, fun c6 => ?_⟩
      · have hv := hv.1 c6
        refine wp_iconst hb (x := nI 2) rfl dX11_hasClause_33 ?_
        refine wp_goto hb (t := 48) ⟨rfl, rfl⟩ dX11_hasClause_34 ?_
        refine wp_istore_n hb rfl dX11_hasClause_48 ?_
        refine wp_iload_n hb rfl dX11_hasClause_49 ?_
        refine wp_bipush hb (x := nI 104) rfl dX11_hasClause_50 ?_
        refine wp_icmp_eq hb (t := 61) ⟨rfl, rfl⟩ dX11_hasClause_52 ⟨fun c7 => ?_, fun c7 => ?_⟩
        · have hv := hv.1 c7
          refine wp_bipush hb (x := nI 8) rfl dX11_hasClause_61 ?_
          refine wp_goto hb (t := 67) ⟨rfl, rfl⟩ dX11_hasClause_63 ?_
          refine wp_istore_n hb rfl dX11_hasClause_67 ?_
          refine wp_iload_n hb rfl dX11_hasClause_68 ?_
          refine wp_if_ne hb (y := 0) (t := 74) ⟨rfl, rfl⟩ dX11_hasClause_69 ⟨fun _ => ?_, fun c => absurd (by decide) c⟩
          refine wp_aload_n hb rfl dX11_hasClause_74 ?_
          refine wp_dupR hb dX11_hasClause_75 ?_
          refine wp_getI hb ko_214 lf_11_206 (by decide) m0_82 dX11_hasClause_76 ?_
          refine wp_iconst hb (x := nI 1) rfl dX11_hasClause_79 ?_
          refine wp_iadd hb dX11_hasClause_80 ?_
          refine wp_putI hb ko_214 lf_11_206 (by decide) m0_82 dX11_hasClause_81 ?_
          have hv := hv _ rfl
          generalize (mm_u2 m1.1 82 17 ((m1.1 82 17) + (nI 1)), m1.2) = m14 at hv ⊢
          refine wp_aload_n hb rfl dX11_hasClause_84 ?_
          refine wp_iconst hb (x := nI 0) rfl dX11_hasClause_85 ?_
          refine wp_putI hb ko_214 lf_11_212 (by decide) m0_82 dX11_hasClause_86 ?_
          have hv := hv _ rfl
          generalize (mm_u2 m14.1 82 18 (nI 0), m14.2) = m15 at hv ⊢
          refine wp_aload_n hb rfl dX11_hasClause_89 ?_
          refine wp_iconst hb (x := nI 0) rfl dX11_hasClause_90 ?_
          refine wp_putI hb ko_214 lf_11_215 (by decide) m0_82 dX11_hasClause_91 ?_
          have hv := hv _ rfl
          generalize (mm_u2 m15.1 82 19 (nI 0), m15.2) = m16 at hv ⊢
          refine wp_aload_n hb rfl dX11_hasClause_94 ?_
          refine wp_iconst hb (x := nI 0) rfl dX11_hasClause_95 ?_
          refine wp_putI hb ko_214 lf_11_218 (by decide) m0_82 dX11_hasClause_96 ?_
          have hv := hv _ rfl
          generalize (mm_u2 m16.1 82 20 (nI 0), m16.2) = m17 at hv ⊢
          exact wp_for (mm_ls_k (mm_ls_f (mm_ls_k (mm_ls_k mm_ls_nil)))) hv
        · have hv := hv.2 c7
          refine wp_iload_n hb rfl dX11_hasClause_55 ?_
          refine wp_bipush hb (x := nI 98) rfl dX11_hasClause_56 ?_
          refine wp_icmp_ne hb (t := 66) ⟨rfl, rfl⟩ dX11_hasClause_58 ⟨fun c8 => ?_, fun c8 => ?_⟩
          · have hv := hv.1 c8
            refine wp_iload_n hb rfl dX11_hasClause_66 ?_
            refine wp_istore_n hb rfl dX11_hasClause_67 ?_
            refine wp_iload_n hb rfl dX11_hasClause_68 ?_
            refine wp_if_ne hb (y := 0) (t := 74) ⟨rfl, rfl⟩ dX11_hasClause_69 ⟨fun _ => ?_, fun c => absurd (by decide) c⟩
            refine wp_aload_n hb rfl dX11_hasClause_74 ?_
            refine wp_dupR hb dX11_hasClause_75 ?_
            refine wp_getI hb ko_214 lf_11_206 (by decide) m0_82 dX11_hasClause_76 ?_
            refine wp_iconst hb (x := nI 1) rfl dX11_hasClause_79 ?_
            refine wp_iadd hb dX11_hasClause_80 ?_
            refine wp_putI hb ko_214 lf_11_206 (by decide) m0_82 dX11_hasClause_81 ?_
            have hv := hv _ rfl
            generalize (mm_u2 m1.1 82 17 ((m1.1 82 17) + (nI 1)), m1.2) = m18 at hv ⊢
            refine wp_aload_n hb rfl dX11_hasClause_84 ?_
            refine wp_iconst hb (x := nI 0) rfl dX11_hasClause_85 ?_
            refine wp_putI hb ko_214 lf_11_212 (by decide) m0_82 dX11_hasClause_86 ?_
            have hv := hv _ rfl
            generalize (mm_u2 m18.1 82 18 (nI 0), m18.2) = m19 at hv ⊢
            refine wp_aload_n hb rfl dX11_hasClause_89 ?_
            refine wp_iconst hb (x := nI 0) rfl dX11_hasClause_90 ?_
            refine wp_putI hb ko_214 lf_11_215 (by decide) m0_82 dX11_hasClause_91 ?_
            have hv := hv _ rfl
            generalize (mm_u2 m19.1 82 19 (nI 0), m19.2) = m20 at hv ⊢
            refine wp_aload_n hb rfl dX11_hasClause_94 ?_
            refine wp_iconst hb (x := nI 0) rfl dX11_hasClause_95 ?_
            refine wp_putI hb ko_214 lf_11_218 (by decide) m0_82 dX11_hasClause_96 ?_
            have hv := hv _ rfl
            generalize (mm_u2 m20.1 82 20 (nI 0), m20.2) = m21 at hv ⊢
            exact wp_for (mm_ls_k (mm_ls_f (mm_ls_k (mm_ls_k mm_ls_nil)))) hv
          · have hv := hv.2 c8
            refine wp_bipush hb (x := nI 8) rfl dX11_hasClause_61 ?_
            refine wp_goto hb (t := 67) ⟨rfl, rfl⟩ dX11_hasClause_63 ?_
            refine wp_istore_n hb rfl dX11_hasClause_67 ?_
            refine wp_iload_n hb rfl dX11_hasClause_68 ?_
            refine wp_if_ne hb (y := 0) (t := 74) ⟨rfl, rfl⟩ dX11_hasClause_69 ⟨fun _ => ?_, fun c => absurd (by decide) c⟩
            refine wp_aload_n hb rfl dX11_hasClause_74 ?_
            refine wp_dupR hb dX11_hasClause_75 ?_
            refine wp_getI hb ko_214 lf_11_206 (by decide) m0_82 dX11_hasClause_76 ?_
            refine wp_iconst hb (x := nI 1) rfl dX11_hasClause_79 ?_
            refine wp_iadd hb dX11_hasClause_80 ?_
            refine wp_putI hb ko_214 lf_11_206 (by decide) m0_82 dX11_hasClause_81 ?_
            have hv := hv _ rfl
            generalize (mm_u2 m1.1 82 17 ((m1.1 82 17) + (nI 1)), m1.2) = m22 at hv ⊢
            refine wp_aload_n hb rfl dX11_hasClause_84 ?_
            refine wp_iconst hb (x := nI 0) rfl dX11_hasClause_85 ?_
            refine wp_putI hb ko_214 lf_11_212 (by decide) m0_82 dX11_hasClause_86 ?_
            have hv := hv _ rfl
            generalize (mm_u2 m22.1 82 18 (nI 0), m22.2) = m23 at hv ⊢
            refine wp_aload_n hb rfl dX11_hasClause_89 ?_
            refine wp_iconst hb (x := nI 0) rfl dX11_hasClause_90 ?_
            refine wp_putI hb ko_214 lf_11_215 (by decide) m0_82 dX11_hasClause_91 ?_
            have hv := hv _ rfl
            generalize (mm_u2 m23.1 82 19 (nI 0), m23.2) = m24 at hv ⊢
            refine wp_aload_n hb rfl dX11_hasClause_94 ?_
            refine wp_iconst hb (x := nI 0) rfl dX11_hasClause_95 ?_
            refine wp_putI hb ko_214 lf_11_218 (by decide) m0_82 dX11_hasClause_96 ?_
            have hv := hv _ rfl
            generalize (mm_u2 m24.1 82 20 (nI 0), m24.2) = m25 at hv ⊢
            exact wp_for (mm_ls_k (mm_ls_f (mm_ls_k (mm_ls_k mm_ls_nil)))) hv
      · have hv := hv.2 c6
        refine wp_iload_n hb rfl dX11_hasClause_27 ?_
        refine wp_bipush hb (x := nI 107) rfl dX11_hasClause_28 ?_
        refine wp_icmp_ne hb (t := 37) ⟨rfl, rfl⟩ dX11_hasClause_30 ⟨fun c9 => ?_, fun c9 => ?_⟩
        · have hv := hv.1 c9
          refine wp_iload_n hb rfl dX11_hasClause_37 ?_
          refine wp_bipush hb (x := nI 104) rfl dX11_hasClause_38 ?_
          refine wp_icmp_ne hb (t := 47) ⟨rfl, rfl⟩ dX11_hasClause_40 ⟨fun c10 => ?_, fun c10 => ?_⟩
          · have hv := hv.1 c10
            refine wp_iconst hb (x := nI 0) rfl dX11_hasClause_47 ?_
            refine wp_istore_n hb rfl dX11_hasClause_48 ?_
            refine wp_iload_n hb rfl dX11_hasClause_49 ?_
            refine wp_bipush hb (x := nI 104) rfl dX11_hasClause_50 ?_
            refine wp_icmp_eq hb (t := 61) ⟨rfl, rfl⟩ dX11_hasClause_52 ⟨fun c11 => ?_, fun c11 => ?_⟩
            · have hv := hv.1 c11
              refine wp_bipush hb (x := nI 8) rfl dX11_hasClause_61 ?_
              refine wp_goto hb (t := 67) ⟨rfl, rfl⟩ dX11_hasClause_63 ?_
              refine wp_istore_n hb rfl dX11_hasClause_67 ?_
              refine wp_iload_n hb rfl dX11_hasClause_68 ?_
              refine wp_if_ne hb (y := 0) (t := 74) ⟨rfl, rfl⟩ dX11_hasClause_69 ⟨fun c => absurd c (by decide), fun _ => ?_⟩
              refine wp_iconst hb (x := nI 0) rfl dX11_hasClause_72 ?_
              exact wp_retZ hb rfl (by decide) dX11_hasClause_73 hv
            · have hv := hv.2 c11
              refine wp_iload_n hb rfl dX11_hasClause_55 ?_
              refine wp_bipush hb (x := nI 98) rfl dX11_hasClause_56 ?_
              refine wp_icmp_ne hb (t := 66) ⟨rfl, rfl⟩ dX11_hasClause_58 ⟨fun c12 => ?_, fun c12 => ?_⟩
              · have hv := hv.1 c12
                refine wp_iload_n hb rfl dX11_hasClause_66 ?_
                refine wp_istore_n hb rfl dX11_hasClause_67 ?_
                refine wp_iload_n hb rfl dX11_hasClause_68 ?_
                refine wp_if_ne hb (y := 0) (t := 74) ⟨rfl, rfl⟩ dX11_hasClause_69 ⟨fun c => absurd c (by decide), fun _ => ?_⟩
                refine wp_iconst hb (x := nI 0) rfl dX11_hasClause_72 ?_
                exact wp_retZ hb rfl (by decide) dX11_hasClause_73 hv
              · have hv := hv.2 c12
                refine wp_bipush hb (x := nI 8) rfl dX11_hasClause_61 ?_
                refine wp_goto hb (t := 67) ⟨rfl, rfl⟩ dX11_hasClause_63 ?_
                refine wp_istore_n hb rfl dX11_hasClause_67 ?_
                refine wp_iload_n hb rfl dX11_hasClause_68 ?_
                refine wp_if_ne hb (y := 0) (t := 74) ⟨rfl, rfl⟩ dX11_hasClause_69 ⟨fun c => absurd c (by decide), fun _ => ?_⟩
                refine wp_iconst hb (x := nI 0) rfl dX11_hasClause_72 ?_
                exact wp_retZ hb rfl (by decide) dX11_hasClause_73 hv
          · have hv := hv.2 c10
            refine wp_iconst hb (x := nI 3) rfl dX11_hasClause_43 ?_
            refine wp_goto hb (t := 48) ⟨rfl, rfl⟩ dX11_hasClause_44 ?_
            refine wp_istore_n hb rfl dX11_hasClause_48 ?_
            refine wp_iload_n hb rfl dX11_hasClause_49 ?_
            refine wp_bipush hb (x := nI 104) rfl dX11_hasClause_50 ?_
            refine wp_icmp_eq hb (t := 61) ⟨rfl, rfl⟩ dX11_hasClause_52 ⟨fun c13 => ?_, fun c13 => ?_⟩
            · have hv := hv.1 c13
              refine wp_bipush hb (x := nI 8) rfl dX11_hasClause_61 ?_
              refine wp_goto hb (t := 67) ⟨rfl, rfl⟩ dX11_hasClause_63 ?_
              refine wp_istore_n hb rfl dX11_hasClause_67 ?_
              refine wp_iload_n hb rfl dX11_hasClause_68 ?_
              refine wp_if_ne hb (y := 0) (t := 74) ⟨rfl, rfl⟩ dX11_hasClause_69 ⟨fun _ => ?_, fun c => absurd (by decide) c⟩
              refine wp_aload_n hb rfl dX11_hasClause_74 ?_
              refine wp_dupR hb dX11_hasClause_75 ?_
              refine wp_getI hb ko_214 lf_11_206 (by decide) m0_82 dX11_hasClause_76 ?_
              refine wp_iconst hb (x := nI 1) rfl dX11_hasClause_79 ?_
              refine wp_iadd hb dX11_hasClause_80 ?_
              refine wp_putI hb ko_214 lf_11_206 (by decide) m0_82 dX11_hasClause_81 ?_
              have hv := hv _ rfl
              generalize (mm_u2 m1.1 82 17 ((m1.1 82 17) + (nI 1)), m1.2) = m26 at hv ⊢
              refine wp_aload_n hb rfl dX11_hasClause_84 ?_
              refine wp_iconst hb (x := nI 0) rfl dX11_hasClause_85 ?_
              refine wp_putI hb ko_214 lf_11_212 (by decide) m0_82 dX11_hasClause_86 ?_
              have hv := hv _ rfl
              generalize (mm_u2 m26.1 82 18 (nI 0), m26.2) = m27 at hv ⊢
              refine wp_aload_n hb rfl dX11_hasClause_89 ?_
              refine wp_iconst hb (x := nI 0) rfl dX11_hasClause_90 ?_
              refine wp_putI hb ko_214 lf_11_215 (by decide) m0_82 dX11_hasClause_91 ?_
              have hv := hv _ rfl
              generalize (mm_u2 m27.1 82 19 (nI 0), m27.2) = m28 at hv ⊢
              refine wp_aload_n hb rfl dX11_hasClause_94 ?_
              refine wp_iconst hb (x := nI 0) rfl dX11_hasClause_95 ?_
              refine wp_putI hb ko_214 lf_11_218 (by decide) m0_82 dX11_hasClause_96 ?_
              have hv := hv _ rfl
              generalize (mm_u2 m28.1 82 20 (nI 0), m28.2) = m29 at hv ⊢
              exact wp_for (mm_ls_k (mm_ls_f (mm_ls_k (mm_ls_k mm_ls_nil)))) hv
            · have hv := hv.2 c13
              refine wp_iload_n hb rfl dX11_hasClause_55 ?_
              refine wp_bipush hb (x := nI 98) rfl dX11_hasClause_56 ?_
              refine wp_icmp_ne hb (t := 66) ⟨rfl, rfl⟩ dX11_hasClause_58 ⟨fun c14 => ?_, fun c14 => ?_⟩
              · have hv := hv.1 c14
                refine wp_iload_n hb rfl dX11_hasClause_66 ?_
                refine wp_istore_n hb rfl dX11_hasClause_67 ?_
                refine wp_iload_n hb rfl dX11_hasClause_68 ?_
                refine wp_if_ne hb (y := 0) (t := 74) ⟨rfl, rfl⟩ dX11_hasClause_69 ⟨fun _ => ?_, fun c => absurd (by decide) c⟩
                refine wp_aload_n hb rfl dX11_hasClause_74 ?_
                refine wp_dupR hb dX11_hasClause_75 ?_
                refine wp_getI hb ko_214 lf_11_206 (by decide) m0_82 dX11_hasClause_76 ?_
                refine wp_iconst hb (x := nI 1) rfl dX11_hasClause_79 ?_
                refine wp_iadd hb dX11_hasClause_80 ?_
                refine wp_putI hb ko_214 lf_11_206 (by decide) m0_82 dX11_hasClause_81 ?_
                have hv := hv _ rfl
                generalize (mm_u2 m1.1 82 17 ((m1.1 82 17) + (nI 1)), m1.2) = m30 at hv ⊢
                refine wp_aload_n hb rfl dX11_hasClause_84 ?_
                refine wp_iconst hb (x := nI 0) rfl dX11_hasClause_85 ?_
                refine wp_putI hb ko_214 lf_11_212 (by decide) m0_82 dX11_hasClause_86 ?_
                have hv := hv _ rfl
                generalize (mm_u2 m30.1 82 18 (nI 0), m30.2) = m31 at hv ⊢
                refine wp_aload_n hb rfl dX11_hasClause_89 ?_
                refine wp_iconst hb (x := nI 0) rfl dX11_hasClause_90 ?_
                refine wp_putI hb ko_214 lf_11_215 (by decide) m0_82 dX11_hasClause_91 ?_
                have hv := hv _ rfl
                generalize (mm_u2 m31.1 82 19 (nI 0), m31.2) = m32 at hv ⊢
                refine wp_aload_n hb rfl dX11_hasClause_94 ?_
                refine wp_iconst hb (x := nI 0) rfl dX11_hasClause_95 ?_
                refine wp_putI hb ko_214 lf_11_218 (by decide) m0_82 dX11_hasClause_96 ?_
                have hv := hv _ rfl
                generalize (mm_u2 m32.1 82 20 (nI 0), m32.2) = m33 at hv ⊢
                exact wp_for (mm_ls_k (mm_ls_f (mm_ls_k (mm_ls_k mm_ls_nil)))) hv
              · have hv := hv.2 c14
                refine wp_bipush hb (x := nI 8) rfl dX11_hasClause_61 ?_
                refine wp_goto hb (t := 67) ⟨rfl, rfl⟩ dX11_hasClause_63 ?_
                refine wp_istore_n hb rfl dX11_hasClause_67 ?_
                refine wp_iload_n hb rfl dX11_hasClause_68 ?_
                refine wp_if_ne hb (y := 0) (t := 74) ⟨rfl, rfl⟩ dX11_hasClause_69 ⟨fun _ => ?_, fun c => absurd (by decide) c⟩
                refine wp_aload_n hb rfl dX11_hasClause_74 ?_
                refine wp_dupR hb dX11_hasClause_75 ?_
                refine wp_getI hb ko_214 lf_11_206 (by decide) m0_82 dX11_hasClause_76 ?_
                refine wp_iconst hb (x := nI 1) rfl dX11_hasClause_79 ?_
                refine wp_iadd hb dX11_hasClause_80 ?_
                refine wp_putI hb ko_214 lf_11_206 (by decide) m0_82 dX11_hasClause_81 ?_
                have hv := hv _ rfl
                generalize (mm_u2 m1.1 82 17 ((m1.1 82 17) + (nI 1)), m1.2) = m34 at hv ⊢
                refine wp_aload_n hb rfl dX11_hasClause_84 ?_
                refine wp_iconst hb (x := nI 0) rfl dX11_hasClause_85 ?_
                refine wp_putI hb ko_214 lf_11_212 (by decide) m0_82 dX11_hasClause_86 ?_
                have hv := hv _ rfl
                generalize (mm_u2 m34.1 82 18 (nI 0), m34.2) = m35 at hv ⊢
                refine wp_aload_n hb rfl dX11_hasClause_89 ?_
                refine wp_iconst hb (x := nI 0) rfl dX11_hasClause_90 ?_
                refine wp_putI hb ko_214 lf_11_215 (by decide) m0_82 dX11_hasClause_91 ?_
                have hv := hv _ rfl
                generalize (mm_u2 m35.1 82 19 (nI 0), m35.2) = m36 at hv ⊢
                refine wp_aload_n hb rfl dX11_hasClause_94 ?_
                refine wp_iconst hb (x := nI 0) rfl dX11_hasClause_95 ?_
                refine wp_putI hb ko_214 lf_11_218 (by decide) m0_82 dX11_hasClause_96 ?_
                have hv := hv _ rfl
                generalize (mm_u2 m36.1 82 20 (nI 0), m36.2) = m37 at hv ⊢
                exact wp_for (mm_ls_k (mm_ls_f (mm_ls_k (mm_ls_k mm_ls_nil)))) hv
        · have hv := hv.2 c9
          refine wp_iconst hb (x := nI 2) rfl dX11_hasClause_33 ?_
          refine wp_goto hb (t := 48) ⟨rfl, rfl⟩ dX11_hasClause_34 ?_
          refine wp_istore_n hb rfl dX11_hasClause_48 ?_
          refine wp_iload_n hb rfl dX11_hasClause_49 ?_
          refine wp_bipush hb (x := nI 104) rfl dX11_hasClause_50 ?_
          refine wp_icmp_eq hb (t := 61) ⟨rfl, rfl⟩ dX11_hasClause_52 ⟨fun c15 => ?_, fun c15 => ?_⟩
          · have hv := hv.1 c15
            refine wp_bipush hb (x := nI 8) rfl dX11_hasClause_61 ?_
            refine wp_goto hb (t := 67) ⟨rfl, rfl⟩ dX11_hasClause_63 ?_
            refine wp_istore_n hb rfl dX11_hasClause_67 ?_
            refine wp_iload_n hb rfl dX11_hasClause_68 ?_
            refine wp_if_ne hb (y := 0) (t := 74) ⟨rfl, rfl⟩ dX11_hasClause_69 ⟨fun _ => ?_, fun c => absurd (by decide) c⟩
            refine wp_aload_n hb rfl dX11_hasClause_74 ?_
            refine wp_dupR hb dX11_hasClause_75 ?_
            refine wp_getI hb ko_214 lf_11_206 (by decide) m0_82 dX11_hasClause_76 ?_
            refine wp_iconst hb (x := nI 1) rfl dX11_hasClause_79 ?_
            refine wp_iadd hb dX11_hasClause_80 ?_
            refine wp_putI hb ko_214 lf_11_206 (by decide) m0_82 dX11_hasClause_81 ?_
            have hv := hv _ rfl
            generalize (mm_u2 m1.1 82 17 ((m1.1 82 17) + (nI 1)), m1.2) = m38 at hv ⊢
            refine wp_aload_n hb rfl dX11_hasClause_84 ?_
            refine wp_iconst hb (x := nI 0) rfl dX11_hasClause_85 ?_
            refine wp_putI hb ko_214 lf_11_212 (by decide) m0_82 dX11_hasClause_86 ?_
            have hv := hv _ rfl
            generalize (mm_u2 m38.1 82 18 (nI 0), m38.2) = m39 at hv ⊢
            refine wp_aload_n hb rfl dX11_hasClause_89 ?_
            refine wp_iconst hb (x := nI 0) rfl dX11_hasClause_90 ?_
            refine wp_putI hb ko_214 lf_11_215 (by decide) m0_82 dX11_hasClause_91 ?_
            have hv := hv _ rfl
            generalize (mm_u2 m39.1 82 19 (nI 0), m39.2) = m40 at hv ⊢
            refine wp_aload_n hb rfl dX11_hasClause_94 ?_
            refine wp_iconst hb (x := nI 0) rfl dX11_hasClause_95 ?_
            refine wp_putI hb ko_214 lf_11_218 (by decide) m0_82 dX11_hasClause_96 ?_
            have hv := hv _ rfl
            generalize (mm_u2 m40.1 82 20 (nI 0), m40.2) = m41 at hv ⊢
            exact wp_for (mm_ls_k (mm_ls_f (mm_ls_k (mm_ls_k mm_ls_nil)))) hv
          · have hv := hv.2 c15
            refine wp_iload_n hb rfl dX11_hasClause_55 ?_
            refine wp_bipush hb (x := nI 98) rfl dX11_hasClause_56 ?_
            refine wp_icmp_ne hb (t := 66) ⟨rfl, rfl⟩ dX11_hasClause_58 ⟨fun c16 => ?_, fun c16 => ?_⟩
            · have hv := hv.1 c16
              refine wp_iload_n hb rfl dX11_hasClause_66 ?_
              refine wp_istore_n hb rfl dX11_hasClause_67 ?_
              refine wp_iload_n hb rfl dX11_hasClause_68 ?_
              refine wp_if_ne hb (y := 0) (t := 74) ⟨rfl, rfl⟩ dX11_hasClause_69 ⟨fun _ => ?_, fun c => absurd (by decide) c⟩
              refine wp_aload_n hb rfl dX11_hasClause_74 ?_
              refine wp_dupR hb dX11_hasClause_75 ?_
              refine wp_getI hb ko_214 lf_11_206 (by decide) m0_82 dX11_hasClause_76 ?_
              refine wp_iconst hb (x := nI 1) rfl dX11_hasClause_79 ?_
              refine wp_iadd hb dX11_hasClause_80 ?_
              refine wp_putI hb ko_214 lf_11_206 (by decide) m0_82 dX11_hasClause_81 ?_
              have hv := hv _ rfl
              generalize (mm_u2 m1.1 82 17 ((m1.1 82 17) + (nI 1)), m1.2) = m42 at hv ⊢
              refine wp_aload_n hb rfl dX11_hasClause_84 ?_
              refine wp_iconst hb (x := nI 0) rfl dX11_hasClause_85 ?_
              refine wp_putI hb ko_214 lf_11_212 (by decide) m0_82 dX11_hasClause_86 ?_
              have hv := hv _ rfl
              generalize (mm_u2 m42.1 82 18 (nI 0), m42.2) = m43 at hv ⊢
              refine wp_aload_n hb rfl dX11_hasClause_89 ?_
              refine wp_iconst hb (x := nI 0) rfl dX11_hasClause_90 ?_
              refine wp_putI hb ko_214 lf_11_215 (by decide) m0_82 dX11_hasClause_91 ?_
              have hv := hv _ rfl
              generalize (mm_u2 m43.1 82 19 (nI 0), m43.2) = m44 at hv ⊢
              refine wp_aload_n hb rfl dX11_hasClause_94 ?_
              refine wp_iconst hb (x := nI 0) rfl dX11_hasClause_95 ?_
              refine wp_putI hb ko_214 lf_11_218 (by decide) m0_82 dX11_hasClause_96 ?_
              have hv := hv _ rfl
              generalize (mm_u2 m44.1 82 20 (nI 0), m44.2) = m45 at hv ⊢
              exact wp_for (mm_ls_k (mm_ls_f (mm_ls_k (mm_ls_k mm_ls_nil)))) hv
            · have hv := hv.2 c16
              refine wp_bipush hb (x := nI 8) rfl dX11_hasClause_61 ?_
              refine wp_goto hb (t := 67) ⟨rfl, rfl⟩ dX11_hasClause_63 ?_
              refine wp_istore_n hb rfl dX11_hasClause_67 ?_
              refine wp_iload_n hb rfl dX11_hasClause_68 ?_
              refine wp_if_ne hb (y := 0) (t := 74) ⟨rfl, rfl⟩ dX11_hasClause_69 ⟨fun _ => ?_, fun c => absurd (by decide) c⟩
              refine wp_aload_n hb rfl dX11_hasClause_74 ?_
              refine wp_dupR hb dX11_hasClause_75 ?_
              refine wp_getI hb ko_214 lf_11_206 (by decide) m0_82 dX11_hasClause_76 ?_
              refine wp_iconst hb (x := nI 1) rfl dX11_hasClause_79 ?_
              refine wp_iadd hb dX11_hasClause_80 ?_
              refine wp_putI hb ko_214 lf_11_206 (by decide) m0_82 dX11_hasClause_81 ?_
              have hv := hv _ rfl
              generalize (mm_u2 m1.1 82 17 ((m1.1 82 17) + (nI 1)), m1.2) = m46 at hv ⊢
              refine wp_aload_n hb rfl dX11_hasClause_84 ?_
              refine wp_iconst hb (x := nI 0) rfl dX11_hasClause_85 ?_
              refine wp_putI hb ko_214 lf_11_212 (by decide) m0_82 dX11_hasClause_86 ?_
              have hv := hv _ rfl
              generalize (mm_u2 m46.1 82 18 (nI 0), m46.2) = m47 at hv ⊢
              refine wp_aload_n hb rfl dX11_hasClause_89 ?_
              refine wp_iconst hb (x := nI 0) rfl dX11_hasClause_90 ?_
              refine wp_putI hb ko_214 lf_11_215 (by decide) m0_82 dX11_hasClause_91 ?_
              have hv := hv _ rfl
              generalize (mm_u2 m47.1 82 19 (nI 0), m47.2) = m48 at hv ⊢
              refine wp_aload_n hb rfl dX11_hasClause_94 ?_
              refine wp_iconst hb (x := nI 0) rfl dX11_hasClause_95 ?_
              refine wp_putI hb ko_214 lf_11_218 (by decide) m0_82 dX11_hasClause_96 ?_
              have hv := hv _ rfl
              generalize (mm_u2 m48.1 82 20 (nI 0), m48.2) = m49 at hv ⊢
              exact wp_for (mm_ls_k (mm_ls_f (mm_ls_k (mm_ls_k mm_ls_nil)))) hv
    · have hv := hv.2 c5
      refine wp_iconst hb (x := nI 1) rfl dX11_hasClause_17 ?_
      refine wp_goto hb (t := 48) ⟨rfl, rfl⟩ dX11_hasClause_18 ?_
      refine wp_istore_n hb rfl dX11_hasClause_48 ?_
      refine wp_iload_n hb rfl dX11_hasClause_49 ?_
      refine wp_bipush hb (x := nI 104) rfl dX11_hasClause_50 ?_
      refine wp_icmp_eq hb (t := 61) ⟨rfl, rfl⟩ dX11_hasClause_52 ⟨fun c17 => ?_, fun c17 => ?_⟩
      · have hv := hv.1 c17
        refine wp_bipush hb (x := nI 8) rfl dX11_hasClause_61 ?_
        refine wp_goto hb (t := 67) ⟨rfl, rfl⟩ dX11_hasClause_63 ?_
        refine wp_istore_n hb rfl dX11_hasClause_67 ?_
        refine wp_iload_n hb rfl dX11_hasClause_68 ?_
        refine wp_if_ne hb (y := 0) (t := 74) ⟨rfl, rfl⟩ dX11_hasClause_69 ⟨fun _ => ?_, fun c => absurd (by decide) c⟩
        refine wp_aload_n hb rfl dX11_hasClause_74 ?_
        refine wp_dupR hb dX11_hasClause_75 ?_
        refine wp_getI hb ko_214 lf_11_206 (by decide) m0_82 dX11_hasClause_76 ?_
        refine wp_iconst hb (x := nI 1) rfl dX11_hasClause_79 ?_
        refine wp_iadd hb dX11_hasClause_80 ?_
        refine wp_putI hb ko_214 lf_11_206 (by decide) m0_82 dX11_hasClause_81 ?_
        have hv := hv _ rfl
        generalize (mm_u2 m1.1 82 17 ((m1.1 82 17) + (nI 1)), m1.2) = m50 at hv ⊢
        refine wp_aload_n hb rfl dX11_hasClause_84 ?_
        refine wp_iconst hb (x := nI 0) rfl dX11_hasClause_85 ?_
        refine wp_putI hb ko_214 lf_11_212 (by decide) m0_82 dX11_hasClause_86 ?_
        have hv := hv _ rfl
        generalize (mm_u2 m50.1 82 18 (nI 0), m50.2) = m51 at hv ⊢
        refine wp_aload_n hb rfl dX11_hasClause_89 ?_
        refine wp_iconst hb (x := nI 0) rfl dX11_hasClause_90 ?_
        refine wp_putI hb ko_214 lf_11_215 (by decide) m0_82 dX11_hasClause_91 ?_
        have hv := hv _ rfl
        generalize (mm_u2 m51.1 82 19 (nI 0), m51.2) = m52 at hv ⊢
        refine wp_aload_n hb rfl dX11_hasClause_94 ?_
        refine wp_iconst hb (x := nI 0) rfl dX11_hasClause_95 ?_
        refine wp_putI hb ko_214 lf_11_218 (by decide) m0_82 dX11_hasClause_96 ?_
        have hv := hv _ rfl
        generalize (mm_u2 m52.1 82 20 (nI 0), m52.2) = m53 at hv ⊢
        exact wp_for (mm_ls_k (mm_ls_f (mm_ls_k (mm_ls_k mm_ls_nil)))) hv
      · have hv := hv.2 c17
        refine wp_iload_n hb rfl dX11_hasClause_55 ?_
        refine wp_bipush hb (x := nI 98) rfl dX11_hasClause_56 ?_
        refine wp_icmp_ne hb (t := 66) ⟨rfl, rfl⟩ dX11_hasClause_58 ⟨fun c18 => ?_, fun c18 => ?_⟩
        · have hv := hv.1 c18
          refine wp_iload_n hb rfl dX11_hasClause_66 ?_
          refine wp_istore_n hb rfl dX11_hasClause_67 ?_
          refine wp_iload_n hb rfl dX11_hasClause_68 ?_
          refine wp_if_ne hb (y := 0) (t := 74) ⟨rfl, rfl⟩ dX11_hasClause_69 ⟨fun _ => ?_, fun c => absurd (by decide) c⟩
          refine wp_aload_n hb rfl dX11_hasClause_74 ?_
          refine wp_dupR hb dX11_hasClause_75 ?_
          refine wp_getI hb ko_214 lf_11_206 (by decide) m0_82 dX11_hasClause_76 ?_
          refine wp_iconst hb (x := nI 1) rfl dX11_hasClause_79 ?_
          refine wp_iadd hb dX11_hasClause_80 ?_
          refine wp_putI hb ko_214 lf_11_206 (by decide) m0_82 dX11_hasClause_81 ?_
          have hv := hv _ rfl
          generalize (mm_u2 m1.1 82 17 ((m1.1 82 17) + (nI 1)), m1.2) = m54 at hv ⊢
          refine wp_aload_n hb rfl dX11_hasClause_84 ?_
          refine wp_iconst hb (x := nI 0) rfl dX11_hasClause_85 ?_
          refine wp_putI hb ko_214 lf_11_212 (by decide) m0_82 dX11_hasClause_86 ?_
          have hv := hv _ rfl
          generalize (mm_u2 m54.1 82 18 (nI 0), m54.2) = m55 at hv ⊢
          refine wp_aload_n hb rfl dX11_hasClause_89 ?_
          refine wp_iconst hb (x := nI 0) rfl dX11_hasClause_90 ?_
          refine wp_putI hb ko_214 lf_11_215 (by decide) m0_82 dX11_hasClause_91 ?_
          have hv := hv _ rfl
          generalize (mm_u2 m55.1 82 19 (nI 0), m55.2) = m56 at hv ⊢
          refine wp_aload_n hb rfl dX11_hasClause_94 ?_
          refine wp_iconst hb (x := nI 0) rfl dX11_hasClause_95 ?_
          refine wp_putI hb ko_214 lf_11_218 (by decide) m0_82 dX11_hasClause_96 ?_
          have hv := hv _ rfl
          generalize (mm_u2 m56.1 82 20 (nI 0), m56.2) = m57 at hv ⊢
          exact wp_for (mm_ls_k (mm_ls_f (mm_ls_k (mm_ls_k mm_ls_nil)))) hv
        · have hv := hv.2 c18
          refine wp_bipush hb (x := nI 8) rfl dX11_hasClause_61 ?_
          refine wp_goto hb (t := 67) ⟨rfl, rfl⟩ dX11_hasClause_63 ?_
          refine wp_istore_n hb rfl dX11_hasClause_67 ?_
          refine wp_iload_n hb rfl dX11_hasClause_68 ?_
          refine wp_if_ne hb (y := 0) (t := 74) ⟨rfl, rfl⟩ dX11_hasClause_69 ⟨fun _ => ?_, fun c => absurd (by decide) c⟩
          refine wp_aload_n hb rfl dX11_hasClause_74 ?_
          refine wp_dupR hb dX11_hasClause_75 ?_
          refine wp_getI hb ko_214 lf_11_206 (by decide) m0_82 dX11_hasClause_76 ?_
          refine wp_iconst hb (x := nI 1) rfl dX11_hasClause_79 ?_
          refine wp_iadd hb dX11_hasClause_80 ?_
          refine wp_putI hb ko_214 lf_11_206 (by decide) m0_82 dX11_hasClause_81 ?_
          have hv := hv _ rfl
          generalize (mm_u2 m1.1 82 17 ((m1.1 82 17) + (nI 1)), m1.2) = m58 at hv ⊢
          refine wp_aload_n hb rfl dX11_hasClause_84 ?_
          refine wp_iconst hb (x := nI 0) rfl dX11_hasClause_85 ?_
          refine wp_putI hb ko_214 lf_11_212 (by decide) m0_82 dX11_hasClause_86 ?_
          have hv := hv _ rfl
          generalize (mm_u2 m58.1 82 18 (nI 0), m58.2) = m59 at hv ⊢
          refine wp_aload_n hb rfl dX11_hasClause_89 ?_
          refine wp_iconst hb (x := nI 0) rfl dX11_hasClause_90 ?_
          refine wp_putI hb ko_214 lf_11_215 (by decide) m0_82 dX11_hasClause_91 ?_
          have hv := hv _ rfl
          generalize (mm_u2 m59.1 82 19 (nI 0), m59.2) = m60 at hv ⊢
          refine wp_aload_n hb rfl dX11_hasClause_94 ?_
          refine wp_iconst hb (x := nI 0) rfl dX11_hasClause_95 ?_
          refine wp_putI hb ko_214 lf_11_218 (by decide) m0_82 dX11_hasClause_96 ?_
          have hv := hv _ rfl
          generalize (mm_u2 m60.1 82 20 (nI 0), m60.2) = m61 at hv ⊢
          exact wp_for (mm_ls_k (mm_ls_f (mm_ls_k (mm_ls_k mm_ls_nil)))) hv
set_option maxRecDepth 100000 in
theorem v_X11_hasClause_99 {d sn : Nat} {v2 : Int32} {v3 : Int32} {m : mm_Mem} {P : Int32 → mm_Mem → Prop} 
    (hv : ((v3 ≤ m.1 82 18) → (((m.1 82 18 < v2) → (P (nI 0) m)) ∧ (¬ (m.1 82 18 < v2) → (P (nI 1) m)))) ∧ (¬ (v3 ≤ m.1 82 18) → (mm_sp d sn kX11_here [.ref 82] m (qI fun x3 m1 => mm_sp d sn kX11_in [.long x3.toInt64, .long (lN 48), .long (lN 57)] m1 (qI fun x4 m2 => ((x4 = 0) → (((m2.1 82 18 < v2) → (P (nI 0) m2)) ∧ (¬ (m2.1 82 18 < v2) → (P (nI 1) m2)))) ∧ (¬ (x4 = 0) → (mm_sp d sn kX11_here [.ref 82] m2 (qI fun x7 m3 => ∀ m4 : mm_Mem, m4 = (mm_u2 m3.1 82 19 ((((nI 10) * (m2.1 82 19)) + x7) - (nI 48)), m3.2) → (mm_sp d sn kX11_here [.ref 82] m4 (qI fun x8 m5 => ∀ m6 : mm_Mem, m6 = (mm_u2 m5.1 82 20 ((m4.1 82 20) ||| (mm_shl (nI 1) (x8 - (nI 48)))), m5.2) → (∀ m7 : mm_Mem, m7 = (mm_u2 m6.1 82 18 ((m6.1 82 18) + (nI 1)), m6.2) → (∀ m8 : mm_Mem, m8 = (mm_u2 m7.1 82 17 ((m7.1 82 17) + (nI 1)), m7.2) → (mm_wp d sn kX11_hasClause 99 [some (.ref 82), none, some (.int v2), some (.int v3)] [] m8 (qI P)))))))))))))) :
    mm_wp d sn kX11_hasClause 99 [some (.ref 82), none, some (.int v2), some (.int v3)] [] m (qI P) := by
  have hb := mb_214
  refine wp_aload_n hb rfl dX11_hasClause_99 ?_
  refine wp_getI hb ko_214 lf_11_212 (by decide) m0_82 dX11_hasClause_100 ?_
  refine wp_iload_n hb rfl dX11_hasClause_103 ?_
  refine wp_icmp_ge hb (t := 184) ⟨rfl, rfl⟩ dX11_hasClause_104 ⟨fun c1 => ?_, fun c1 => ?_⟩
  · have hv := hv.1 c1
    refine wp_aload_n hb rfl dX11_hasClause_184 ?_
    refine wp_getI hb ko_214 lf_11_212 (by decide) m0_82 dX11_hasClause_185 ?_
    refine wp_iload_n hb rfl dX11_hasClause_188 ?_
    refine wp_icmp_lt hb (t := 196) ⟨rfl, rfl⟩ dX11_hasClause_189 ⟨fun c2 => ?_, fun c2 => ?_⟩
    · have hv := hv.1 c2
      refine wp_iconst hb (x := nI 0) rfl dX11_hasClause_196 ?_
      exact wp_retZ hb rfl (by decide) dX11_hasClause_197 hv
    · have hv := hv.2 c2
      refine wp_iconst hb (x := nI 1) rfl dX11_hasClause_192 ?_
      refine wp_goto hb (t := 197) ⟨rfl, rfl⟩ dX11_hasClause_193 ?_
      exact wp_retZ hb rfl (by decide) dX11_hasClause_197 hv
  · have hv := hv.2 c1
    refine wp_aload_n hb rfl dX11_hasClause_107 ?_
    refine wp_callV hb (k' := 213) ko_214 lm_11_209 rfl m0_82 (by decide) (Nat.le_of_ble_eq_true rfl) dX11_hasClause_108 (sp_cI (hv.I (Nat.le_refl _) ?_))
    intro x3 m1 hv
    refine wp_i2l hb dX11_hasClause_111 ?_
    refine wp_ldc2 hb (ko_214) (kl_11_221) dX11_hasClause_112 ?_
    refine wp_ldc2 hb (ko_214) (kl_11_223) dX11_hasClause_115 ?_
    refine wp_callS hb (k' := 152) ko_214 lm_11_85 (by decide) rfl (Nat.le_of_ble_eq_true rfl) dX11_hasClause_118 (sp_cI (hv.I (Nat.le_refl _) ?_))
    intro x4 m2 hv
    refine wp_if_eq hb (y := 0) (t := 184) ⟨rfl, rfl⟩ dX11_hasClause_121 ⟨fun c5 => ?_, fun c5 => ?_⟩
    · have hv := hv.1 c5
      refine wp_aload_n hb rfl dX11_hasClause_184 ?_
      refine wp_getI hb ko_214 lf_11_212 (by decide) m0_82 dX11_hasClause_185 ?_
      refine wp_iload_n hb rfl dX11_hasClause_188 ?_
      refine wp_icmp_lt hb (t := 196) ⟨rfl, rfl⟩ dX11_hasClause_189 ⟨fun c6 => ?_, fun c6 => ?_⟩
      · have hv := hv.1 c6
        refine wp_iconst hb (x := nI 0) rfl dX11_hasClause_196 ?_
        exact wp_retZ hb rfl (by decide) dX11_hasClause_197 hv
      · have hv := hv.2 c6
        refine wp_iconst hb (x := nI 1) rfl dX11_hasClause_192 ?_
        refine wp_goto hb (t := 197) ⟨rfl, rfl⟩ dX11_hasClause_193 ?_
        exact wp_retZ hb rfl (by decide) dX11_hasClause_197 hv
    · have hv := hv.2 c5
      refine wp_aload_n hb rfl dX11_hasClause_124 ?_
      refine wp_bipush hb (x := nI 10) rfl dX11_hasClause_125 ?_
      refine wp_aload_n hb rfl dX11_hasClause_127 ?_
      refine wp_getI hb ko_214 lf_11_215 (by decide) m0_82 dX11_hasClause_128 ?_
      refine wp_imul hb dX11_hasClause_131 ?_
      refine wp_aload_n hb rfl dX11_hasClause_132 ?_
      refine wp_callV hb (k' := 213) ko_214 lm_11_209 rfl m0_82 (by decide) (Nat.le_of_ble_eq_true rfl) dX11_hasClause_133 (sp_cI (hv.I (Nat.le_refl _) ?_))
      intro x7 m3 hv
      refine wp_iadd hb dX11_hasClause_136 ?_
      refine wp_bipush hb (x := nI 48) rfl dX11_hasClause_137 ?_
      refine wp_isub hb dX11_hasClause_139 ?_
      refine wp_putI hb ko_214 lf_11_215 (by decide) m0_82 dX11_hasClause_140 ?_
      have hv := hv _ rfl
      generalize (mm_u2 m3.1 82 19 ((((nI 10) * (m2.1 82 19)) + x7) - (nI 48)), m3.2) = m4 at hv ⊢
      refine wp_aload_n hb rfl dX11_hasClause_143 ?_
      refine wp_dupR hb dX11_hasClause_144 ?_
      refine wp_getI hb ko_214 lf_11_218 (by decide) m0_82 dX11_hasClause_145 ?_
      refine wp_iconst hb (x := nI 1) rfl dX11_hasClause_148 ?_
      refine wp_aload_n hb rfl dX11_hasClause_149 ?_
      refine wp_callV hb (k' := 213) ko_214 lm_11_209 rfl m0_82 (by decide) (Nat.le_of_ble_eq_true rfl) dX11_hasClause_150 (sp_cI (hv.I (Nat.le_refl _) ?_))
      intro x8 m5 hv
      refine wp_bipush hb (x := nI 48) rfl dX11_hasClause_153 ?_
      refine wp_isub hb dX11_hasClause_155 ?_
      refine wp_ishl hb dX11_hasClause_156 ?_
      refine wp_ior hb dX11_hasClause_157 ?_
      refine wp_putI hb ko_214 lf_11_218 (by decide) m0_82 dX11_hasClause_158 ?_
      have hv := hv _ rfl
      generalize (mm_u2 m5.1 82 20 ((m4.1 82 20) ||| (mm_shl (nI 1) (x8 - (nI 48)))), m5.2) = m6 at hv ⊢
      refine wp_aload_n hb rfl dX11_hasClause_161 ?_
      refine wp_dupR hb dX11_hasClause_162 ?_
      refine wp_getI hb ko_214 lf_11_212 (by decide) m0_82 dX11_hasClause_163 ?_
      refine wp_iconst hb (x := nI 1) rfl dX11_hasClause_166 ?_
      refine wp_iadd hb dX11_hasClause_167 ?_
      refine wp_putI hb ko_214 lf_11_212 (by decide) m0_82 dX11_hasClause_168 ?_
      have hv := hv _ rfl
      generalize (mm_u2 m6.1 82 18 ((m6.1 82 18) + (nI 1)), m6.2) = m7 at hv ⊢
      refine wp_aload_n hb rfl dX11_hasClause_171 ?_
      refine wp_dupR hb dX11_hasClause_172 ?_
      refine wp_getI hb ko_214 lf_11_206 (by decide) m0_82 dX11_hasClause_173 ?_
      refine wp_iconst hb (x := nI 1) rfl dX11_hasClause_176 ?_
      refine wp_iadd hb dX11_hasClause_177 ?_
      refine wp_putI hb ko_214 lf_11_206 (by decide) m0_82 dX11_hasClause_178 ?_
      have hv := hv _ rfl
      generalize (mm_u2 m7.1 82 17 ((m7.1 82 17) + (nI 1)), m7.2) = m8 at hv ⊢
      refine wp_goto hb (t := 99) ⟨rfl, rfl⟩ dX11_hasClause_181 ?_
      exact wp_for (mm_ls_k (mm_ls_k (mm_ls_k (mm_ls_k mm_ls_nil)))) hv
set_option maxRecDepth 100000 in
theorem v_X11_isDone {d sn : Nat} {v1 : Int32} {m : mm_Mem} {P : Int32 → mm_Mem → Prop} 
    (hv : (v1 = nI 103 → (mm_sp d sn kX11_way [.ref 82, .int ((m.1 82 19) / (nI 10)), .int (mm_rem (m.1 82 19) (nI 10))] m (qI fun x4 m2 => ((x4 < 0) → (P (nI 0) m2)) ∧ (¬ (x4 < 0) → (P (nI 1) m2))))) ∧ (v1 = nI 104 → (mm_sp d sn kX11_hand [.ref 82, .int (m.1 82 19)] m (qI fun x7 m3 => ((x7 < 0) → (P (nI 0) m3)) ∧ (¬ (x7 < 0) → (P (nI 1) m3))))) ∧ (v1 = nI 105 → (mm_sp d sn kX11_block [.ref 82, .int (m.1 82 20)] m (qI fun x10 m4 => ((x10 < 0) → (P (nI 0) m4)) ∧ (¬ (x10 < 0) → (P (nI 1) m4))))) ∧ (v1 = nI 106 → (mm_sp d sn kX11_block [.ref 82, .int (m.1 82 20)] m (qI fun x13 m5 => ((x13 < 0) → (P (nI 0) m5)) ∧ (¬ (x13 < 0) → (P (nI 1) m5))))) ∧ (v1 = nI 107 → (mm_sp d sn kX11_choose [.ref 82, .int ((m.1 82 19) / (nI 10)), .int (mm_shl (nI 1) (mm_rem (m.1 82 19) (nI 10)))] m (qI fun x16 m6 => ((x16 < 0) → (P (nI 0) m6)) ∧ (¬ (x16 < 0) → (P (nI 1) m6))))) ∧ (v1 = nI 108 → (mm_sp d sn kX11_block [.ref 82, .int (m.1 82 20)] m (qI fun x19 m7 => ((x19 < 0) → (P (nI 0) m7)) ∧ (¬ (x19 < 0) → (P (nI 1) m7))))) ∧ (v1 = nI 109 → (mm_sp d sn kX11_block [.ref 82, .int (m.1 82 20)] m (qI fun x22 m8 => ((x22 < 0) → (P (nI 0) m8)) ∧ (¬ (x22 < 0) → (P (nI 1) m8))))) ∧ (v1 = nI 110 → (mm_sp d sn kX11_points [.ref 82, .int (m.1 82 19)] m (qI fun x25 m9 => ((x25 ≤ 0) → (P (nI 0) m9)) ∧ (¬ (x25 ≤ 0) → (P (nI 1) m9))))) ∧ (¬ v1 = nI 103 → ¬ v1 = nI 104 → ¬ v1 = nI 105 → ¬ v1 = nI 106 → ¬ v1 = nI 107 → ¬ v1 = nI 108 → ¬ v1 = nI 109 → ¬ v1 = nI 110 → (mm_sp d sn kX11_block [.ref 82, .int (m.1 82 20)] m (qI fun x1 m1 => ((x1 < 0) → (P (nI 0) m1)) ∧ (¬ (x1 < 0) → (P (nI 1) m1)))))) :
    mm_sp (d + 1) sn kX11_isDone [.ref 82, .int v1] m (qI P) := by
  have hb := mb_215
  refine wp_in (la := [some (.ref 82), some (.int v1)]) ⟨⟨Nat.le_of_ble_eq_true rfl, by decide, by decide⟩, rfl⟩ ?_
  refine wp_iload_n hb rfl dX11_isDone_0 ?_
  by_cases hc : v1.toInt < 103 ∨ 110 < v1.toInt
  · refine wp_tabO hb hc (t := 138) ⟨rfl, rfl⟩ dX11_isDone_1 ?_
    have hv := hv.2.2.2.2.2.2.2.2 (mm_out hc (by decide) (by decide)) (mm_out hc (by decide) (by decide)) (mm_out hc (by decide) (by decide)) (mm_out hc (by decide) (by decide)) (mm_out hc (by decide) (by decide)) (mm_out hc (by decide) (by decide)) (mm_out hc (by decide) (by decide)) (mm_out hc (by decide) (by decide))
    refine wp_aload_n hb rfl dX11_isDone_138 ?_
    refine wp_aload_n hb rfl dX11_isDone_139 ?_
    refine wp_getI hb ko_215 lf_11_218 (by decide) m0_82 dX11_isDone_140 ?_
    refine wp_callV hb (k' := 193) ko_215 lm_11_237 rfl m0_82 (by decide) (Nat.le_of_ble_eq_true rfl) dX11_isDone_143 (sp_cI (hv.I (Nat.le_refl _) ?_))
    intro x1 m1 hv
    refine wp_if_lt hb (y := 0) (t := 153) ⟨rfl, rfl⟩ dX11_isDone_146 ⟨fun c2 => ?_, fun c2 => ?_⟩
    · have hv := hv.1 c2
      refine wp_iconst hb (x := nI 0) rfl dX11_isDone_153 ?_
      exact wp_retZ hb rfl (by decide) dX11_isDone_154 hv
    · have hv := hv.2 c2
      refine wp_iconst hb (x := nI 1) rfl dX11_isDone_149 ?_
      refine wp_goto hb (t := 154) ⟨rfl, rfl⟩ dX11_isDone_150 ?_
      exact wp_retZ hb rfl (by decide) dX11_isDone_154 hv
  · have hx := mm_tabc (n := 8) (lo := 103) (by decide) hc (by decide)
    obtain ⟨j, hj, hx⟩ := hx
    by_cases g0 : j = 0
    · subst g0
      have hv := hv.1 hx
      have hc9 := hc
      rw [hx] at hc9 ⊢
      refine wp_tabI hb (off := 64) hc9 rfl (t := 65) ⟨rfl, rfl⟩ dX11_isDone_1 ?_
      refine wp_aload_n hb rfl dX11_isDone_65 ?_
      refine wp_aload_n hb rfl dX11_isDone_66 ?_
      refine wp_getI hb ko_215 lf_11_215 (by decide) m0_82 dX11_isDone_67 ?_
      refine wp_bipush hb (x := nI 10) rfl dX11_isDone_70 ?_
      refine wp_idiv hb (by decide) dX11_isDone_72 ?_
      refine wp_aload_n hb rfl dX11_isDone_73 ?_
      refine wp_getI hb ko_215 lf_11_215 (by decide) m0_82 dX11_isDone_74 ?_
      refine wp_bipush hb (x := nI 10) rfl dX11_isDone_77 ?_
      refine wp_irem hb (by decide) dX11_isDone_79 ?_
      refine wp_callV hb (k' := 162) ko_215 lm_11_228 rfl m0_82 (by decide) (Nat.le_of_ble_eq_true rfl) dX11_isDone_80 (sp_cI (hv.I (Nat.le_refl _) ?_))
      intro x4 m2 hv
      refine wp_if_lt hb (y := 0) (t := 90) ⟨rfl, rfl⟩ dX11_isDone_83 ⟨fun c5 => ?_, fun c5 => ?_⟩
      · have hv := hv.1 c5
        refine wp_iconst hb (x := nI 0) rfl dX11_isDone_90 ?_
        exact wp_retZ hb rfl (by decide) dX11_isDone_91 hv
      · have hv := hv.2 c5
        refine wp_iconst hb (x := nI 1) rfl dX11_isDone_86 ?_
        refine wp_goto hb (t := 91) ⟨rfl, rfl⟩ dX11_isDone_87 ?_
        exact wp_retZ hb rfl (by decide) dX11_isDone_91 hv
    by_cases g1 : j = 1
    · subst g1
      have hv := hv.2.1 hx
      have hc9 := hc
      rw [hx] at hc9 ⊢
      refine wp_tabI hb (off := 91) hc9 rfl (t := 92) ⟨rfl, rfl⟩ dX11_isDone_1 ?_
      refine wp_aload_n hb rfl dX11_isDone_92 ?_
      refine wp_aload_n hb rfl dX11_isDone_93 ?_
      refine wp_getI hb ko_215 lf_11_215 (by decide) m0_82 dX11_isDone_94 ?_
      refine wp_callV hb (k' := 163) ko_215 lm_11_231 rfl m0_82 (by decide) (Nat.le_of_ble_eq_true rfl) dX11_isDone_97 (sp_cI (hv.I (Nat.le_refl _) ?_))
      intro x7 m3 hv
      refine wp_if_lt hb (y := 0) (t := 107) ⟨rfl, rfl⟩ dX11_isDone_100 ⟨fun c8 => ?_, fun c8 => ?_⟩
      · have hv := hv.1 c8
        refine wp_iconst hb (x := nI 0) rfl dX11_isDone_107 ?_
        exact wp_retZ hb rfl (by decide) dX11_isDone_108 hv
      · have hv := hv.2 c8
        refine wp_iconst hb (x := nI 1) rfl dX11_isDone_103 ?_
        refine wp_goto hb (t := 108) ⟨rfl, rfl⟩ dX11_isDone_104 ?_
        exact wp_retZ hb rfl (by decide) dX11_isDone_108 hv
    by_cases g2 : j = 2
    · subst g2
      have hv := hv.2.2.1 hx
      have hc9 := hc
      rw [hx] at hc9 ⊢
      refine wp_tabI hb (off := 137) hc9 rfl (t := 138) ⟨rfl, rfl⟩ dX11_isDone_1 ?_
      refine wp_aload_n hb rfl dX11_isDone_138 ?_
      refine wp_aload_n hb rfl dX11_isDone_139 ?_
      refine wp_getI hb ko_215 lf_11_218 (by decide) m0_82 dX11_isDone_140 ?_
      refine wp_callV hb (k' := 193) ko_215 lm_11_237 rfl m0_82 (by decide) (Nat.le_of_ble_eq_true rfl) dX11_isDone_143 (sp_cI (hv.I (Nat.le_refl _) ?_))
      intro x10 m4 hv
      refine wp_if_lt hb (y := 0) (t := 153) ⟨rfl, rfl⟩ dX11_isDone_146 ⟨fun c11 => ?_, fun c11 => ?_⟩
      · have hv := hv.1 c11
        refine wp_iconst hb (x := nI 0) rfl dX11_isDone_153 ?_
        exact wp_retZ hb rfl (by decide) dX11_isDone_154 hv
      · have hv := hv.2 c11
        refine wp_iconst hb (x := nI 1) rfl dX11_isDone_149 ?_
        refine wp_goto hb (t := 154) ⟨rfl, rfl⟩ dX11_isDone_150 ?_
        exact wp_retZ hb rfl (by decide) dX11_isDone_154 hv
    by_cases g3 : j = 3
    · subst g3
      have hv := hv.2.2.2.1 hx
      have hc9 := hc
      rw [hx] at hc9 ⊢
      refine wp_tabI hb (off := 137) hc9 rfl (t := 138) ⟨rfl, rfl⟩ dX11_isDone_1 ?_
      refine wp_aload_n hb rfl dX11_isDone_138 ?_
      refine wp_aload_n hb rfl dX11_isDone_139 ?_
      refine wp_getI hb ko_215 lf_11_218 (by decide) m0_82 dX11_isDone_140 ?_
      refine wp_callV hb (k' := 193) ko_215 lm_11_237 rfl m0_82 (by decide) (Nat.le_of_ble_eq_true rfl) dX11_isDone_143 (sp_cI (hv.I (Nat.le_refl _) ?_))
      intro x13 m5 hv
      refine wp_if_lt hb (y := 0) (t := 153) ⟨rfl, rfl⟩ dX11_isDone_146 ⟨fun c14 => ?_, fun c14 => ?_⟩
      · have hv := hv.1 c14
        refine wp_iconst hb (x := nI 0) rfl dX11_isDone_153 ?_
        exact wp_retZ hb rfl (by decide) dX11_isDone_154 hv
      · have hv := hv.2 c14
        refine wp_iconst hb (x := nI 1) rfl dX11_isDone_149 ?_
        refine wp_goto hb (t := 154) ⟨rfl, rfl⟩ dX11_isDone_150 ?_
        exact wp_retZ hb rfl (by decide) dX11_isDone_154 hv
    by_cases g4 : j = 4
    · subst g4
      have hv := hv.2.2.2.2.1 hx
      have hc9 := hc
      rw [hx] at hc9 ⊢
      refine wp_tabI hb (off := 108) hc9 rfl (t := 109) ⟨rfl, rfl⟩ dX11_isDone_1 ?_
      refine wp_aload_n hb rfl dX11_isDone_109 ?_
      refine wp_aload_n hb rfl dX11_isDone_110 ?_
      refine wp_getI hb ko_215 lf_11_215 (by decide) m0_82 dX11_isDone_111 ?_
      refine wp_bipush hb (x := nI 10) rfl dX11_isDone_114 ?_
      refine wp_idiv hb (by decide) dX11_isDone_116 ?_
      refine wp_iconst hb (x := nI 1) rfl dX11_isDone_117 ?_
      refine wp_aload_n hb rfl dX11_isDone_118 ?_
      refine wp_getI hb ko_215 lf_11_215 (by decide) m0_82 dX11_isDone_119 ?_
      refine wp_bipush hb (x := nI 10) rfl dX11_isDone_122 ?_
      refine wp_irem hb (by decide) dX11_isDone_124 ?_
      refine wp_ishl hb dX11_isDone_125 ?_
      refine wp_callV hb (k' := 192) ko_215 lm_11_234 rfl m0_82 (by decide) (Nat.le_of_ble_eq_true rfl) dX11_isDone_126 (sp_cI (hv.I (Nat.le_refl _) ?_))
      intro x16 m6 hv
      refine wp_if_lt hb (y := 0) (t := 136) ⟨rfl, rfl⟩ dX11_isDone_129 ⟨fun c17 => ?_, fun c17 => ?_⟩
      · have hv := hv.1 c17
        refine wp_iconst hb (x := nI 0) rfl dX11_isDone_136 ?_
        exact wp_retZ hb rfl (by decide) dX11_isDone_137 hv
      · have hv := hv.2 c17
        refine wp_iconst hb (x := nI 1) rfl dX11_isDone_132 ?_
        refine wp_goto hb (t := 137) ⟨rfl, rfl⟩ dX11_isDone_133 ?_
        exact wp_retZ hb rfl (by decide) dX11_isDone_137 hv
    by_cases g5 : j = 5
    · subst g5
      have hv := hv.2.2.2.2.2.1 hx
      have hc9 := hc
      rw [hx] at hc9 ⊢
      refine wp_tabI hb (off := 137) hc9 rfl (t := 138) ⟨rfl, rfl⟩ dX11_isDone_1 ?_
      refine wp_aload_n hb rfl dX11_isDone_138 ?_
      refine wp_aload_n hb rfl dX11_isDone_139 ?_
      refine wp_getI hb ko_215 lf_11_218 (by decide) m0_82 dX11_isDone_140 ?_
      refine wp_callV hb (k' := 193) ko_215 lm_11_237 rfl m0_82 (by decide) (Nat.le_of_ble_eq_true rfl) dX11_isDone_143 (sp_cI (hv.I (Nat.le_refl _) ?_))
      intro x19 m7 hv
      refine wp_if_lt hb (y := 0) (t := 153) ⟨rfl, rfl⟩ dX11_isDone_146 ⟨fun c20 => ?_, fun c20 => ?_⟩
      · have hv := hv.1 c20
        refine wp_iconst hb (x := nI 0) rfl dX11_isDone_153 ?_
        exact wp_retZ hb rfl (by decide) dX11_isDone_154 hv
      · have hv := hv.2 c20
        refine wp_iconst hb (x := nI 1) rfl dX11_isDone_149 ?_
        refine wp_goto hb (t := 154) ⟨rfl, rfl⟩ dX11_isDone_150 ?_
        exact wp_retZ hb rfl (by decide) dX11_isDone_154 hv
    by_cases g6 : j = 6
    · subst g6
      have hv := hv.2.2.2.2.2.2.1 hx
      have hc9 := hc
      rw [hx] at hc9 ⊢
      refine wp_tabI hb (off := 137) hc9 rfl (t := 138) ⟨rfl, rfl⟩ dX11_isDone_1 ?_
      refine wp_aload_n hb rfl dX11_isDone_138 ?_
      refine wp_aload_n hb rfl dX11_isDone_139 ?_
      refine wp_getI hb ko_215 lf_11_218 (by decide) m0_82 dX11_isDone_140 ?_
      refine wp_callV hb (k' := 193) ko_215 lm_11_237 rfl m0_82 (by decide) (Nat.le_of_ble_eq_true rfl) dX11_isDone_143 (sp_cI (hv.I (Nat.le_refl _) ?_))
      intro x22 m8 hv
      refine wp_if_lt hb (y := 0) (t := 153) ⟨rfl, rfl⟩ dX11_isDone_146 ⟨fun c23 => ?_, fun c23 => ?_⟩
      · have hv := hv.1 c23
        refine wp_iconst hb (x := nI 0) rfl dX11_isDone_153 ?_
        exact wp_retZ hb rfl (by decide) dX11_isDone_154 hv
      · have hv := hv.2 c23
        refine wp_iconst hb (x := nI 1) rfl dX11_isDone_149 ?_
        refine wp_goto hb (t := 154) ⟨rfl, rfl⟩ dX11_isDone_150 ?_
        exact wp_retZ hb rfl (by decide) dX11_isDone_154 hv
    by_cases g7 : j = 7
    · subst g7
      have hv := hv.2.2.2.2.2.2.2.1 hx
      have hc9 := hc
      rw [hx] at hc9 ⊢
      refine wp_tabI hb (off := 47) hc9 rfl (t := 48) ⟨rfl, rfl⟩ dX11_isDone_1 ?_
      refine wp_aload_n hb rfl dX11_isDone_48 ?_
      refine wp_aload_n hb rfl dX11_isDone_49 ?_
      refine wp_getI hb ko_215 lf_11_215 (by decide) m0_82 dX11_isDone_50 ?_
      refine wp_callV hb (k' := 159) ko_215 lm_11_225 rfl m0_82 (by decide) (Nat.le_of_ble_eq_true rfl) dX11_isDone_53 (sp_cI (hv.I (Nat.le_refl _) ?_))
      intro x25 m9 hv
      refine wp_if_le hb (y := 0) (t := 63) ⟨rfl, rfl⟩ dX11_isDone_56 ⟨fun c26 => ?_, fun c26 => ?_⟩
      · have hv := hv.1 c26
        refine wp_iconst hb (x := nI 0) rfl dX11_isDone_63 ?_
        exact wp_retZ hb rfl (by decide) dX11_isDone_64 hv
      · have hv := hv.2 c26
        refine wp_iconst hb (x := nI 1) rfl dX11_isDone_59 ?_
        refine wp_goto hb (t := 64) ⟨rfl, rfl⟩ dX11_isDone_60 ?_
        exact wp_retZ hb rfl (by decide) dX11_isDone_64 hv
    omega
set_option maxRecDepth 100000 in
theorem v_X11_read {d sn : Nat} {m : mm_Mem} {P : Int32 → mm_Mem → Prop} 
    (hv : ∀ m1 : mm_Mem, m1 = (mm_u2 m.1 82 17 (nI 0), m.2) → (mm_wp d sn kX11_read 9 [some (.ref 82), some (.int (nI 0)), some (.int (nI 1)), none, none, none] [] m1 (qI P))) :
    mm_sp (d + 1) sn kX11_read [.ref 82] m (qI P) := by
  have hb := mb_216
  refine wp_in (la := [some (.ref 82), none, none, none, none, none]) ⟨⟨Nat.le_of_ble_eq_true rfl, by decide, by decide⟩, rfl⟩ ?_
  refine wp_aload_n hb rfl dX11_read_0 ?_
  refine wp_iconst hb (x := nI 0) rfl dX11_read_1 ?_
  refine wp_putI hb ko_216 lf_11_206 (by decide) m0_82 dX11_read_2 ?_
  have hv := hv _ rfl
  generalize (mm_u2 m.1 82 17 (nI 0), m.2) = m1 at hv ⊢
  refine wp_iconst hb (x := nI 0) rfl dX11_read_5 ?_
  refine wp_istore_n hb rfl dX11_read_6 ?_
  refine wp_iconst hb (x := nI 1) rfl dX11_read_7 ?_
  refine wp_istore_n hb rfl dX11_read_8 ?_
  exact wp_for (mm_ls_k (mm_ls_k (mm_ls_k (mm_ls_k (mm_ls_k (mm_ls_k mm_ls_nil)))))) hv
set_option maxRecDepth 100000 in
theorem v_X11_read_9 {d sn : Nat} {v1 : Int32} {v2 : Int32} {m : mm_Mem} {P : Int32 → mm_Mem → Prop} 
    (hv : ((v2 = 0) → (((¬ v2 = 0) → (∀ m1 : mm_Mem, m1 = (mm_u2 m.1 82 17 (nI 0), m.2) → (mm_wp d sn kX11_read 118 [some (.ref 82), none, none, some (.int (nI 0)), none, none] [] m1 (qI P)))) ∧ (¬ (¬ v2 = 0) → (∀ m2 : mm_Mem, m2 = (mm_u2 m.1 82 16 (nI 0), m.2) → (P ((-10) - (m2.1 82 17)) m2))))) ∧ (¬ (v2 = 0) → (((v1 = 0) → (((v1 ≤ 0) → (((v2 = 0) → (mm_wp d sn kX11_read 9 [some (.ref 82), some (.int (v1 + nI 1)), some (.int (nI 0)), none, none, none] [] m (qI P))) ∧ (¬ (v2 = 0) → (mm_sp d sn kX11_hasClause [.ref 82] m (qI fun x6 m3 => ((x6 = 0) → (mm_wp d sn kX11_read 9 [some (.ref 82), some (.int (v1 + nI 1)), some (.int (nI 0)), none, none, none] [] m3 (qI P))) ∧ (¬ (x6 = 0) → (mm_wp d sn kX11_read 9 [some (.ref 82), some (.int (v1 + nI 1)), some (.int (nI 1)), none, none, none] [] m3 (qI P)))))))) ∧ (¬ (v1 ≤ 0) → (((nI 12 ≤ v1) → (∀ m4 : mm_Mem, m4 = (mm_u2 m.1 82 17 ((m.1 82 17) + (nI 0)), m.2) → (mm_wp d sn kX11_read 9 [some (.ref 82), some (.int (v1 + nI 1)), some (.int (nI 0)), none, none, none] [] m4 (qI P)))) ∧ (¬ (nI 12 ≤ v1) → (mm_sp d sn kX11_here [.ref 82] m (qI fun x9 m5 => ((¬ x9 = nI 59) → (∀ m6 : mm_Mem, m6 = (mm_u2 m5.1 82 17 ((m5.1 82 17) + (nI 0)), m5.2) → (mm_wp d sn kX11_read 9 [some (.ref 82), some (.int (v1 + nI 1)), some (.int (nI 0)), none, none, none] [] m6 (qI P)))) ∧ (¬ (¬ x9 = nI 59) → (∀ m7 : mm_Mem, m7 = (mm_u2 m5.1 82 17 ((m5.1 82 17) + (nI 1)), m5.2) → (mm_sp d sn kX11_hasClause [.ref 82] m7 (qI fun x11 m8 => ((x11 = 0) → (mm_wp d sn kX11_read 9 [some (.ref 82), some (.int (v1 + nI 1)), some (.int (nI 0)), none, none, none] [] m8 (qI P))) ∧ (¬ (x11 = 0) → (mm_wp d sn kX11_read 9 [some (.ref 82), some (.int (v1 + nI 1)), some (.int (nI 1)), none, none, none] [] m8 (qI P)))))))))))))) ∧ (¬ (v1 = 0) → (((m.1 82 16 ≤ m.1 82 17) → (((¬ v2 = 0) → (∀ m9 : mm_Mem, m9 = (mm_u2 m.1 82 17 (nI 0), m.2) → (mm_wp d sn kX11_read 118 [some (.ref 82), none, none, some (.int (nI 0)), none, none] [] m9 (qI P)))) ∧ (¬ (¬ v2 = 0) → (∀ m10 : mm_Mem, m10 = (mm_u2 m.1 82 16 (nI 0), m.2) → (P ((-10) - (m10.1 82 17)) m10))))) ∧ (¬ (m.1 82 16 ≤ m.1 82 17) → (((v1 ≤ 0) → (((v2 = 0) → (mm_wp d sn kX11_read 9 [some (.ref 82), some (.int (v1 + nI 1)), some (.int (nI 0)), none, none, none] [] m (qI P))) ∧ (¬ (v2 = 0) → (mm_sp d sn kX11_hasClause [.ref 82] m (qI fun x17 m11 => ((x17 = 0) → (mm_wp d sn kX11_read 9 [some (.ref 82), some (.int (v1 + nI 1)), some (.int (nI 0)), none, none, none] [] m11 (qI P))) ∧ (¬ (x17 = 0) → (mm_wp d sn kX11_read 9 [some (.ref 82), some (.int (v1 + nI 1)), some (.int (nI 1)), none, none, none] [] m11 (qI P)))))))) ∧ (¬ (v1 ≤ 0) → (((nI 12 ≤ v1) → (∀ m12 : mm_Mem, m12 = (mm_u2 m.1 82 17 ((m.1 82 17) + (nI 0)), m.2) → (mm_wp d sn kX11_read 9 [some (.ref 82), some (.int (v1 + nI 1)), some (.int (nI 0)), none, none, none] [] m12 (qI P)))) ∧ (¬ (nI 12 ≤ v1) → (mm_sp d sn kX11_here [.ref 82] m (qI fun x20 m13 => ((¬ x20 = nI 59) → (∀ m14 : mm_Mem, m14 = (mm_u2 m13.1 82 17 ((m13.1 82 17) + (nI 0)), m13.2) → (mm_wp d sn kX11_read 9 [some (.ref 82), some (.int (v1 + nI 1)), some (.int (nI 0)), none, none, none] [] m14 (qI P)))) ∧ (¬ (¬ x20 = nI 59) → (∀ m15 : mm_Mem, m15 = (mm_u2 m13.1 82 17 ((m13.1 82 17) + (nI 1)), m13.2) → (mm_sp d sn kX11_hasClause [.ref 82] m15 (qI fun x22 m16 => ((x22 = 0) → (mm_wp d sn kX11_read 9 [some (.ref 82), some (.int (v1 + nI 1)), some (.int (nI 0)), none, none, none] [] m16 (qI P))) ∧ (¬ (x22 = 0) → (mm_wp d sn kX11_read 9 [some (.ref 82), some (.int (v1 + nI 1)), some (.int (nI 1)), none, none, none] [] m16 (qI P))))))))))))))))))) :
    mm_wp d sn kX11_read 9 [some (.ref 82), some (.int v1), some (.int v2), none, none, none] [] m (qI P) := by
  have hb := mb_216
  refine wp_iload_n hb rfl dX11_read_9 ?_
  refine wp_if_eq hb (y := 0) (t := 94) ⟨rfl, rfl⟩ dX11_read_10 ⟨fun c1 => ?_, fun c1 => ?_⟩
  · have hv := hv.1 c1
    refine wp_iload_n hb rfl dX11_read_94 ?_
    refine wp_if_ne hb (y := 0) (t := 111) ⟨rfl, rfl⟩ dX11_read_95 ⟨fun c2 => ?_, fun c2 => ?_⟩
    · have hv := hv.1 c2
      refine wp_iconst hb (x := nI 0) rfl dX11_read_111 ?_
      refine wp_istore_n hb rfl dX11_read_112 ?_
      refine wp_aload_n hb rfl dX11_read_113 ?_
      refine wp_iconst hb (x := nI 0) rfl dX11_read_114 ?_
      refine wp_putI hb ko_216 lf_11_206 (by decide) m0_82 dX11_read_115 ?_
      have hv := hv _ rfl
      generalize (mm_u2 m.1 82 17 (nI 0), m.2) = m1 at hv ⊢
      exact wp_for (mm_ls_k (mm_ls_f (mm_ls_f (mm_ls_k (mm_ls_k (mm_ls_k mm_ls_nil)))))) hv
    · have hv := hv.2 c2
      refine wp_aload_n hb rfl dX11_read_98 ?_
      refine wp_iconst hb (x := nI 0) rfl dX11_read_99 ?_
      refine wp_putI hb ko_216 lf_11_202 (by decide) m0_82 dX11_read_100 ?_
      have hv := hv _ rfl
      generalize (mm_u2 m.1 82 16 (nI 0), m.2) = m2 at hv ⊢
      refine wp_bipush hb (x := (-10)) rfl dX11_read_103 ?_
      refine wp_aload_n hb rfl dX11_read_105 ?_
      refine wp_getI hb ko_216 lf_11_206 (by decide) m0_82 dX11_read_106 ?_
      refine wp_isub hb dX11_read_109 ?_
      exact wp_retI hb rfl dX11_read_110 hv
  · have hv := hv.2 c1
    refine wp_iload_n hb rfl dX11_read_13 ?_
    refine wp_if_eq hb (y := 0) (t := 28) ⟨rfl, rfl⟩ dX11_read_14 ⟨fun c3 => ?_, fun c3 => ?_⟩
    · have hv := hv.1 c3
      refine wp_iload_n hb rfl dX11_read_28 ?_
      refine wp_if_le hb (y := 0) (t := 71) ⟨rfl, rfl⟩ dX11_read_29 ⟨fun c4 => ?_, fun c4 => ?_⟩
      · have hv := hv.1 c4
        refine wp_iload_n hb rfl dX11_read_71 ?_
        refine wp_if_eq hb (y := 0) (t := 86) ⟨rfl, rfl⟩ dX11_read_72 ⟨fun c5 => ?_, fun c5 => ?_⟩
        · have hv := hv.1 c5
          refine wp_iconst hb (x := nI 0) rfl dX11_read_86 ?_
          refine wp_istore_n hb rfl dX11_read_87 ?_
          refine wp_iinc hb rfl (y := v1 + nI 1) rfl rfl dX11_read_88 ?_
          refine wp_goto hb (t := 9) ⟨rfl, rfl⟩ dX11_read_91 ?_
          exact wp_for (mm_ls_k (mm_ls_k (mm_ls_k (mm_ls_k (mm_ls_k (mm_ls_k mm_ls_nil)))))) hv
        · have hv := hv.2 c5
          refine wp_aload_n hb rfl dX11_read_75 ?_
          refine wp_callV hb (k' := 214) ko_216 lm_11_240 rfl m0_82 (by decide) (Nat.le_of_ble_eq_true rfl) dX11_read_76 (sp_cI (hv.I (Nat.le_refl _) ?_))
          intro x6 m3 hv
          refine wp_if_eq hb (y := 0) (t := 86) ⟨rfl, rfl⟩ dX11_read_79 ⟨fun c7 => ?_, fun c7 => ?_⟩
          · have hv := hv.1 c7
            refine wp_iconst hb (x := nI 0) rfl dX11_read_86 ?_
            refine wp_istore_n hb rfl dX11_read_87 ?_
            refine wp_iinc hb rfl (y := v1 + nI 1) rfl rfl dX11_read_88 ?_
            refine wp_goto hb (t := 9) ⟨rfl, rfl⟩ dX11_read_91 ?_
            exact wp_for (mm_ls_k (mm_ls_k (mm_ls_k (mm_ls_k (mm_ls_k (mm_ls_k mm_ls_nil)))))) hv
          · have hv := hv.2 c7
            refine wp_iconst hb (x := nI 1) rfl dX11_read_82 ?_
            refine wp_goto hb (t := 87) ⟨rfl, rfl⟩ dX11_read_83 ?_
            refine wp_istore_n hb rfl dX11_read_87 ?_
            refine wp_iinc hb rfl (y := v1 + nI 1) rfl rfl dX11_read_88 ?_
            refine wp_goto hb (t := 9) ⟨rfl, rfl⟩ dX11_read_91 ?_
            exact wp_for (mm_ls_k (mm_ls_k (mm_ls_k (mm_ls_k (mm_ls_k (mm_ls_k mm_ls_nil)))))) hv
      · have hv := hv.2 c4
        refine wp_iload_n hb rfl dX11_read_32 ?_
        refine wp_bipush hb (x := nI 12) rfl dX11_read_33 ?_
        refine wp_icmp_ge hb (t := 51) ⟨rfl, rfl⟩ dX11_read_35 ⟨fun c8 => ?_, fun c8 => ?_⟩
        · have hv := hv.1 c8
          refine wp_iconst hb (x := nI 0) rfl dX11_read_51 ?_
          refine wp_istore_n hb rfl dX11_read_52 ?_
          refine wp_aload_n hb rfl dX11_read_53 ?_
          refine wp_dupR hb dX11_read_54 ?_
          refine wp_getI hb ko_216 lf_11_206 (by decide) m0_82 dX11_read_55 ?_
          refine wp_iload_n hb rfl dX11_read_58 ?_
          refine wp_if_eq hb (y := 0) (t := 66) ⟨rfl, rfl⟩ dX11_read_59 ⟨fun _ => ?_, fun c => absurd (by decide) c⟩
          refine wp_iconst hb (x := nI 0) rfl dX11_read_66 ?_
          refine wp_iadd hb dX11_read_67 ?_
          refine wp_putI hb ko_216 lf_11_206 (by decide) m0_82 dX11_read_68 ?_
          have hv := hv _ rfl
          generalize (mm_u2 m.1 82 17 ((m.1 82 17) + (nI 0)), m.2) = m4 at hv ⊢
          refine wp_iload_n hb rfl dX11_read_71 ?_
          refine wp_if_eq hb (y := 0) (t := 86) ⟨rfl, rfl⟩ dX11_read_72 ⟨fun _ => ?_, fun c => absurd (by decide) c⟩
          refine wp_iconst hb (x := nI 0) rfl dX11_read_86 ?_
          refine wp_istore_n hb rfl dX11_read_87 ?_
          refine wp_iinc hb rfl (y := v1 + nI 1) rfl rfl dX11_read_88 ?_
          refine wp_goto hb (t := 9) ⟨rfl, rfl⟩ dX11_read_91 ?_
          exact wp_for (mm_ls_k (mm_ls_k (mm_ls_k (mm_ls_k (mm_ls_k (mm_ls_k mm_ls_nil)))))) hv
        · have hv := hv.2 c8
          refine wp_aload_n hb rfl dX11_read_38 ?_
          refine wp_callV hb (k' := 213) ko_216 lm_11_209 rfl m0_82 (by decide) (Nat.le_of_ble_eq_true rfl) dX11_read_39 (sp_cI (hv.I (Nat.le_refl _) ?_))
          intro x9 m5 hv
          refine wp_bipush hb (x := nI 59) rfl dX11_read_42 ?_
          refine wp_icmp_ne hb (t := 51) ⟨rfl, rfl⟩ dX11_read_44 ⟨fun c10 => ?_, fun c10 => ?_⟩
          · have hv := hv.1 c10
            refine wp_iconst hb (x := nI 0) rfl dX11_read_51 ?_
            refine wp_istore_n hb rfl dX11_read_52 ?_
            refine wp_aload_n hb rfl dX11_read_53 ?_
            refine wp_dupR hb dX11_read_54 ?_
            refine wp_getI hb ko_216 lf_11_206 (by decide) m0_82 dX11_read_55 ?_
            refine wp_iload_n hb rfl dX11_read_58 ?_
            refine wp_if_eq hb (y := 0) (t := 66) ⟨rfl, rfl⟩ dX11_read_59 ⟨fun _ => ?_, fun c => absurd (by decide) c⟩
            refine wp_iconst hb (x := nI 0) rfl dX11_read_66 ?_
            refine wp_iadd hb dX11_read_67 ?_
            refine wp_putI hb ko_216 lf_11_206 (by decide) m0_82 dX11_read_68 ?_
            have hv := hv _ rfl
            generalize (mm_u2 m5.1 82 17 ((m5.1 82 17) + (nI 0)), m5.2) = m6 at hv ⊢
            refine wp_iload_n hb rfl dX11_read_71 ?_
            refine wp_if_eq hb (y := 0) (t := 86) ⟨rfl, rfl⟩ dX11_read_72 ⟨fun _ => ?_, fun c => absurd (by decide) c⟩
            refine wp_iconst hb (x := nI 0) rfl dX11_read_86 ?_
            refine wp_istore_n hb rfl dX11_read_87 ?_
            refine wp_iinc hb rfl (y := v1 + nI 1) rfl rfl dX11_read_88 ?_
            refine wp_goto hb (t := 9) ⟨rfl, rfl⟩ dX11_read_91 ?_
            exact wp_for (mm_ls_k (mm_ls_k (mm_ls_k (mm_ls_k (mm_ls_k (mm_ls_k mm_ls_nil)))))) hv
          · have hv := hv.2 c10
            refine wp_iconst hb (x := nI 1) rfl dX11_read_47 ?_
            refine wp_goto hb (t := 52) ⟨rfl, rfl⟩ dX11_read_48 ?_
            refine wp_istore_n hb rfl dX11_read_52 ?_
            refine wp_aload_n hb rfl dX11_read_53 ?_
            refine wp_dupR hb dX11_read_54 ?_
            refine wp_getI hb ko_216 lf_11_206 (by decide) m0_82 dX11_read_55 ?_
            refine wp_iload_n hb rfl dX11_read_58 ?_
            refine wp_if_eq hb (y := 0) (t := 66) ⟨rfl, rfl⟩ dX11_read_59 ⟨fun c => absurd c (by decide), fun _ => ?_⟩
            refine wp_iconst hb (x := nI 1) rfl dX11_read_62 ?_
            refine wp_goto hb (t := 67) ⟨rfl, rfl⟩ dX11_read_63 ?_
            refine wp_iadd hb dX11_read_67 ?_
            refine wp_putI hb ko_216 lf_11_206 (by decide) m0_82 dX11_read_68 ?_
            have hv := hv _ rfl
            generalize (mm_u2 m5.1 82 17 ((m5.1 82 17) + (nI 1)), m5.2) = m7 at hv ⊢
            refine wp_iload_n hb rfl dX11_read_71 ?_
            refine wp_if_eq hb (y := 0) (t := 86) ⟨rfl, rfl⟩ dX11_read_72 ⟨fun c => absurd c (by decide), fun _ => ?_⟩
            refine wp_aload_n hb rfl dX11_read_75 ?_
            refine wp_callV hb (k' := 214) ko_216 lm_11_240 rfl m0_82 (by decide) (Nat.le_of_ble_eq_true rfl) dX11_read_76 (sp_cI (hv.I (Nat.le_refl _) ?_))
            intro x11 m8 hv
            refine wp_if_eq hb (y := 0) (t := 86) ⟨rfl, rfl⟩ dX11_read_79 ⟨fun c12 => ?_, fun c12 => ?_⟩
            · have hv := hv.1 c12
              refine wp_iconst hb (x := nI 0) rfl dX11_read_86 ?_
              refine wp_istore_n hb rfl dX11_read_87 ?_
              refine wp_iinc hb rfl (y := v1 + nI 1) rfl rfl dX11_read_88 ?_
              refine wp_goto hb (t := 9) ⟨rfl, rfl⟩ dX11_read_91 ?_
              exact wp_for (mm_ls_k (mm_ls_k (mm_ls_k (mm_ls_k (mm_ls_k (mm_ls_k mm_ls_nil)))))) hv
            · have hv := hv.2 c12
              refine wp_iconst hb (x := nI 1) rfl dX11_read_82 ?_
              refine wp_goto hb (t := 87) ⟨rfl, rfl⟩ dX11_read_83 ?_
              refine wp_istore_n hb rfl dX11_read_87 ?_
              refine wp_iinc hb rfl (y := v1 + nI 1) rfl rfl dX11_read_88 ?_
              refine wp_goto hb (t := 9) ⟨rfl, rfl⟩ dX11_read_91 ?_
              exact wp_for (mm_ls_k (mm_ls_k (mm_ls_k (mm_ls_k (mm_ls_k (mm_ls_k mm_ls_nil)))))) hv
    · have hv := hv.2 c3
      refine wp_aload_n hb rfl dX11_read_17 ?_
      refine wp_getI hb ko_216 lf_11_206 (by decide) m0_82 dX11_read_18 ?_
      refine wp_aload_n hb rfl dX11_read_21 ?_
      refine wp_getI hb ko_216 lf_11_202 (by decide) m0_82 dX11_read_22 ?_
      refine wp_icmp_ge hb (t := 94) ⟨rfl, rfl⟩ dX11_read_25 ⟨fun c13 => ?_, fun c13 => ?_⟩
      · have hv := hv.1 c13
        refine wp_iload_n hb rfl dX11_read_94 ?_
        refine wp_if_ne hb (y := 0) (t := 111) ⟨rfl, rfl⟩ dX11_read_95 ⟨fun c14 => ?_, fun c14 => ?_⟩
        · have hv := hv.1 c14
          refine wp_iconst hb (x := nI 0) rfl dX11_read_111 ?_
          refine wp_istore_n hb rfl dX11_read_112 ?_
          refine wp_aload_n hb rfl dX11_read_113 ?_
          refine wp_iconst hb (x := nI 0) rfl dX11_read_114 ?_
          refine wp_putI hb ko_216 lf_11_206 (by decide) m0_82 dX11_read_115 ?_
          have hv := hv _ rfl
          generalize (mm_u2 m.1 82 17 (nI 0), m.2) = m9 at hv ⊢
          exact wp_for (mm_ls_k (mm_ls_f (mm_ls_f (mm_ls_k (mm_ls_k (mm_ls_k mm_ls_nil)))))) hv
        · have hv := hv.2 c14
          refine wp_aload_n hb rfl dX11_read_98 ?_
          refine wp_iconst hb (x := nI 0) rfl dX11_read_99 ?_
          refine wp_putI hb ko_216 lf_11_202 (by decide) m0_82 dX11_read_100 ?_
          have hv := hv _ rfl
          generalize (mm_u2 m.1 82 16 (nI 0), m.2) = m10 at hv ⊢
          refine wp_bipush hb (x := (-10)) rfl dX11_read_103 ?_
          refine wp_aload_n hb rfl dX11_read_105 ?_
          refine wp_getI hb ko_216 lf_11_206 (by decide) m0_82 dX11_read_106 ?_
          refine wp_isub hb dX11_read_109 ?_
          exact wp_retI hb rfl dX11_read_110 hv
      · have hv := hv.2 c13
        refine wp_iload_n hb rfl dX11_read_28 ?_
        refine wp_if_le hb (y := 0) (t := 71) ⟨rfl, rfl⟩ dX11_read_29 ⟨fun c15 => ?_, fun c15 => ?_⟩
        · have hv := hv.1 c15
          refine wp_iload_n hb rfl dX11_read_71 ?_
          refine wp_if_eq hb (y := 0) (t := 86) ⟨rfl, rfl⟩ dX11_read_72 ⟨fun c16 => ?_, fun c16 => ?_⟩
          · have hv := hv.1 c16
            refine wp_iconst hb (x := nI 0) rfl dX11_read_86 ?_
            refine wp_istore_n hb rfl dX11_read_87 ?_
            refine wp_iinc hb rfl (y := v1 + nI 1) rfl rfl dX11_read_88 ?_
            refine wp_goto hb (t := 9) ⟨rfl, rfl⟩ dX11_read_91 ?_
            exact wp_for (mm_ls_k (mm_ls_k (mm_ls_k (mm_ls_k (mm_ls_k (mm_ls_k mm_ls_nil)))))) hv
          · have hv := hv.2 c16
            refine wp_aload_n hb rfl dX11_read_75 ?_
            refine wp_callV hb (k' := 214) ko_216 lm_11_240 rfl m0_82 (by decide) (Nat.le_of_ble_eq_true rfl) dX11_read_76 (sp_cI (hv.I (Nat.le_refl _) ?_))
            intro x17 m11 hv
            refine wp_if_eq hb (y := 0) (t := 86) ⟨rfl, rfl⟩ dX11_read_79 ⟨fun c18 => ?_, fun c18 => ?_⟩
            · have hv := hv.1 c18
              refine wp_iconst hb (x := nI 0) rfl dX11_read_86 ?_
              refine wp_istore_n hb rfl dX11_read_87 ?_
              refine wp_iinc hb rfl (y := v1 + nI 1) rfl rfl dX11_read_88 ?_
              refine wp_goto hb (t := 9) ⟨rfl, rfl⟩ dX11_read_91 ?_
              exact wp_for (mm_ls_k (mm_ls_k (mm_ls_k (mm_ls_k (mm_ls_k (mm_ls_k mm_ls_nil)))))) hv
            · have hv := hv.2 c18
              refine wp_iconst hb (x := nI 1) rfl dX11_read_82 ?_
              refine wp_goto hb (t := 87) ⟨rfl, rfl⟩ dX11_read_83 ?_
              refine wp_istore_n hb rfl dX11_read_87 ?_
              refine wp_iinc hb rfl (y := v1 + nI 1) rfl rfl dX11_read_88 ?_
              refine wp_goto hb (t := 9) ⟨rfl, rfl⟩ dX11_read_91 ?_
              exact wp_for (mm_ls_k (mm_ls_k (mm_ls_k (mm_ls_k (mm_ls_k (mm_ls_k mm_ls_nil)))))) hv
        · have hv := hv.2 c15
          refine wp_iload_n hb rfl dX11_read_32 ?_
          refine wp_bipush hb (x := nI 12) rfl dX11_read_33 ?_
          refine wp_icmp_ge hb (t := 51) ⟨rfl, rfl⟩ dX11_read_35 ⟨fun c19 => ?_, fun c19 => ?_⟩
          · have hv := hv.1 c19
            refine wp_iconst hb (x := nI 0) rfl dX11_read_51 ?_
            refine wp_istore_n hb rfl dX11_read_52 ?_
            refine wp_aload_n hb rfl dX11_read_53 ?_
            refine wp_dupR hb dX11_read_54 ?_
            refine wp_getI hb ko_216 lf_11_206 (by decide) m0_82 dX11_read_55 ?_
            refine wp_iload_n hb rfl dX11_read_58 ?_
            refine wp_if_eq hb (y := 0) (t := 66) ⟨rfl, rfl⟩ dX11_read_59 ⟨fun _ => ?_, fun c => absurd (by decide) c⟩
            refine wp_iconst hb (x := nI 0) rfl dX11_read_66 ?_
            refine wp_iadd hb dX11_read_67 ?_
            refine wp_putI hb ko_216 lf_11_206 (by decide) m0_82 dX11_read_68 ?_
            have hv := hv _ rfl
            generalize (mm_u2 m.1 82 17 ((m.1 82 17) + (nI 0)), m.2) = m12 at hv ⊢
            refine wp_iload_n hb rfl dX11_read_71 ?_
            refine wp_if_eq hb (y := 0) (t := 86) ⟨rfl, rfl⟩ dX11_read_72 ⟨fun _ => ?_, fun c => absurd (by decide) c⟩
            refine wp_iconst hb (x := nI 0) rfl dX11_read_86 ?_
            refine wp_istore_n hb rfl dX11_read_87 ?_
            refine wp_iinc hb rfl (y := v1 + nI 1) rfl rfl dX11_read_88 ?_
            refine wp_goto hb (t := 9) ⟨rfl, rfl⟩ dX11_read_91 ?_
            exact wp_for (mm_ls_k (mm_ls_k (mm_ls_k (mm_ls_k (mm_ls_k (mm_ls_k mm_ls_nil)))))) hv
          · have hv := hv.2 c19
            refine wp_aload_n hb rfl dX11_read_38 ?_
            refine wp_callV hb (k' := 213) ko_216 lm_11_209 rfl m0_82 (by decide) (Nat.le_of_ble_eq_true rfl) dX11_read_39 (sp_cI (hv.I (Nat.le_refl _) ?_))
            intro x20 m13 hv
            refine wp_bipush hb (x := nI 59) rfl dX11_read_42 ?_
            refine wp_icmp_ne hb (t := 51) ⟨rfl, rfl⟩ dX11_read_44 ⟨fun c21 => ?_, fun c21 => ?_⟩
            · have hv := hv.1 c21
              refine wp_iconst hb (x := nI 0) rfl dX11_read_51 ?_
              refine wp_istore_n hb rfl dX11_read_52 ?_
              refine wp_aload_n hb rfl dX11_read_53 ?_
              refine wp_dupR hb dX11_read_54 ?_
              refine wp_getI hb ko_216 lf_11_206 (by decide) m0_82 dX11_read_55 ?_
              refine wp_iload_n hb rfl dX11_read_58 ?_
              refine wp_if_eq hb (y := 0) (t := 66) ⟨rfl, rfl⟩ dX11_read_59 ⟨fun _ => ?_, fun c => absurd (by decide) c⟩
              refine wp_iconst hb (x := nI 0) rfl dX11_read_66 ?_
              refine wp_iadd hb dX11_read_67 ?_
              refine wp_putI hb ko_216 lf_11_206 (by decide) m0_82 dX11_read_68 ?_
              have hv := hv _ rfl
              generalize (mm_u2 m13.1 82 17 ((m13.1 82 17) + (nI 0)), m13.2) = m14 at hv ⊢
              refine wp_iload_n hb rfl dX11_read_71 ?_
              refine wp_if_eq hb (y := 0) (t := 86) ⟨rfl, rfl⟩ dX11_read_72 ⟨fun _ => ?_, fun c => absurd (by decide) c⟩
              refine wp_iconst hb (x := nI 0) rfl dX11_read_86 ?_
              refine wp_istore_n hb rfl dX11_read_87 ?_
              refine wp_iinc hb rfl (y := v1 + nI 1) rfl rfl dX11_read_88 ?_
              refine wp_goto hb (t := 9) ⟨rfl, rfl⟩ dX11_read_91 ?_
              exact wp_for (mm_ls_k (mm_ls_k (mm_ls_k (mm_ls_k (mm_ls_k (mm_ls_k mm_ls_nil)))))) hv
            · have hv := hv.2 c21
              refine wp_iconst hb (x := nI 1) rfl dX11_read_47 ?_
              refine wp_goto hb (t := 52) ⟨rfl, rfl⟩ dX11_read_48 ?_
              refine wp_istore_n hb rfl dX11_read_52 ?_
              refine wp_aload_n hb rfl dX11_read_53 ?_
              refine wp_dupR hb dX11_read_54 ?_
              refine wp_getI hb ko_216 lf_11_206 (by decide) m0_82 dX11_read_55 ?_
              refine wp_iload_n hb rfl dX11_read_58 ?_
              refine wp_if_eq hb (y := 0) (t := 66) ⟨rfl, rfl⟩ dX11_read_59 ⟨fun c => absurd c (by decide), fun _ => ?_⟩
              refine wp_iconst hb (x := nI 1) rfl dX11_read_62 ?_
              refine wp_goto hb (t := 67) ⟨rfl, rfl⟩ dX11_read_63 ?_
              refine wp_iadd hb dX11_read_67 ?_
              refine wp_putI hb ko_216 lf_11_206 (by decide) m0_82 dX11_read_68 ?_
              have hv := hv _ rfl
              generalize (mm_u2 m13.1 82 17 ((m13.1 82 17) + (nI 1)), m13.2) = m15 at hv ⊢
              refine wp_iload_n hb rfl dX11_read_71 ?_
              refine wp_if_eq hb (y := 0) (t := 86) ⟨rfl, rfl⟩ dX11_read_72 ⟨fun c => absurd c (by decide), fun _ => ?_⟩
              refine wp_aload_n hb rfl dX11_read_75 ?_
              refine wp_callV hb (k' := 214) ko_216 lm_11_240 rfl m0_82 (by decide) (Nat.le_of_ble_eq_true rfl) dX11_read_76 (sp_cI (hv.I (Nat.le_refl _) ?_))
              intro x22 m16 hv
              refine wp_if_eq hb (y := 0) (t := 86) ⟨rfl, rfl⟩ dX11_read_79 ⟨fun c23 => ?_, fun c23 => ?_⟩
              · have hv := hv.1 c23
                refine wp_iconst hb (x := nI 0) rfl dX11_read_86 ?_
                refine wp_istore_n hb rfl dX11_read_87 ?_
                refine wp_iinc hb rfl (y := v1 + nI 1) rfl rfl dX11_read_88 ?_
                refine wp_goto hb (t := 9) ⟨rfl, rfl⟩ dX11_read_91 ?_
                exact wp_for (mm_ls_k (mm_ls_k (mm_ls_k (mm_ls_k (mm_ls_k (mm_ls_k mm_ls_nil)))))) hv
              · have hv := hv.2 c23
                refine wp_iconst hb (x := nI 1) rfl dX11_read_82 ?_
                refine wp_goto hb (t := 87) ⟨rfl, rfl⟩ dX11_read_83 ?_
                refine wp_istore_n hb rfl dX11_read_87 ?_
                refine wp_iinc hb rfl (y := v1 + nI 1) rfl rfl dX11_read_88 ?_
                refine wp_goto hb (t := 9) ⟨rfl, rfl⟩ dX11_read_91 ?_
                exact wp_for (mm_ls_k (mm_ls_k (mm_ls_k (mm_ls_k (mm_ls_k (mm_ls_k mm_ls_nil)))))) hv
set_option maxRecDepth 100000 in
theorem v_X11_read_118 {d sn : Nat} {v3 : Int32} {m : mm_Mem} {P : Int32 → mm_Mem → Prop} 
    (hv : ((m.1 82 16 ≤ m.1 82 17) → (∀ m1 : mm_Mem, m1 = (mm_u2 m.1 82 16 (nI 0), m.2) → (P v3 m1))) ∧ (¬ (m.1 82 16 ≤ m.1 82 17) → (mm_sp d sn kX11_here [.ref 82] m (qI fun x2 m2 => mm_sp d sn kX11_hasClause [.ref 82] m2 (qI fun x3 m3 => mm_sp d sn kX11_here [.ref 82] m3 (qI fun x4 m4 => ((¬ x4 = nI 59) → (∀ m5 : mm_Mem, m5 = (mm_u2 m4.1 82 17 ((m3.1 82 17) + (nI 0)), m4.2) → (((x3 = 0) → (mm_wp d sn kX11_read 118 [some (.ref 82), none, none, some (.int (v3 + (nI 0))), none, none] [] m5 (qI P))) ∧ (¬ (x3 = 0) → (mm_sp d sn kX11_isDone [.ref 82, .int x2] m5 (qI fun x7 m6 => ((x7 = 0) → (mm_wp d sn kX11_read 118 [some (.ref 82), none, none, some (.int (v3 + (nI 0))), none, none] [] m6 (qI P))) ∧ (¬ (x7 = 0) → (mm_wp d sn kX11_read 118 [some (.ref 82), none, none, some (.int (v3 + (nI 1))), none, none] [] m6 (qI P))))))))) ∧ (¬ (¬ x4 = nI 59) → (∀ m7 : mm_Mem, m7 = (mm_u2 m4.1 82 17 ((m3.1 82 17) + (nI 1)), m4.2) → (((x3 = 0) → (mm_wp d sn kX11_read 118 [some (.ref 82), none, none, some (.int (v3 + (nI 0))), none, none] [] m7 (qI P))) ∧ (¬ (x3 = 0) → (mm_sp d sn kX11_isDone [.ref 82, .int x2] m7 (qI fun x10 m8 => ((x10 = 0) → (mm_wp d sn kX11_read 118 [some (.ref 82), none, none, some (.int (v3 + (nI 0))), none, none] [] m8 (qI P))) ∧ (¬ (x10 = 0) → (mm_wp d sn kX11_read 118 [some (.ref 82), none, none, some (.int (v3 + (nI 1))), none, none] [] m8 (qI P))))))))))))))) :
    mm_wp d sn kX11_read 118 [some (.ref 82), none, none, some (.int v3), none, none] [] m (qI P) := by
  have hb := mb_216
  refine wp_aload_n hb rfl dX11_read_118 ?_
  refine wp_getI hb ko_216 lf_11_206 (by decide) m0_82 dX11_read_119 ?_
  refine wp_aload_n hb rfl dX11_read_122 ?_
  refine wp_getI hb ko_216 lf_11_202 (by decide) m0_82 dX11_read_123 ?_
  refine wp_icmp_ge hb (t := 189) ⟨rfl, rfl⟩ dX11_read_126 ⟨fun c1 => ?_, fun c1 => ?_⟩
  · have hv := hv.1 c1
    refine wp_aload_n hb rfl dX11_read_189 ?_
    refine wp_iconst hb (x := nI 0) rfl dX11_read_190 ?_
    refine wp_putI hb ko_216 lf_11_202 (by decide) m0_82 dX11_read_191 ?_
    have hv := hv _ rfl
    generalize (mm_u2 m.1 82 16 (nI 0), m.2) = m1 at hv ⊢
    refine wp_iload_n hb rfl dX11_read_194 ?_
    exact wp_retI hb rfl dX11_read_195 hv
  · have hv := hv.2 c1
    refine wp_aload_n hb rfl dX11_read_129 ?_
    refine wp_callV hb (k' := 213) ko_216 lm_11_209 rfl m0_82 (by decide) (Nat.le_of_ble_eq_true rfl) dX11_read_130 (sp_cI (hv.I (Nat.le_refl _) ?_))
    intro x2 m2 hv
    refine wp_istore hb rfl dX11_read_133 ?_
    refine wp_aload_n hb rfl dX11_read_135 ?_
    refine wp_callV hb (k' := 214) ko_216 lm_11_240 rfl m0_82 (by decide) (Nat.le_of_ble_eq_true rfl) dX11_read_136 (sp_cI (hv.I (Nat.le_refl _) ?_))
    intro x3 m3 hv
    refine wp_istore hb rfl dX11_read_139 ?_
    refine wp_aload_n hb rfl dX11_read_141 ?_
    refine wp_dupR hb dX11_read_142 ?_
    refine wp_getI hb ko_216 lf_11_206 (by decide) m0_82 dX11_read_143 ?_
    refine wp_aload_n hb rfl dX11_read_146 ?_
    refine wp_callV hb (k' := 213) ko_216 lm_11_209 rfl m0_82 (by decide) (Nat.le_of_ble_eq_true rfl) dX11_read_147 (sp_cI (hv.I (Nat.le_refl _) ?_))
    intro x4 m4 hv
    refine wp_bipush hb (x := nI 59) rfl dX11_read_150 ?_
    refine wp_icmp_ne hb (t := 159) ⟨rfl, rfl⟩ dX11_read_152 ⟨fun c5 => ?_, fun c5 => ?_⟩
    · have hv := hv.1 c5
      refine wp_iconst hb (x := nI 0) rfl dX11_read_159 ?_
      refine wp_iadd hb dX11_read_160 ?_
      refine wp_putI hb ko_216 lf_11_206 (by decide) m0_82 dX11_read_161 ?_
      have hv := hv _ rfl
      generalize (mm_u2 m4.1 82 17 ((m3.1 82 17) + (nI 0)), m4.2) = m5 at hv ⊢
      refine wp_iload_n hb rfl dX11_read_164 ?_
      refine wp_iload hb rfl dX11_read_165 ?_
      refine wp_if_eq hb (y := 0) (t := 183) ⟨rfl, rfl⟩ dX11_read_167 ⟨fun c6 => ?_, fun c6 => ?_⟩
      · have hv := hv.1 c6
        refine wp_iconst hb (x := nI 0) rfl dX11_read_183 ?_
        refine wp_iadd hb dX11_read_184 ?_
        refine wp_istore_n hb rfl dX11_read_185 ?_
        refine wp_goto hb (t := 118) ⟨rfl, rfl⟩ dX11_read_186 ?_
        exact wp_for (mm_ls_k (mm_ls_k (mm_ls_k (mm_ls_k (mm_ls_f (mm_ls_f mm_ls_nil)))))) hv
      · have hv := hv.2 c6
        refine wp_aload_n hb rfl dX11_read_170 ?_
        refine wp_iload hb rfl dX11_read_171 ?_
        refine wp_callV hb (k' := 215) ko_216 lm_11_244 rfl m0_82 (by decide) (Nat.le_of_ble_eq_true rfl) dX11_read_173 (sp_cI (hv.I (Nat.le_refl _) ?_))
        intro x7 m6 hv
        refine wp_if_eq hb (y := 0) (t := 183) ⟨rfl, rfl⟩ dX11_read_176 ⟨fun c8 => ?_, fun c8 => ?_⟩
        · have hv := hv.1 c8
          refine wp_iconst hb (x := nI 0) rfl dX11_read_183 ?_
          refine wp_iadd hb dX11_read_184 ?_
          refine wp_istore_n hb rfl dX11_read_185 ?_
          refine wp_goto hb (t := 118) ⟨rfl, rfl⟩ dX11_read_186 ?_
          exact wp_for (mm_ls_k (mm_ls_k (mm_ls_k (mm_ls_k (mm_ls_f (mm_ls_f mm_ls_nil)))))) hv
        · have hv := hv.2 c8
          refine wp_iconst hb (x := nI 1) rfl dX11_read_179 ?_
          refine wp_goto hb (t := 184) ⟨rfl, rfl⟩ dX11_read_180 ?_
          refine wp_iadd hb dX11_read_184 ?_
          refine wp_istore_n hb rfl dX11_read_185 ?_
          refine wp_goto hb (t := 118) ⟨rfl, rfl⟩ dX11_read_186 ?_
          exact wp_for (mm_ls_k (mm_ls_k (mm_ls_k (mm_ls_k (mm_ls_f (mm_ls_f mm_ls_nil)))))) hv
    · have hv := hv.2 c5
      refine wp_iconst hb (x := nI 1) rfl dX11_read_155 ?_
      refine wp_goto hb (t := 160) ⟨rfl, rfl⟩ dX11_read_156 ?_
      refine wp_iadd hb dX11_read_160 ?_
      refine wp_putI hb ko_216 lf_11_206 (by decide) m0_82 dX11_read_161 ?_
      have hv := hv _ rfl
      generalize (mm_u2 m4.1 82 17 ((m3.1 82 17) + (nI 1)), m4.2) = m7 at hv ⊢
      refine wp_iload_n hb rfl dX11_read_164 ?_
      refine wp_iload hb rfl dX11_read_165 ?_
      refine wp_if_eq hb (y := 0) (t := 183) ⟨rfl, rfl⟩ dX11_read_167 ⟨fun c9 => ?_, fun c9 => ?_⟩
      · have hv := hv.1 c9
        refine wp_iconst hb (x := nI 0) rfl dX11_read_183 ?_
        refine wp_iadd hb dX11_read_184 ?_
        refine wp_istore_n hb rfl dX11_read_185 ?_
        refine wp_goto hb (t := 118) ⟨rfl, rfl⟩ dX11_read_186 ?_
        exact wp_for (mm_ls_k (mm_ls_k (mm_ls_k (mm_ls_k (mm_ls_f (mm_ls_f mm_ls_nil)))))) hv
      · have hv := hv.2 c9
        refine wp_aload_n hb rfl dX11_read_170 ?_
        refine wp_iload hb rfl dX11_read_171 ?_
        refine wp_callV hb (k' := 215) ko_216 lm_11_244 rfl m0_82 (by decide) (Nat.le_of_ble_eq_true rfl) dX11_read_173 (sp_cI (hv.I (Nat.le_refl _) ?_))
        intro x10 m8 hv
        refine wp_if_eq hb (y := 0) (t := 183) ⟨rfl, rfl⟩ dX11_read_176 ⟨fun c11 => ?_, fun c11 => ?_⟩
        · have hv := hv.1 c11
          refine wp_iconst hb (x := nI 0) rfl dX11_read_183 ?_
          refine wp_iadd hb dX11_read_184 ?_
          refine wp_istore_n hb rfl dX11_read_185 ?_
          refine wp_goto hb (t := 118) ⟨rfl, rfl⟩ dX11_read_186 ?_
          exact wp_for (mm_ls_k (mm_ls_k (mm_ls_k (mm_ls_k (mm_ls_f (mm_ls_f mm_ls_nil)))))) hv
        · have hv := hv.2 c11
          refine wp_iconst hb (x := nI 1) rfl dX11_read_179 ?_
          refine wp_goto hb (t := 184) ⟨rfl, rfl⟩ dX11_read_180 ?_
          refine wp_iadd hb dX11_read_184 ?_
          refine wp_istore_n hb rfl dX11_read_185 ?_
          refine wp_goto hb (t := 118) ⟨rfl, rfl⟩ dX11_read_186 ?_
          exact wp_for (mm_ls_k (mm_ls_k (mm_ls_k (mm_ls_k (mm_ls_f (mm_ls_f mm_ls_nil)))))) hv
set_option maxRecDepth 100000 in
theorem v_X11_isTape {d sn : Nat} {v0 : Int32} {m : mm_Mem} {P : Int32 → mm_Mem → Prop} 
    (hv : mm_sp d sn kX11_in [.long v0.toInt64, .long (lN 0), .long (lN 5)] m (qI fun x1 m1 => (x1 = 0 ∨ x1 = 1) ∧ P x1 m1)) :
    mm_sp (d + 1) sn kX11_isTape [.int v0] m (qI P) := by
  have hb := mb_217
  refine wp_in (la := [some (.int v0)]) ⟨⟨Nat.le_of_ble_eq_true rfl, by decide, by decide⟩, rfl⟩ ?_
  refine wp_iload_n hb rfl dX11_isTape_0 ?_
  refine wp_i2l hb dX11_isTape_1 ?_
  refine wp_lconst hb (x := lN 0) rfl dX11_isTape_2 ?_
  refine wp_ldc2 hb (ko_217) (kl_11_247) dX11_isTape_3 ?_
  refine wp_callS hb (k' := 152) ko_217 lm_11_85 (by decide) rfl (Nat.le_of_ble_eq_true rfl) dX11_isTape_6 (sp_cI (hv.I (Nat.le_refl _) ?_))
  intro x1 m1 hv
  exact wp_retZ hb rfl hv.1 dX11_isTape_9 hv.2
set_option maxRecDepth 100000 in
theorem v_X11_judge {d sn : Nat} {v1 : Int32} {v2 : Int32} {m : mm_Mem} {P : Int32 → mm_Mem → Prop} 
    (hv : mm_sp d sn kX11_isTape [.int v1] m (qI fun x1 m1 => ((¬ x1 = 0) → (vp_in v1 6 ∧ (((m1.1 202 v1.toNatClampNeg = (-1)) → (mm_wp d sn kX11_judge 37 [some (.ref 82), some (.int v1), some (.int v2), some (.int (nI 0)), some (.int (nI 0))] [] m1 (qI P))) ∧ (¬ (m1.1 202 v1.toNatClampNeg = (-1)) → (vp_in v1 6 ∧ (((m1.1 202 v1.toNatClampNeg = nI 1) → (mm_wp d sn kX11_judge 37 [some (.ref 82), some (.int v1), some (.int v2), some (.int (nI 0)), some (.int (nI 0))] [] m1 (qI P))) ∧ (¬ (m1.1 202 v1.toNatClampNeg = nI 1) → (P (-12) m1)))))))) ∧ (¬ (¬ x1 = 0) → (P (-1) m1)))) :
    mm_sp (d + 1) sn kX11_judge [.ref 82, .int v1, .int v2] m (qI P) := by
  have hb := mb_218
  refine wp_in (la := [some (.ref 82), some (.int v1), some (.int v2), none, none]) ⟨⟨Nat.le_of_ble_eq_true rfl, by decide, by decide⟩, rfl⟩ ?_
  refine wp_iload_n hb rfl dX11_judge_0 ?_
  refine wp_callS hb (k' := 217) ko_218 lm_11_249 (by decide) rfl (Nat.le_of_ble_eq_true rfl) dX11_judge_1 (sp_cI (hv.I (Nat.le_refl _) ?_))
  intro x1 m1 hv
  refine wp_if_ne hb (y := 0) (t := 9) ⟨rfl, rfl⟩ dX11_judge_4 ⟨fun c2 => ?_, fun c2 => ?_⟩
  · have hv := hv.1 c2
    refine wp_aload_n hb rfl dX11_judge_9 ?_
    refine wp_getR hb ko_218 lf_11_62 (by decide) m0_82 r0_82_21 dX11_judge_10 ?_
    refine wp_iload_n hb rfl dX11_judge_13 ?_
    obtain ⟨q3, hv⟩ := hv
    refine wp_iaload hb rfl m0_202 q3 dX11_judge_14 ?_
    refine wp_iconst hb (x := (-1)) rfl dX11_judge_15 ?_
    refine wp_icmp_eq hb (t := 32) ⟨rfl, rfl⟩ dX11_judge_16 ⟨fun c4 => ?_, fun c4 => ?_⟩
    · have hv := hv.1 c4
      refine wp_iconst hb (x := nI 0) rfl dX11_judge_32 ?_
      refine wp_istore_n hb rfl dX11_judge_33 ?_
      refine wp_iconst hb (x := nI 0) rfl dX11_judge_34 ?_
      refine wp_istore hb rfl dX11_judge_35 ?_
      exact wp_for (mm_ls_k (mm_ls_k (mm_ls_k (mm_ls_k (mm_ls_k mm_ls_nil))))) hv
    · have hv := hv.2 c4
      refine wp_aload_n hb rfl dX11_judge_19 ?_
      refine wp_getR hb ko_218 lf_11_62 (by decide) m0_82 r0_82_21 dX11_judge_20 ?_
      refine wp_iload_n hb rfl dX11_judge_23 ?_
      obtain ⟨q5, hv⟩ := hv
      refine wp_iaload hb rfl m0_202 q5 dX11_judge_24 ?_
      refine wp_iconst hb (x := nI 1) rfl dX11_judge_25 ?_
      refine wp_icmp_eq hb (t := 32) ⟨rfl, rfl⟩ dX11_judge_26 ⟨fun c6 => ?_, fun c6 => ?_⟩
      · have hv := hv.1 c6
        refine wp_iconst hb (x := nI 0) rfl dX11_judge_32 ?_
        refine wp_istore_n hb rfl dX11_judge_33 ?_
        refine wp_iconst hb (x := nI 0) rfl dX11_judge_34 ?_
        refine wp_istore hb rfl dX11_judge_35 ?_
        exact wp_for (mm_ls_k (mm_ls_k (mm_ls_k (mm_ls_k (mm_ls_k mm_ls_nil))))) hv
      · have hv := hv.2 c6
        refine wp_bipush hb (x := (-12)) rfl dX11_judge_29 ?_
        exact wp_retI hb rfl dX11_judge_31 hv
  · have hv := hv.2 c2
    refine wp_iconst hb (x := (-1)) rfl dX11_judge_7 ?_
    exact wp_retI hb rfl dX11_judge_8 hv
set_option maxRecDepth 100000 in
theorem v_X11_judge_37 {d sn : Nat} {v1 : Int32} {v2 : Int32} {v3 : Int32} {v4 : Int32} {m : mm_Mem} {P : Int32 → mm_Mem → Prop} 
    (hv : ((nI 256 ≤ v4) → (P (-5) m)) ∧ (¬ (nI 256 ≤ v4) → (vp_in v4 256 ∧ (((m.1 86 v4.toNatClampNeg = 0) → (mm_wp d sn kX11_judge 37 [some (.ref 82), some (.int v1), some (.int v2), some (.int v3), some (.int (v4 + nI 1))] [] m (qI P))) ∧ (¬ (m.1 86 v4.toNatClampNeg = 0) → (((v2 < 0) → (P ((nI 100) + v3) m)) ∧ (¬ (v2 < 0) → (vp_in v1 6 ∧ (((m.1 202 v1.toNatClampNeg < 0) → (P ((nI 100) + v3) m)) ∧ (¬ (m.1 202 v1.toNatClampNeg < 0) → (vp_in v1 6 ∧ (((v2 < (m.1 203 v1.toNatClampNeg) - v3) → (∃ i9 : Nat, i9 < 6 ∧ v1 = nI i9 ∧ (vp_in (v2 + v3) 60 ∧ (((lg_cmp (m.2 (205 + i9) (v2 + v3).toNatClampNeg) v4.toInt64 = 0) → (mm_wp d sn kX11_judge 37 [some (.ref 82), some (.int v1), some (.int v2), some (.int (v3 + nI 1)), some (.int (v4 + nI 1))] [] m (qI P))) ∧ (¬ (lg_cmp (m.2 (205 + i9) (v2 + v3).toNatClampNeg) v4.toInt64 = 0) → (P v3 m)))))) ∧ (¬ (v2 < (m.1 203 v1.toNatClampNeg) - v3) → (P ((nI 100) + v3) m)))))))))))))) :
    mm_wp d sn kX11_judge 37 [some (.ref 82), some (.int v1), some (.int v2), some (.int v3), some (.int v4)] [] m (qI P) := by
  have hb := mb_218
  refine wp_iload hb rfl dX11_judge_37 ?_
  refine wp_sipush hb (x := nI 256) rfl dX11_judge_39 ?_
  refine wp_icmp_ge hb (t := 115) ⟨rfl, rfl⟩ dX11_judge_42 ⟨fun c1 => ?_, fun c1 => ?_⟩
  · have hv := hv.1 c1
    refine wp_bipush hb (x := (-5)) rfl dX11_judge_115 ?_
    exact wp_retI hb rfl dX11_judge_117 hv
  · have hv := hv.2 c1
    refine wp_aload_n hb rfl dX11_judge_45 ?_
    refine wp_getR hb ko_218 lf_11_20 (by decide) m0_82 r0_82_2 dX11_judge_46 ?_
    refine wp_iconst hb (x := nI 0) rfl dX11_judge_49 ?_
    refine wp_aaload hb m0_85 (by decide) (vp_in_nI (by decide) (by decide)) r0_85_0 dX11_judge_50 ?_
    refine wp_iload hb rfl dX11_judge_51 ?_
    obtain ⟨q2, hv⟩ := hv
    refine wp_baload hb rfl m0_86 q2 dX11_judge_53 ?_
    refine wp_if_eq hb (y := 0) (t := 109) ⟨rfl, rfl⟩ dX11_judge_54 ⟨fun c3 => ?_, fun c3 => ?_⟩
    · have hv := hv.1 c3
      refine wp_iinc hb rfl (y := v4 + nI 1) rfl rfl dX11_judge_109 ?_
      refine wp_goto hb (t := 37) ⟨rfl, rfl⟩ dX11_judge_112 ?_
      exact wp_for (mm_ls_k (mm_ls_k (mm_ls_k (mm_ls_k (mm_ls_k mm_ls_nil))))) hv
    · have hv := hv.2 c3
      refine wp_iload_n hb rfl dX11_judge_57 ?_
      refine wp_if_lt hb (y := 0) (t := 82) ⟨rfl, rfl⟩ dX11_judge_58 ⟨fun c4 => ?_, fun c4 => ?_⟩
      · have hv := hv.1 c4
        refine wp_bipush hb (x := nI 100) rfl dX11_judge_82 ?_
        refine wp_iload_n hb rfl dX11_judge_84 ?_
        refine wp_iadd hb dX11_judge_85 ?_
        exact wp_retI hb rfl dX11_judge_86 hv
      · have hv := hv.2 c4
        refine wp_aload_n hb rfl dX11_judge_61 ?_
        refine wp_getR hb ko_218 lf_11_62 (by decide) m0_82 r0_82_21 dX11_judge_62 ?_
        refine wp_iload_n hb rfl dX11_judge_65 ?_
        obtain ⟨q5, hv⟩ := hv
        refine wp_iaload hb rfl m0_202 q5 dX11_judge_66 ?_
        refine wp_if_lt hb (y := 0) (t := 82) ⟨rfl, rfl⟩ dX11_judge_67 ⟨fun c6 => ?_, fun c6 => ?_⟩
        · have hv := hv.1 c6
          refine wp_bipush hb (x := nI 100) rfl dX11_judge_82 ?_
          refine wp_iload_n hb rfl dX11_judge_84 ?_
          refine wp_iadd hb dX11_judge_85 ?_
          exact wp_retI hb rfl dX11_judge_86 hv
        · have hv := hv.2 c6
          refine wp_iload_n hb rfl dX11_judge_70 ?_
          refine wp_aload_n hb rfl dX11_judge_71 ?_
          refine wp_getR hb ko_218 lf_11_65 (by decide) m0_82 r0_82_22 dX11_judge_72 ?_
          refine wp_iload_n hb rfl dX11_judge_75 ?_
          obtain ⟨q7, hv⟩ := hv
          refine wp_iaload hb rfl m0_203 q7 dX11_judge_76 ?_
          refine wp_iload_n hb rfl dX11_judge_77 ?_
          refine wp_isub hb dX11_judge_78 ?_
          refine wp_icmp_lt hb (t := 87) ⟨rfl, rfl⟩ dX11_judge_79 ⟨fun c8 => ?_, fun c8 => ?_⟩
          · have hv := hv.1 c8
            refine wp_aload_n hb rfl dX11_judge_87 ?_
            refine wp_getR hb ko_218 lf_11_70 (by decide) m0_82 r0_82_23 dX11_judge_88 ?_
            refine wp_iload_n hb rfl dX11_judge_91 ?_
            obtain ⟨i9, hi9, hx9, hv⟩ := hv
            refine wp_aaload hb m0_204 (by decide) (mm_inx hx9 hi9 (by decide)) (mm_rx hx9 (by omega) (mm_items _ hi9).1) dX11_judge_92 ?_
            refine wp_iload_n hb rfl dX11_judge_93 ?_
            refine wp_iload_n hb rfl dX11_judge_94 ?_
            refine wp_iadd hb dX11_judge_95 ?_
            obtain ⟨q10, hv⟩ := hv
            refine wp_laload hb rfl ((mm_items _ hi9).2 _) q10 dX11_judge_96 ?_
            refine wp_iload hb rfl dX11_judge_97 ?_
            refine wp_i2l hb dX11_judge_99 ?_
            refine wp_lcmp hb dX11_judge_100 ?_
            refine wp_if_eq hb (y := 0) (t := 106) ⟨rfl, rfl⟩ dX11_judge_101 ⟨fun c11 => ?_, fun c11 => ?_⟩
            · have hv := hv.1 c11
              refine wp_iinc hb rfl (y := v3 + nI 1) rfl rfl dX11_judge_106 ?_
              refine wp_iinc hb rfl (y := v4 + nI 1) rfl rfl dX11_judge_109 ?_
              refine wp_goto hb (t := 37) ⟨rfl, rfl⟩ dX11_judge_112 ?_
              exact wp_for (mm_ls_k (mm_ls_k (mm_ls_k (mm_ls_k (mm_ls_k mm_ls_nil))))) hv
            · have hv := hv.2 c11
              refine wp_iload_n hb rfl dX11_judge_104 ?_
              exact wp_retI hb rfl dX11_judge_105 hv
          · have hv := hv.2 c8
            refine wp_bipush hb (x := nI 100) rfl dX11_judge_82 ?_
            refine wp_iload_n hb rfl dX11_judge_84 ?_
            refine wp_iadd hb dX11_judge_85 ?_
            exact wp_retI hb rfl dX11_judge_86 hv
set_option maxRecDepth 100000 in
theorem v_X11_tape {d sn : Nat} {v1 : Int32} {v2 : Int32} {v3 : Int32} {m : mm_Mem} {P : Int32 → mm_Mem → Prop} 
    (hv : mm_sp d sn kX11_isTape [.int v1] m (qI fun x1 m1 => ((¬ x1 = 0) → (mm_sp d sn kX11_in [.long v2.toInt64, .long (-1), .long (lN 4)] m1 (qI fun x3 m2 => ((x3 = 0) → (P (-2) m2)) ∧ (¬ (x3 = 0) → (((v2 < 0) → (((v2 < 0) → (vp_in v1 6 ∧ (∀ m3 : mm_Mem, m3 = (mm_u2 m2.1 202 v1.toNatClampNeg v2, m2.2) → (((0 ≤ v2) → (vp_in v1 6 ∧ (∀ m4 : mm_Mem, m4 = (mm_u2 m3.1 203 v1.toNatClampNeg v3, m3.2) → (mm_wp d sn kX11_tape 72 [some (.ref 82), some (.int v1), none, none, some (.int (nI 0))] [] m4 (qI P))))) ∧ (¬ (0 ≤ v2) → (vp_in v1 6 ∧ (∀ m5 : mm_Mem, m5 = (mm_u2 m3.1 203 v1.toNatClampNeg (nI 0), m3.2) → (mm_wp d sn kX11_tape 72 [some (.ref 82), some (.int v1), none, none, some (.int (nI 0))] [] m5 (qI P))))))))) ∧ (¬ (v2 < 0) → (((0 ≤ v3) → (vp_in v1 6 ∧ (∀ m6 : mm_Mem, m6 = (mm_u2 m2.1 202 v1.toNatClampNeg v2, m2.2) → (((0 ≤ v2) → (vp_in v1 6 ∧ (∀ m7 : mm_Mem, m7 = (mm_u2 m6.1 203 v1.toNatClampNeg v3, m6.2) → (mm_wp d sn kX11_tape 72 [some (.ref 82), some (.int v1), none, none, some (.int (nI 0))] [] m7 (qI P))))) ∧ (¬ (0 ≤ v2) → (vp_in v1 6 ∧ (∀ m8 : mm_Mem, m8 = (mm_u2 m6.1 203 v1.toNatClampNeg (nI 0), m6.2) → (mm_wp d sn kX11_tape 72 [some (.ref 82), some (.int v1), none, none, some (.int (nI 0))] [] m8 (qI P))))))))) ∧ (¬ (0 ≤ v3) → (P (-14) m2)))))) ∧ (¬ (v2 < 0) → (((v3 ≤ nI 60) → (((v2 < 0) → (vp_in v1 6 ∧ (∀ m9 : mm_Mem, m9 = (mm_u2 m2.1 202 v1.toNatClampNeg v2, m2.2) → (((0 ≤ v2) → (vp_in v1 6 ∧ (∀ m10 : mm_Mem, m10 = (mm_u2 m9.1 203 v1.toNatClampNeg v3, m9.2) → (mm_wp d sn kX11_tape 72 [some (.ref 82), some (.int v1), none, none, some (.int (nI 0))] [] m10 (qI P))))) ∧ (¬ (0 ≤ v2) → (vp_in v1 6 ∧ (∀ m11 : mm_Mem, m11 = (mm_u2 m9.1 203 v1.toNatClampNeg (nI 0), m9.2) → (mm_wp d sn kX11_tape 72 [some (.ref 82), some (.int v1), none, none, some (.int (nI 0))] [] m11 (qI P))))))))) ∧ (¬ (v2 < 0) → (((0 ≤ v3) → (vp_in v1 6 ∧ (∀ m12 : mm_Mem, m12 = (mm_u2 m2.1 202 v1.toNatClampNeg v2, m2.2) → (((0 ≤ v2) → (vp_in v1 6 ∧ (∀ m13 : mm_Mem, m13 = (mm_u2 m12.1 203 v1.toNatClampNeg v3, m12.2) → (mm_wp d sn kX11_tape 72 [some (.ref 82), some (.int v1), none, none, some (.int (nI 0))] [] m13 (qI P))))) ∧ (¬ (0 ≤ v2) → (vp_in v1 6 ∧ (∀ m14 : mm_Mem, m14 = (mm_u2 m12.1 203 v1.toNatClampNeg (nI 0), m12.2) → (mm_wp d sn kX11_tape 72 [some (.ref 82), some (.int v1), none, none, some (.int (nI 0))] [] m14 (qI P))))))))) ∧ (¬ (0 ≤ v3) → (P (-14) m2)))))) ∧ (¬ (v3 ≤ nI 60) → (P (-2) m2))))))))) ∧ (¬ (¬ x1 = 0) → (P (-1) m1)))) :
    mm_sp (d + 1) sn kX11_tape [.ref 82, .int v1, .int v2, .int v3] m (qI P) := by
  have hb := mb_219
  refine wp_in (la := [some (.ref 82), some (.int v1), some (.int v2), some (.int v3), none]) ⟨⟨Nat.le_of_ble_eq_true rfl, by decide, by decide⟩, rfl⟩ ?_
  refine wp_iload_n hb rfl dX11_tape_0 ?_
  refine wp_callS hb (k' := 217) ko_219 lm_11_249 (by decide) rfl (Nat.le_of_ble_eq_true rfl) dX11_tape_1 (sp_cI (hv.I (Nat.le_refl _) ?_))
  intro x1 m1 hv
  refine wp_if_ne hb (y := 0) (t := 9) ⟨rfl, rfl⟩ dX11_tape_4 ⟨fun c2 => ?_, fun c2 => ?_⟩
  · have hv := hv.1 c2
    refine wp_iload_n hb rfl dX11_tape_9 ?_
    refine wp_i2l hb dX11_tape_10 ?_
    refine wp_ldc2 hb (ko_219) (kl_11_252) dX11_tape_11 ?_
    refine wp_ldc2 hb (ko_219) (kl_11_97) dX11_tape_14 ?_
    refine wp_callS hb (k' := 152) ko_219 lm_11_85 (by decide) rfl (Nat.le_of_ble_eq_true rfl) dX11_tape_17 (sp_cI (hv.I (Nat.le_refl _) ?_))
    intro x3 m2 hv
    refine wp_if_eq hb (y := 0) (t := 33) ⟨rfl, rfl⟩ dX11_tape_20 ⟨fun c4 => ?_, fun c4 => ?_⟩
    · have hv := hv.1 c4
      refine wp_bipush hb (x := (-2)) rfl dX11_tape_33 ?_
      exact wp_retI hb rfl dX11_tape_35 hv
    · have hv := hv.2 c4
      refine wp_iload_n hb rfl dX11_tape_23 ?_
      refine wp_if_lt hb (y := 0) (t := 36) ⟨rfl, rfl⟩ dX11_tape_24 ⟨fun c5 => ?_, fun c5 => ?_⟩
      · have hv := hv.1 c5
        refine wp_iload_n hb rfl dX11_tape_36 ?_
        refine wp_if_lt hb (y := 0) (t := 47) ⟨rfl, rfl⟩ dX11_tape_37 ⟨fun c6 => ?_, fun c6 => ?_⟩
        · have hv := hv.1 c6
          refine wp_aload_n hb rfl dX11_tape_47 ?_
          refine wp_getR hb ko_219 lf_11_62 (by decide) m0_82 r0_82_21 dX11_tape_48 ?_
          refine wp_iload_n hb rfl dX11_tape_51 ?_
          refine wp_iload_n hb rfl dX11_tape_52 ?_
          obtain ⟨q7, hv⟩ := hv
          refine wp_iastore hb rfl m0_202 (by decide) q7 dX11_tape_53 ?_
          have hv := hv _ rfl
          generalize (mm_u2 m2.1 202 v1.toNatClampNeg v2, m2.2) = m3 at hv ⊢
          refine wp_aload_n hb rfl dX11_tape_54 ?_
          refine wp_getR hb ko_219 lf_11_65 (by decide) m0_82 r0_82_22 dX11_tape_55 ?_
          refine wp_iload_n hb rfl dX11_tape_58 ?_
          refine wp_iload_n hb rfl dX11_tape_59 ?_
          refine wp_if_ge hb (y := 0) (t := 67) ⟨rfl, rfl⟩ dX11_tape_60 ⟨fun c8 => ?_, fun c8 => ?_⟩
          · have hv := hv.1 c8
            refine wp_iload_n hb rfl dX11_tape_67 ?_
            obtain ⟨q9, hv⟩ := hv
            refine wp_iastore hb rfl m0_203 (by decide) q9 dX11_tape_68 ?_
            have hv := hv _ rfl
            generalize (mm_u2 m3.1 203 v1.toNatClampNeg v3, m3.2) = m4 at hv ⊢
            refine wp_iconst hb (x := nI 0) rfl dX11_tape_69 ?_
            refine wp_istore hb rfl dX11_tape_70 ?_
            exact wp_for (mm_ls_k (mm_ls_k (mm_ls_f (mm_ls_f (mm_ls_k mm_ls_nil))))) hv
          · have hv := hv.2 c8
            refine wp_iconst hb (x := nI 0) rfl dX11_tape_63 ?_
            refine wp_goto hb (t := 68) ⟨rfl, rfl⟩ dX11_tape_64 ?_
            obtain ⟨q10, hv⟩ := hv
            refine wp_iastore hb rfl m0_203 (by decide) q10 dX11_tape_68 ?_
            have hv := hv _ rfl
            generalize (mm_u2 m3.1 203 v1.toNatClampNeg (nI 0), m3.2) = m5 at hv ⊢
            refine wp_iconst hb (x := nI 0) rfl dX11_tape_69 ?_
            refine wp_istore hb rfl dX11_tape_70 ?_
            exact wp_for (mm_ls_k (mm_ls_k (mm_ls_f (mm_ls_f (mm_ls_k mm_ls_nil))))) hv
        · have hv := hv.2 c6
          refine wp_iload_n hb rfl dX11_tape_40 ?_
          refine wp_if_ge hb (y := 0) (t := 47) ⟨rfl, rfl⟩ dX11_tape_41 ⟨fun c11 => ?_, fun c11 => ?_⟩
          · have hv := hv.1 c11
            refine wp_aload_n hb rfl dX11_tape_47 ?_
            refine wp_getR hb ko_219 lf_11_62 (by decide) m0_82 r0_82_21 dX11_tape_48 ?_
            refine wp_iload_n hb rfl dX11_tape_51 ?_
            refine wp_iload_n hb rfl dX11_tape_52 ?_
            obtain ⟨q12, hv⟩ := hv
            refine wp_iastore hb rfl m0_202 (by decide) q12 dX11_tape_53 ?_
            have hv := hv _ rfl
            generalize (mm_u2 m2.1 202 v1.toNatClampNeg v2, m2.2) = m6 at hv ⊢
            refine wp_aload_n hb rfl dX11_tape_54 ?_
            refine wp_getR hb ko_219 lf_11_65 (by decide) m0_82 r0_82_22 dX11_tape_55 ?_
            refine wp_iload_n hb rfl dX11_tape_58 ?_
            refine wp_iload_n hb rfl dX11_tape_59 ?_
            refine wp_if_ge hb (y := 0) (t := 67) ⟨rfl, rfl⟩ dX11_tape_60 ⟨fun c13 => ?_, fun c13 => ?_⟩
            · have hv := hv.1 c13
              refine wp_iload_n hb rfl dX11_tape_67 ?_
              obtain ⟨q14, hv⟩ := hv
              refine wp_iastore hb rfl m0_203 (by decide) q14 dX11_tape_68 ?_
              have hv := hv _ rfl
              generalize (mm_u2 m6.1 203 v1.toNatClampNeg v3, m6.2) = m7 at hv ⊢
              refine wp_iconst hb (x := nI 0) rfl dX11_tape_69 ?_
              refine wp_istore hb rfl dX11_tape_70 ?_
              exact wp_for (mm_ls_k (mm_ls_k (mm_ls_f (mm_ls_f (mm_ls_k mm_ls_nil))))) hv
            · have hv := hv.2 c13
              refine wp_iconst hb (x := nI 0) rfl dX11_tape_63 ?_
              refine wp_goto hb (t := 68) ⟨rfl, rfl⟩ dX11_tape_64 ?_
              obtain ⟨q15, hv⟩ := hv
              refine wp_iastore hb rfl m0_203 (by decide) q15 dX11_tape_68 ?_
              have hv := hv _ rfl
              generalize (mm_u2 m6.1 203 v1.toNatClampNeg (nI 0), m6.2) = m8 at hv ⊢
              refine wp_iconst hb (x := nI 0) rfl dX11_tape_69 ?_
              refine wp_istore hb rfl dX11_tape_70 ?_
              exact wp_for (mm_ls_k (mm_ls_k (mm_ls_f (mm_ls_f (mm_ls_k mm_ls_nil))))) hv
          · have hv := hv.2 c11
            refine wp_bipush hb (x := (-14)) rfl dX11_tape_44 ?_
            exact wp_retI hb rfl dX11_tape_46 hv
      · have hv := hv.2 c5
        refine wp_iload_n hb rfl dX11_tape_27 ?_
        refine wp_bipush hb (x := nI 60) rfl dX11_tape_28 ?_
        refine wp_icmp_le hb (t := 36) ⟨rfl, rfl⟩ dX11_tape_30 ⟨fun c16 => ?_, fun c16 => ?_⟩
        · have hv := hv.1 c16
          refine wp_iload_n hb rfl dX11_tape_36 ?_
          refine wp_if_lt hb (y := 0) (t := 47) ⟨rfl, rfl⟩ dX11_tape_37 ⟨fun c17 => ?_, fun c17 => ?_⟩
          · have hv := hv.1 c17
            refine wp_aload_n hb rfl dX11_tape_47 ?_
            refine wp_getR hb ko_219 lf_11_62 (by decide) m0_82 r0_82_21 dX11_tape_48 ?_
            refine wp_iload_n hb rfl dX11_tape_51 ?_
            refine wp_iload_n hb rfl dX11_tape_52 ?_
            obtain ⟨q18, hv⟩ := hv
            refine wp_iastore hb rfl m0_202 (by decide) q18 dX11_tape_53 ?_
            have hv := hv _ rfl
            generalize (mm_u2 m2.1 202 v1.toNatClampNeg v2, m2.2) = m9 at hv ⊢
            refine wp_aload_n hb rfl dX11_tape_54 ?_
            refine wp_getR hb ko_219 lf_11_65 (by decide) m0_82 r0_82_22 dX11_tape_55 ?_
            refine wp_iload_n hb rfl dX11_tape_58 ?_
            refine wp_iload_n hb rfl dX11_tape_59 ?_
            refine wp_if_ge hb (y := 0) (t := 67) ⟨rfl, rfl⟩ dX11_tape_60 ⟨fun c19 => ?_, fun c19 => ?_⟩
            · have hv := hv.1 c19
              refine wp_iload_n hb rfl dX11_tape_67 ?_
              obtain ⟨q20, hv⟩ := hv
              refine wp_iastore hb rfl m0_203 (by decide) q20 dX11_tape_68 ?_
              have hv := hv _ rfl
              generalize (mm_u2 m9.1 203 v1.toNatClampNeg v3, m9.2) = m10 at hv ⊢
              refine wp_iconst hb (x := nI 0) rfl dX11_tape_69 ?_
              refine wp_istore hb rfl dX11_tape_70 ?_
              exact wp_for (mm_ls_k (mm_ls_k (mm_ls_f (mm_ls_f (mm_ls_k mm_ls_nil))))) hv
            · have hv := hv.2 c19
              refine wp_iconst hb (x := nI 0) rfl dX11_tape_63 ?_
              refine wp_goto hb (t := 68) ⟨rfl, rfl⟩ dX11_tape_64 ?_
              obtain ⟨q21, hv⟩ := hv
              refine wp_iastore hb rfl m0_203 (by decide) q21 dX11_tape_68 ?_
              have hv := hv _ rfl
              generalize (mm_u2 m9.1 203 v1.toNatClampNeg (nI 0), m9.2) = m11 at hv ⊢
              refine wp_iconst hb (x := nI 0) rfl dX11_tape_69 ?_
              refine wp_istore hb rfl dX11_tape_70 ?_
              exact wp_for (mm_ls_k (mm_ls_k (mm_ls_f (mm_ls_f (mm_ls_k mm_ls_nil))))) hv
          · have hv := hv.2 c17
            refine wp_iload_n hb rfl dX11_tape_40 ?_
            refine wp_if_ge hb (y := 0) (t := 47) ⟨rfl, rfl⟩ dX11_tape_41 ⟨fun c22 => ?_, fun c22 => ?_⟩
            · have hv := hv.1 c22
              refine wp_aload_n hb rfl dX11_tape_47 ?_
              refine wp_getR hb ko_219 lf_11_62 (by decide) m0_82 r0_82_21 dX11_tape_48 ?_
              refine wp_iload_n hb rfl dX11_tape_51 ?_
              refine wp_iload_n hb rfl dX11_tape_52 ?_
              obtain ⟨q23, hv⟩ := hv
              refine wp_iastore hb rfl m0_202 (by decide) q23 dX11_tape_53 ?_
              have hv := hv _ rfl
              generalize (mm_u2 m2.1 202 v1.toNatClampNeg v2, m2.2) = m12 at hv ⊢
              refine wp_aload_n hb rfl dX11_tape_54 ?_
              refine wp_getR hb ko_219 lf_11_65 (by decide) m0_82 r0_82_22 dX11_tape_55 ?_
              refine wp_iload_n hb rfl dX11_tape_58 ?_
              refine wp_iload_n hb rfl dX11_tape_59 ?_
              refine wp_if_ge hb (y := 0) (t := 67) ⟨rfl, rfl⟩ dX11_tape_60 ⟨fun c24 => ?_, fun c24 => ?_⟩
              · have hv := hv.1 c24
                refine wp_iload_n hb rfl dX11_tape_67 ?_
                obtain ⟨q25, hv⟩ := hv
                refine wp_iastore hb rfl m0_203 (by decide) q25 dX11_tape_68 ?_
                have hv := hv _ rfl
                generalize (mm_u2 m12.1 203 v1.toNatClampNeg v3, m12.2) = m13 at hv ⊢
                refine wp_iconst hb (x := nI 0) rfl dX11_tape_69 ?_
                refine wp_istore hb rfl dX11_tape_70 ?_
                exact wp_for (mm_ls_k (mm_ls_k (mm_ls_f (mm_ls_f (mm_ls_k mm_ls_nil))))) hv
              · have hv := hv.2 c24
                refine wp_iconst hb (x := nI 0) rfl dX11_tape_63 ?_
                refine wp_goto hb (t := 68) ⟨rfl, rfl⟩ dX11_tape_64 ?_
                obtain ⟨q26, hv⟩ := hv
                refine wp_iastore hb rfl m0_203 (by decide) q26 dX11_tape_68 ?_
                have hv := hv _ rfl
                generalize (mm_u2 m12.1 203 v1.toNatClampNeg (nI 0), m12.2) = m14 at hv ⊢
                refine wp_iconst hb (x := nI 0) rfl dX11_tape_69 ?_
                refine wp_istore hb rfl dX11_tape_70 ?_
                exact wp_for (mm_ls_k (mm_ls_k (mm_ls_f (mm_ls_f (mm_ls_k mm_ls_nil))))) hv
            · have hv := hv.2 c22
              refine wp_bipush hb (x := (-14)) rfl dX11_tape_44 ?_
              exact wp_retI hb rfl dX11_tape_46 hv
        · have hv := hv.2 c16
          refine wp_bipush hb (x := (-2)) rfl dX11_tape_33 ?_
          exact wp_retI hb rfl dX11_tape_35 hv
  · have hv := hv.2 c2
    refine wp_iconst hb (x := (-1)) rfl dX11_tape_7 ?_
    exact wp_retI hb rfl dX11_tape_8 hv
set_option maxRecDepth 100000 in
theorem v_X11_tape_72 {d sn : Nat} {v1 : Int32} {v4 : Int32} {m : mm_Mem} {P : Int32 → mm_Mem → Prop} 
    (hv : ((nI 60 ≤ v4) → (P (nI 1) m)) ∧ (¬ (nI 60 ≤ v4) → (∃ i2 : Nat, i2 < 6 ∧ v1 = nI i2 ∧ (vp_in v4 60 ∧ (∀ m1 : mm_Mem, m1 = (m.1, mm_u2 m.2 (205 + i2) v4.toNatClampNeg (lN 0)) → (mm_wp d sn kX11_tape 72 [some (.ref 82), some (.int v1), none, none, some (.int (v4 + nI 1))] [] m1 (qI P))))))) :
    mm_wp d sn kX11_tape 72 [some (.ref 82), some (.int v1), none, none, some (.int v4)] [] m (qI P) := by
  have hb := mb_219
  refine wp_iload hb rfl dX11_tape_72 ?_
  refine wp_bipush hb (x := nI 60) rfl dX11_tape_74 ?_
  refine wp_icmp_ge hb (t := 95) ⟨rfl, rfl⟩ dX11_tape_76 ⟨fun c1 => ?_, fun c1 => ?_⟩
  · have hv := hv.1 c1
    refine wp_iconst hb (x := nI 1) rfl dX11_tape_95 ?_
    exact wp_retI hb rfl dX11_tape_96 hv
  · have hv := hv.2 c1
    refine wp_aload_n hb rfl dX11_tape_79 ?_
    refine wp_getR hb ko_219 lf_11_70 (by decide) m0_82 r0_82_23 dX11_tape_80 ?_
    refine wp_iload_n hb rfl dX11_tape_83 ?_
    obtain ⟨i2, hi2, hx2, hv⟩ := hv
    refine wp_aaload hb m0_204 (by decide) (mm_inx hx2 hi2 (by decide)) (mm_rx hx2 (by omega) (mm_items _ hi2).1) dX11_tape_84 ?_
    refine wp_iload hb rfl dX11_tape_85 ?_
    refine wp_lconst hb (x := lN 0) rfl dX11_tape_87 ?_
    obtain ⟨q3, hv⟩ := hv
    refine wp_lastore hb rfl ((mm_items _ hi2).2 _) (by omega) q3 dX11_tape_88 ?_
    have hv := hv _ rfl
    generalize (m.1, mm_u2 m.2 (205 + i2) v4.toNatClampNeg (lN 0)) = m1 at hv ⊢
    refine wp_iinc hb rfl (y := v4 + nI 1) rfl rfl dX11_tape_89 ?_
    refine wp_goto hb (t := 72) ⟨rfl, rfl⟩ dX11_tape_92 ?_
    exact wp_for (mm_ls_k (mm_ls_k (mm_ls_k (mm_ls_k (mm_ls_k mm_ls_nil))))) hv
set_option maxRecDepth 100000 in
theorem v_X11_item {d sn : Nat} {v1 : Int32} {v2 : Int32} {v3 : Int64} {m : mm_Mem} {P : Int32 → mm_Mem → Prop} 
    (hv : mm_sp d sn kX11_isTape [.int v1] m (qI fun x1 m1 => ((¬ x1 = 0) → (vp_in v1 6 ∧ (((0 ≤ m1.1 202 v1.toNatClampNeg) → (vp_in v1 6 ∧ (mm_sp d sn kX11_in [.long v2.toInt64, .long (lN 0), .long (((m1.1 203 v1.toNatClampNeg) - (nI 1)).toInt64)] m1 (qI fun x6 m2 => ((¬ x6 = 0) → (∃ i8 : Nat, i8 < 6 ∧ v1 = nI i8 ∧ (vp_in v1 6 ∧ (((¬ m2.1 202 v1.toNatClampNeg = 0) → (vp_in v1 6 ∧ (((¬ m2.1 202 v1.toNatClampNeg = nI 1) → (vp_in v1 6 ∧ (((¬ m2.1 202 v1.toNatClampNeg = nI 2) → (vp_in v1 6 ∧ (((¬ m2.1 202 v1.toNatClampNeg = nI 3) → (((lg_cmp v3 (lN 0) = 0) → (vp_in v2 60 ∧ (∀ m3 : mm_Mem, m3 = (m2.1, mm_u2 m2.2 (205 + i8) v2.toNatClampNeg (lN 0)) → (P (nI 1) m3)))) ∧ (¬ (lg_cmp v3 (lN 0) = 0) → (vp_in v2 60 ∧ (∀ m4 : mm_Mem, m4 = (m2.1, mm_u2 m2.2 (205 + i8) v2.toNatClampNeg (lN 1)) → (P (nI 1) m4)))))) ∧ (¬ (¬ m2.1 202 v1.toNatClampNeg = nI 3) → (vp_in v2 60 ∧ (∀ m5 : mm_Mem, m5 = (m2.1, mm_u2 m2.2 (205 + i8) v2.toNatClampNeg v3) → (P (nI 1) m5))))))) ∧ (¬ (¬ m2.1 202 v1.toNatClampNeg = nI 2) → (vp_in v2 60 ∧ (∀ m6 : mm_Mem, m6 = (m2.1, mm_u2 m2.2 (205 + i8) v2.toNatClampNeg v3.toInt32.toInt64) → (P (nI 1) m6))))))) ∧ (¬ (¬ m2.1 202 v1.toNatClampNeg = nI 1) → (vp_in v2 60 ∧ (∀ m7 : mm_Mem, m7 = (m2.1, mm_u2 m2.2 (205 + i8) v2.toNatClampNeg v3.toInt32.toInt16.toInt32.toInt64) → (P (nI 1) m7))))))) ∧ (¬ (¬ m2.1 202 v1.toNatClampNeg = 0) → (vp_in v2 60 ∧ (∀ m8 : mm_Mem, m8 = (m2.1, mm_u2 m2.2 (205 + i8) v2.toNatClampNeg v3.toInt32.toInt8.toInt32.toInt64) → (P (nI 1) m8)))))))) ∧ (¬ (¬ x6 = 0) → (P (-13) m2)))))) ∧ (¬ (0 ≤ m1.1 202 v1.toNatClampNeg) → (P (-11) m1))))) ∧ (¬ (¬ x1 = 0) → (P (-1) m1)))) :
    mm_sp (d + 1) sn kX11_item [.ref 82, .int v1, .int v2, .long v3] m (qI P) := by
  have hb := mb_220
  refine wp_in (la := [some (.ref 82), some (.int v1), some (.int v2), some (.long v3), none]) ⟨⟨Nat.le_of_ble_eq_true rfl, by decide, by decide⟩, rfl⟩ ?_
  refine wp_iload_n hb rfl dX11_item_0 ?_
  refine wp_callS hb (k' := 217) ko_220 lm_11_249 (by decide) rfl (Nat.le_of_ble_eq_true rfl) dX11_item_1 (sp_cI (hv.I (Nat.le_refl _) ?_))
  intro x1 m1 hv
  refine wp_if_ne hb (y := 0) (t := 9) ⟨rfl, rfl⟩ dX11_item_4 ⟨fun c2 => ?_, fun c2 => ?_⟩
  · have hv := hv.1 c2
    refine wp_aload_n hb rfl dX11_item_9 ?_
    refine wp_getR hb ko_220 lf_11_62 (by decide) m0_82 r0_82_21 dX11_item_10 ?_
    refine wp_iload_n hb rfl dX11_item_13 ?_
    obtain ⟨q3, hv⟩ := hv
    refine wp_iaload hb rfl m0_202 q3 dX11_item_14 ?_
    refine wp_if_ge hb (y := 0) (t := 21) ⟨rfl, rfl⟩ dX11_item_15 ⟨fun c4 => ?_, fun c4 => ?_⟩
    · have hv := hv.1 c4
      refine wp_iload_n hb rfl dX11_item_21 ?_
      refine wp_i2l hb dX11_item_22 ?_
      refine wp_lconst hb (x := lN 0) rfl dX11_item_23 ?_
      refine wp_aload_n hb rfl dX11_item_24 ?_
      refine wp_getR hb ko_220 lf_11_65 (by decide) m0_82 r0_82_22 dX11_item_25 ?_
      refine wp_iload_n hb rfl dX11_item_28 ?_
      obtain ⟨q5, hv⟩ := hv
      refine wp_iaload hb rfl m0_203 q5 dX11_item_29 ?_
      refine wp_iconst hb (x := nI 1) rfl dX11_item_30 ?_
      refine wp_isub hb dX11_item_31 ?_
      refine wp_i2l hb dX11_item_32 ?_
      refine wp_callS hb (k' := 152) ko_220 lm_11_85 (by decide) rfl (Nat.le_of_ble_eq_true rfl) dX11_item_33 (sp_cI (hv.I (Nat.le_refl _) ?_))
      intro x6 m2 hv
      refine wp_if_ne hb (y := 0) (t := 42) ⟨rfl, rfl⟩ dX11_item_36 ⟨fun c7 => ?_, fun c7 => ?_⟩
      · have hv := hv.1 c7
        refine wp_aload_n hb rfl dX11_item_42 ?_
        refine wp_getR hb ko_220 lf_11_70 (by decide) m0_82 r0_82_23 dX11_item_43 ?_
        refine wp_iload_n hb rfl dX11_item_46 ?_
        obtain ⟨i8, hi8, hx8, hv⟩ := hv
        refine wp_aaload hb m0_204 (by decide) (mm_inx hx8 hi8 (by decide)) (mm_rx hx8 (by omega) (mm_items _ hi8).1) dX11_item_47 ?_
        refine wp_iload_n hb rfl dX11_item_48 ?_
        refine wp_aload_n hb rfl dX11_item_49 ?_
        refine wp_getR hb ko_220 lf_11_62 (by decide) m0_82 r0_82_21 dX11_item_50 ?_
        refine wp_iload_n hb rfl dX11_item_53 ?_
        obtain ⟨q9, hv⟩ := hv
        refine wp_iaload hb rfl m0_202 q9 dX11_item_54 ?_
        refine wp_if_ne hb (y := 0) (t := 65) ⟨rfl, rfl⟩ dX11_item_55 ⟨fun c10 => ?_, fun c10 => ?_⟩
        · have hv := hv.1 c10
          refine wp_aload_n hb rfl dX11_item_65 ?_
          refine wp_getR hb ko_220 lf_11_62 (by decide) m0_82 r0_82_21 dX11_item_66 ?_
          refine wp_iload_n hb rfl dX11_item_69 ?_
          obtain ⟨q11, hv⟩ := hv
          refine wp_iaload hb rfl m0_202 q11 dX11_item_70 ?_
          refine wp_iconst hb (x := nI 1) rfl dX11_item_71 ?_
          refine wp_icmp_ne hb (t := 82) ⟨rfl, rfl⟩ dX11_item_72 ⟨fun c12 => ?_, fun c12 => ?_⟩
          · have hv := hv.1 c12
            refine wp_aload_n hb rfl dX11_item_82 ?_
            refine wp_getR hb ko_220 lf_11_62 (by decide) m0_82 r0_82_21 dX11_item_83 ?_
            refine wp_iload_n hb rfl dX11_item_86 ?_
            obtain ⟨q13, hv⟩ := hv
            refine wp_iaload hb rfl m0_202 q13 dX11_item_87 ?_
            refine wp_iconst hb (x := nI 2) rfl dX11_item_88 ?_
            refine wp_icmp_ne hb (t := 98) ⟨rfl, rfl⟩ dX11_item_89 ⟨fun c14 => ?_, fun c14 => ?_⟩
            · have hv := hv.1 c14
              refine wp_aload_n hb rfl dX11_item_98 ?_
              refine wp_getR hb ko_220 lf_11_62 (by decide) m0_82 r0_82_21 dX11_item_99 ?_
              refine wp_iload_n hb rfl dX11_item_102 ?_
              obtain ⟨q15, hv⟩ := hv
              refine wp_iaload hb rfl m0_202 q15 dX11_item_103 ?_
              refine wp_iconst hb (x := nI 3) rfl dX11_item_104 ?_
              refine wp_icmp_ne hb (t := 112) ⟨rfl, rfl⟩ dX11_item_105 ⟨fun c16 => ?_, fun c16 => ?_⟩
              · have hv := hv.1 c16
                refine wp_lload_n hb rfl dX11_item_112 ?_
                refine wp_lconst hb (x := lN 0) rfl dX11_item_113 ?_
                refine wp_lcmp hb dX11_item_114 ?_
                refine wp_if_eq hb (y := 0) (t := 122) ⟨rfl, rfl⟩ dX11_item_115 ⟨fun c17 => ?_, fun c17 => ?_⟩
                · have hv := hv.1 c17
                  refine wp_lconst hb (x := lN 0) rfl dX11_item_122 ?_
                  obtain ⟨q18, hv⟩ := hv
                  refine wp_lastore hb rfl ((mm_items _ hi8).2 _) (by omega) q18 dX11_item_123 ?_
                  have hv := hv _ rfl
                  generalize (m2.1, mm_u2 m2.2 (205 + i8) v2.toNatClampNeg (lN 0)) = m3 at hv ⊢
                  refine wp_iconst hb (x := nI 1) rfl dX11_item_124 ?_
                  exact wp_retI hb rfl dX11_item_125 hv
                · have hv := hv.2 c17
                  refine wp_lconst hb (x := lN 1) rfl dX11_item_118 ?_
                  refine wp_goto hb (t := 123) ⟨rfl, rfl⟩ dX11_item_119 ?_
                  obtain ⟨q19, hv⟩ := hv
                  refine wp_lastore hb rfl ((mm_items _ hi8).2 _) (by omega) q19 dX11_item_123 ?_
                  have hv := hv _ rfl
                  generalize (m2.1, mm_u2 m2.2 (205 + i8) v2.toNatClampNeg (lN 1)) = m4 at hv ⊢
                  refine wp_iconst hb (x := nI 1) rfl dX11_item_124 ?_
                  exact wp_retI hb rfl dX11_item_125 hv
              · have hv := hv.2 c16
                refine wp_lload_n hb rfl dX11_item_108 ?_
                refine wp_goto hb (t := 123) ⟨rfl, rfl⟩ dX11_item_109 ?_
                obtain ⟨q20, hv⟩ := hv
                refine wp_lastore hb rfl ((mm_items _ hi8).2 _) (by omega) q20 dX11_item_123 ?_
                have hv := hv _ rfl
                generalize (m2.1, mm_u2 m2.2 (205 + i8) v2.toNatClampNeg v3) = m5 at hv ⊢
                refine wp_iconst hb (x := nI 1) rfl dX11_item_124 ?_
                exact wp_retI hb rfl dX11_item_125 hv
            · have hv := hv.2 c14
              refine wp_lload_n hb rfl dX11_item_92 ?_
              refine wp_l2i hb dX11_item_93 ?_
              refine wp_i2l hb dX11_item_94 ?_
              refine wp_goto hb (t := 123) ⟨rfl, rfl⟩ dX11_item_95 ?_
              obtain ⟨q21, hv⟩ := hv
              refine wp_lastore hb rfl ((mm_items _ hi8).2 _) (by omega) q21 dX11_item_123 ?_
              have hv := hv _ rfl
              generalize (m2.1, mm_u2 m2.2 (205 + i8) v2.toNatClampNeg v3.toInt32.toInt64) = m6 at hv ⊢
              refine wp_iconst hb (x := nI 1) rfl dX11_item_124 ?_
              exact wp_retI hb rfl dX11_item_125 hv
          · have hv := hv.2 c12
            refine wp_lload_n hb rfl dX11_item_75 ?_
            refine wp_l2i hb dX11_item_76 ?_
            refine wp_i2s hb dX11_item_77 ?_
            refine wp_i2l hb dX11_item_78 ?_
            refine wp_goto hb (t := 123) ⟨rfl, rfl⟩ dX11_item_79 ?_
            obtain ⟨q22, hv⟩ := hv
            refine wp_lastore hb rfl ((mm_items _ hi8).2 _) (by omega) q22 dX11_item_123 ?_
            have hv := hv _ rfl
            generalize (m2.1, mm_u2 m2.2 (205 + i8) v2.toNatClampNeg v3.toInt32.toInt16.toInt32.toInt64) = m7 at hv ⊢
            refine wp_iconst hb (x := nI 1) rfl dX11_item_124 ?_
            exact wp_retI hb rfl dX11_item_125 hv
        · have hv := hv.2 c10
          refine wp_lload_n hb rfl dX11_item_58 ?_
          refine wp_l2i hb dX11_item_59 ?_
          refine wp_i2b hb dX11_item_60 ?_
          refine wp_i2l hb dX11_item_61 ?_
          refine wp_goto hb (t := 123) ⟨rfl, rfl⟩ dX11_item_62 ?_
          obtain ⟨q23, hv⟩ := hv
          refine wp_lastore hb rfl ((mm_items _ hi8).2 _) (by omega) q23 dX11_item_123 ?_
          have hv := hv _ rfl
          generalize (m2.1, mm_u2 m2.2 (205 + i8) v2.toNatClampNeg v3.toInt32.toInt8.toInt32.toInt64) = m8 at hv ⊢
          refine wp_iconst hb (x := nI 1) rfl dX11_item_124 ?_
          exact wp_retI hb rfl dX11_item_125 hv
      · have hv := hv.2 c7
        refine wp_bipush hb (x := (-13)) rfl dX11_item_39 ?_
        exact wp_retI hb rfl dX11_item_41 hv
    · have hv := hv.2 c4
      refine wp_bipush hb (x := (-11)) rfl dX11_item_18 ?_
      exact wp_retI hb rfl dX11_item_20 hv
  · have hv := hv.2 c2
    refine wp_iconst hb (x := (-1)) rfl dX11_item_7 ?_
    exact wp_retI hb rfl dX11_item_8 hv
set_option maxRecDepth 100000 in
theorem v_X11_peek {d sn : Nat} {v1 : Int32} {v2 : Int32} {m : mm_Mem} {P : Int64 → mm_Mem → Prop} 
    (hv : mm_sp d sn kX11_isTape [.int v1] m (qI fun x1 m1 => ((x1 = 0) → (P (-9223372036854775808) m1)) ∧ (¬ (x1 = 0) → (vp_in v1 6 ∧ (mm_sp d sn kX11_in [.long v2.toInt64, .long (lN 0), .long (((m1.1 203 v1.toNatClampNeg) - (nI 1)).toInt64)] m1 (qI fun x4 m2 => ((x4 = 0) → (P (-9223372036854775808) m2)) ∧ (¬ (x4 = 0) → (∃ i6 : Nat, i6 < 6 ∧ v1 = nI i6 ∧ (vp_in v2 60 ∧ (P (m2.2 (205 + i6) v2.toNatClampNeg) m2)))))))))) :
    mm_sp (d + 1) sn kX11_peek [.ref 82, .int v1, .int v2] m (qL P) := by
  have hb := mb_221
  refine wp_in (la := [some (.ref 82), some (.int v1), some (.int v2)]) ⟨⟨Nat.le_of_ble_eq_true rfl, by decide, by decide⟩, rfl⟩ ?_
  refine wp_iload_n hb rfl dX11_peek_0 ?_
  refine wp_callS hb (k' := 217) ko_221 lm_11_249 (by decide) rfl (Nat.le_of_ble_eq_true rfl) dX11_peek_1 (sp_cI (hv.I (Nat.le_refl _) ?_))
  intro x1 m1 hv
  refine wp_if_eq hb (y := 0) (t := 36) ⟨rfl, rfl⟩ dX11_peek_4 ⟨fun c2 => ?_, fun c2 => ?_⟩
  · have hv := hv.1 c2
    refine wp_ldc2 hb (ko_221) (kl_11_254) dX11_peek_36 ?_
    exact wp_retL hb rfl dX11_peek_39 hv
  · have hv := hv.2 c2
    refine wp_iload_n hb rfl dX11_peek_7 ?_
    refine wp_i2l hb dX11_peek_8 ?_
    refine wp_lconst hb (x := lN 0) rfl dX11_peek_9 ?_
    refine wp_aload_n hb rfl dX11_peek_10 ?_
    refine wp_getR hb ko_221 lf_11_65 (by decide) m0_82 r0_82_22 dX11_peek_11 ?_
    refine wp_iload_n hb rfl dX11_peek_14 ?_
    obtain ⟨q3, hv⟩ := hv
    refine wp_iaload hb rfl m0_203 q3 dX11_peek_15 ?_
    refine wp_iconst hb (x := nI 1) rfl dX11_peek_16 ?_
    refine wp_isub hb dX11_peek_17 ?_
    refine wp_i2l hb dX11_peek_18 ?_
    refine wp_callS hb (k' := 152) ko_221 lm_11_85 (by decide) rfl (Nat.le_of_ble_eq_true rfl) dX11_peek_19 (sp_cI (hv.I (Nat.le_refl _) ?_))
    intro x4 m2 hv
    refine wp_if_eq hb (y := 0) (t := 36) ⟨rfl, rfl⟩ dX11_peek_22 ⟨fun c5 => ?_, fun c5 => ?_⟩
    · have hv := hv.1 c5
      refine wp_ldc2 hb (ko_221) (kl_11_254) dX11_peek_36 ?_
      exact wp_retL hb rfl dX11_peek_39 hv
    · have hv := hv.2 c5
      refine wp_aload_n hb rfl dX11_peek_25 ?_
      refine wp_getR hb ko_221 lf_11_70 (by decide) m0_82 r0_82_23 dX11_peek_26 ?_
      refine wp_iload_n hb rfl dX11_peek_29 ?_
      obtain ⟨i6, hi6, hx6, hv⟩ := hv
      refine wp_aaload hb m0_204 (by decide) (mm_inx hx6 hi6 (by decide)) (mm_rx hx6 (by omega) (mm_items _ hi6).1) dX11_peek_30 ?_
      refine wp_iload_n hb rfl dX11_peek_31 ?_
      obtain ⟨q7, hv⟩ := hv
      refine wp_laload hb rfl ((mm_items _ hi6).2 _) q7 dX11_peek_32 ?_
      refine wp_goto hb (t := 39) ⟨rfl, rfl⟩ dX11_peek_33 ?_
      exact wp_retL hb rfl dX11_peek_39 hv
set_option maxRecDepth 100000 in
theorem v_X11_shift {d sn : Nat} {v1 : Int32} {v2 : Int32} {v3 : Int32} {v4 : Int32} {v5 : Int32} {m : mm_Mem} {P : Int32 → mm_Mem → Prop} 
    (hv : mm_sp d sn kX11_isTape [.int v1] m (qI fun x1 m1 => ((x1 = 0) → (P (-1) m1)) ∧ (¬ (x1 = 0) → (mm_sp d sn kX11_isTape [.int v3] m1 (qI fun x3 m2 => ((¬ x3 = 0) → (vp_in v1 6 ∧ (((m2.1 202 v1.toNatClampNeg < 0) → (P (-11) m2)) ∧ (¬ (m2.1 202 v1.toNatClampNeg < 0) → (vp_in v3 6 ∧ (((0 ≤ m2.1 202 v3.toNatClampNeg) → (vp_in v1 6 ∧ (vp_in v3 6 ∧ (((m2.1 202 v1.toNatClampNeg = m2.1 202 v3.toNatClampNeg) → (((v5 < 0) → (P (-13) m2)) ∧ (¬ (v5 < 0) → (((v2 < 0) → (P (-13) m2)) ∧ (¬ (v2 < 0) → (((v4 < 0) → (P (-13) m2)) ∧ (¬ (v4 < 0) → (vp_in v1 6 ∧ ((((m2.1 203 v1.toNatClampNeg) - v2 < v5) → (P (-13) m2)) ∧ (¬ ((m2.1 203 v1.toNatClampNeg) - v2 < v5) → (vp_in v3 6 ∧ (((v5 ≤ (m2.1 203 v3.toNatClampNeg) - v4) → (mm_wp d sn kX11_shift 102 [some (.ref 82), some (.int v1), some (.int v2), some (.int v3), some (.int v4), some (.int v5), some (.int (nI 0))] [] m2 (qI P))) ∧ (¬ (v5 ≤ (m2.1 203 v3.toNatClampNeg) - v4) → (P (-13) m2)))))))))))))) ∧ (¬ (m2.1 202 v1.toNatClampNeg = m2.1 202 v3.toNatClampNeg) → (P (-12) m2)))))) ∧ (¬ (0 ≤ m2.1 202 v3.toNatClampNeg) → (P (-11) m2)))))))) ∧ (¬ (¬ x3 = 0) → (P (-1) m2))))))) :
    mm_sp (d + 1) sn kX11_shift [.ref 82, .int v1, .int v2, .int v3, .int v4, .int v5] m (qI P) := by
  have hb := mb_222
  refine wp_in (la := [some (.ref 82), some (.int v1), some (.int v2), some (.int v3), some (.int v4), some (.int v5), none]) ⟨⟨Nat.le_of_ble_eq_true rfl, by decide, by decide⟩, rfl⟩ ?_
  refine wp_iload_n hb rfl dX11_shift_0 ?_
  refine wp_callS hb (k' := 217) ko_222 lm_11_249 (by decide) rfl (Nat.le_of_ble_eq_true rfl) dX11_shift_1 (sp_cI (hv.I (Nat.le_refl _) ?_))
  intro x1 m1 hv
  refine wp_if_eq hb (y := 0) (t := 14) ⟨rfl, rfl⟩ dX11_shift_4 ⟨fun c2 => ?_, fun c2 => ?_⟩
  · have hv := hv.1 c2
    refine wp_iconst hb (x := (-1)) rfl dX11_shift_14 ?_
    exact wp_retI hb rfl dX11_shift_15 hv
  · have hv := hv.2 c2
    refine wp_iload_n hb rfl dX11_shift_7 ?_
    refine wp_callS hb (k' := 217) ko_222 lm_11_249 (by decide) rfl (Nat.le_of_ble_eq_true rfl) dX11_shift_8 (sp_cI (hv.I (Nat.le_refl _) ?_))
    intro x3 m2 hv
    refine wp_if_ne hb (y := 0) (t := 16) ⟨rfl, rfl⟩ dX11_shift_11 ⟨fun c4 => ?_, fun c4 => ?_⟩
    · have hv := hv.1 c4
      refine wp_aload_n hb rfl dX11_shift_16 ?_
      refine wp_getR hb ko_222 lf_11_62 (by decide) m0_82 r0_82_21 dX11_shift_17 ?_
      refine wp_iload_n hb rfl dX11_shift_20 ?_
      obtain ⟨q5, hv⟩ := hv
      refine wp_iaload hb rfl m0_202 q5 dX11_shift_21 ?_
      refine wp_if_lt hb (y := 0) (t := 34) ⟨rfl, rfl⟩ dX11_shift_22 ⟨fun c6 => ?_, fun c6 => ?_⟩
      · have hv := hv.1 c6
        refine wp_bipush hb (x := (-11)) rfl dX11_shift_34 ?_
        exact wp_retI hb rfl dX11_shift_36 hv
      · have hv := hv.2 c6
        refine wp_aload_n hb rfl dX11_shift_25 ?_
        refine wp_getR hb ko_222 lf_11_62 (by decide) m0_82 r0_82_21 dX11_shift_26 ?_
        refine wp_iload_n hb rfl dX11_shift_29 ?_
        obtain ⟨q7, hv⟩ := hv
        refine wp_iaload hb rfl m0_202 q7 dX11_shift_30 ?_
        refine wp_if_ge hb (y := 0) (t := 37) ⟨rfl, rfl⟩ dX11_shift_31 ⟨fun c8 => ?_, fun c8 => ?_⟩
        · have hv := hv.1 c8
          refine wp_aload_n hb rfl dX11_shift_37 ?_
          refine wp_getR hb ko_222 lf_11_62 (by decide) m0_82 r0_82_21 dX11_shift_38 ?_
          refine wp_iload_n hb rfl dX11_shift_41 ?_
          obtain ⟨q9, hv⟩ := hv
          refine wp_iaload hb rfl m0_202 q9 dX11_shift_42 ?_
          refine wp_aload_n hb rfl dX11_shift_43 ?_
          refine wp_getR hb ko_222 lf_11_62 (by decide) m0_82 r0_82_21 dX11_shift_44 ?_
          refine wp_iload_n hb rfl dX11_shift_47 ?_
          obtain ⟨q10, hv⟩ := hv
          refine wp_iaload hb rfl m0_202 q10 dX11_shift_48 ?_
          refine wp_icmp_eq hb (t := 55) ⟨rfl, rfl⟩ dX11_shift_49 ⟨fun c11 => ?_, fun c11 => ?_⟩
          · have hv := hv.1 c11
            refine wp_iload hb rfl dX11_shift_55 ?_
            refine wp_if_lt hb (y := 0) (t := 96) ⟨rfl, rfl⟩ dX11_shift_57 ⟨fun c12 => ?_, fun c12 => ?_⟩
            · have hv := hv.1 c12
              refine wp_bipush hb (x := (-13)) rfl dX11_shift_96 ?_
              exact wp_retI hb rfl dX11_shift_98 hv
            · have hv := hv.2 c12
              refine wp_iload_n hb rfl dX11_shift_60 ?_
              refine wp_if_lt hb (y := 0) (t := 96) ⟨rfl, rfl⟩ dX11_shift_61 ⟨fun c13 => ?_, fun c13 => ?_⟩
              · have hv := hv.1 c13
                refine wp_bipush hb (x := (-13)) rfl dX11_shift_96 ?_
                exact wp_retI hb rfl dX11_shift_98 hv
              · have hv := hv.2 c13
                refine wp_iload hb rfl dX11_shift_64 ?_
                refine wp_if_lt hb (y := 0) (t := 96) ⟨rfl, rfl⟩ dX11_shift_66 ⟨fun c14 => ?_, fun c14 => ?_⟩
                · have hv := hv.1 c14
                  refine wp_bipush hb (x := (-13)) rfl dX11_shift_96 ?_
                  exact wp_retI hb rfl dX11_shift_98 hv
                · have hv := hv.2 c14
                  refine wp_iload hb rfl dX11_shift_69 ?_
                  refine wp_aload_n hb rfl dX11_shift_71 ?_
                  refine wp_getR hb ko_222 lf_11_65 (by decide) m0_82 r0_82_22 dX11_shift_72 ?_
                  refine wp_iload_n hb rfl dX11_shift_75 ?_
                  obtain ⟨q15, hv⟩ := hv
                  refine wp_iaload hb rfl m0_203 q15 dX11_shift_76 ?_
                  refine wp_iload_n hb rfl dX11_shift_77 ?_
                  refine wp_isub hb dX11_shift_78 ?_
                  refine wp_icmp_gt hb (t := 96) ⟨rfl, rfl⟩ dX11_shift_79 ⟨fun c16 => ?_, fun c16 => ?_⟩
                  · have hv := hv.1 c16
                    refine wp_bipush hb (x := (-13)) rfl dX11_shift_96 ?_
                    exact wp_retI hb rfl dX11_shift_98 hv
                  · have hv := hv.2 c16
                    refine wp_iload hb rfl dX11_shift_82 ?_
                    refine wp_aload_n hb rfl dX11_shift_84 ?_
                    refine wp_getR hb ko_222 lf_11_65 (by decide) m0_82 r0_82_22 dX11_shift_85 ?_
                    refine wp_iload_n hb rfl dX11_shift_88 ?_
                    obtain ⟨q17, hv⟩ := hv
                    refine wp_iaload hb rfl m0_203 q17 dX11_shift_89 ?_
                    refine wp_iload hb rfl dX11_shift_90 ?_
                    refine wp_isub hb dX11_shift_92 ?_
                    refine wp_icmp_le hb (t := 99) ⟨rfl, rfl⟩ dX11_shift_93 ⟨fun c18 => ?_, fun c18 => ?_⟩
                    · have hv := hv.1 c18
                      refine wp_iconst hb (x := nI 0) rfl dX11_shift_99 ?_
                      refine wp_istore hb rfl dX11_shift_100 ?_
                      exact wp_for (mm_ls_k (mm_ls_k (mm_ls_k (mm_ls_k (mm_ls_k (mm_ls_k (mm_ls_k mm_ls_nil))))))) hv
                    · have hv := hv.2 c18
                      refine wp_bipush hb (x := (-13)) rfl dX11_shift_96 ?_
                      exact wp_retI hb rfl dX11_shift_98 hv
          · have hv := hv.2 c11
            refine wp_bipush hb (x := (-12)) rfl dX11_shift_52 ?_
            exact wp_retI hb rfl dX11_shift_54 hv
        · have hv := hv.2 c8
          refine wp_bipush hb (x := (-11)) rfl dX11_shift_34 ?_
          exact wp_retI hb rfl dX11_shift_36 hv
    · have hv := hv.2 c4
      refine wp_iconst hb (x := (-1)) rfl dX11_shift_14 ?_
      exact wp_retI hb rfl dX11_shift_15 hv
set_option maxRecDepth 100000 in
theorem v_X11_shift_102 {d sn : Nat} {v1 : Int32} {v2 : Int32} {v3 : Int32} {v4 : Int32} {v5 : Int32} {v6 : Int32} {m : mm_Mem} {P : Int32 → mm_Mem → Prop} 
    (hv : ((v5 ≤ v6) → (mm_wp d sn kX11_shift 136 [some (.ref 82), none, none, some (.int v3), some (.int v4), some (.int v5), some (.int (nI 0))] [] m (qI P))) ∧ (¬ (v5 ≤ v6) → (∃ i2 : Nat, i2 < 6 ∧ v1 = nI i2 ∧ (vp_in (v2 + v6) 60 ∧ (vp_in v6 60 ∧ (∀ m1 : mm_Mem, m1 = (m.1, mm_u2 m.2 211 v6.toNatClampNeg (m.2 (205 + i2) (v2 + v6).toNatClampNeg)) → (mm_wp d sn kX11_shift 102 [some (.ref 82), some (.int v1), some (.int v2), some (.int v3), some (.int v4), some (.int v5), some (.int (v6 + nI 1))] [] m1 (qI P)))))))) :
    mm_wp d sn kX11_shift 102 [some (.ref 82), some (.int v1), some (.int v2), some (.int v3), some (.int v4), some (.int v5), some (.int v6)] [] m (qI P) := by
  have hb := mb_222
  refine wp_iload hb rfl dX11_shift_102 ?_
  refine wp_iload hb rfl dX11_shift_104 ?_
  refine wp_icmp_ge hb (t := 133) ⟨rfl, rfl⟩ dX11_shift_106 ⟨fun c1 => ?_, fun c1 => ?_⟩
  · have hv := hv.1 c1
    refine wp_iconst hb (x := nI 0) rfl dX11_shift_133 ?_
    refine wp_istore hb rfl dX11_shift_134 ?_
    exact wp_for (mm_ls_k (mm_ls_f (mm_ls_f (mm_ls_k (mm_ls_k (mm_ls_k (mm_ls_k mm_ls_nil))))))) hv
  · have hv := hv.2 c1
    refine wp_aload_n hb rfl dX11_shift_109 ?_
    refine wp_getR hb ko_222 lf_11_73 (by decide) m0_82 r0_82_24 dX11_shift_110 ?_
    refine wp_iload hb rfl dX11_shift_113 ?_
    refine wp_aload_n hb rfl dX11_shift_115 ?_
    refine wp_getR hb ko_222 lf_11_70 (by decide) m0_82 r0_82_23 dX11_shift_116 ?_
    refine wp_iload_n hb rfl dX11_shift_119 ?_
    obtain ⟨i2, hi2, hx2, hv⟩ := hv
    refine wp_aaload hb m0_204 (by decide) (mm_inx hx2 hi2 (by decide)) (mm_rx hx2 (by omega) (mm_items _ hi2).1) dX11_shift_120 ?_
    refine wp_iload_n hb rfl dX11_shift_121 ?_
    refine wp_iload hb rfl dX11_shift_122 ?_
    refine wp_iadd hb dX11_shift_124 ?_
    obtain ⟨q3, hv⟩ := hv
    refine wp_laload hb rfl ((mm_items _ hi2).2 _) q3 dX11_shift_125 ?_
    obtain ⟨q4, hv⟩ := hv
    refine wp_lastore hb rfl m0_211 (by decide) q4 dX11_shift_126 ?_
    have hv := hv _ rfl
    generalize (m.1, mm_u2 m.2 211 v6.toNatClampNeg (m.2 (205 + i2) (v2 + v6).toNatClampNeg)) = m1 at hv ⊢
    refine wp_iinc hb rfl (y := v6 + nI 1) rfl rfl dX11_shift_127 ?_
    refine wp_goto hb (t := 102) ⟨rfl, rfl⟩ dX11_shift_130 ?_
    exact wp_for (mm_ls_k (mm_ls_k (mm_ls_k (mm_ls_k (mm_ls_k (mm_ls_k (mm_ls_k mm_ls_nil))))))) hv
set_option maxRecDepth 100000 in
theorem v_X11_shift_136 {d sn : Nat} {v3 : Int32} {v4 : Int32} {v5 : Int32} {v6 : Int32} {m : mm_Mem} {P : Int32 → mm_Mem → Prop} 
    (hv : ((v5 ≤ v6) → (P v5 m)) ∧ (¬ (v5 ≤ v6) → (∃ i2 : Nat, i2 < 6 ∧ v3 = nI i2 ∧ (vp_in v6 60 ∧ (vp_in (v4 + v6) 60 ∧ (∀ m1 : mm_Mem, m1 = (m.1, mm_u2 m.2 (205 + i2) (v4 + v6).toNatClampNeg (m.2 211 v6.toNatClampNeg)) → (mm_wp d sn kX11_shift 136 [some (.ref 82), none, none, some (.int v3), some (.int v4), some (.int v5), some (.int (v6 + nI 1))] [] m1 (qI P)))))))) :
    mm_wp d sn kX11_shift 136 [some (.ref 82), none, none, some (.int v3), some (.int v4), some (.int v5), some (.int v6)] [] m (qI P) := by
  have hb := mb_222
  refine wp_iload hb rfl dX11_shift_136 ?_
  refine wp_iload hb rfl dX11_shift_138 ?_
  refine wp_icmp_ge hb (t := 168) ⟨rfl, rfl⟩ dX11_shift_140 ⟨fun c1 => ?_, fun c1 => ?_⟩
  · have hv := hv.1 c1
    refine wp_iload hb rfl dX11_shift_168 ?_
    exact wp_retI hb rfl dX11_shift_170 hv
  · have hv := hv.2 c1
    refine wp_aload_n hb rfl dX11_shift_143 ?_
    refine wp_getR hb ko_222 lf_11_70 (by decide) m0_82 r0_82_23 dX11_shift_144 ?_
    refine wp_iload_n hb rfl dX11_shift_147 ?_
    obtain ⟨i2, hi2, hx2, hv⟩ := hv
    refine wp_aaload hb m0_204 (by decide) (mm_inx hx2 hi2 (by decide)) (mm_rx hx2 (by omega) (mm_items _ hi2).1) dX11_shift_148 ?_
    refine wp_iload hb rfl dX11_shift_149 ?_
    refine wp_iload hb rfl dX11_shift_151 ?_
    refine wp_iadd hb dX11_shift_153 ?_
    refine wp_aload_n hb rfl dX11_shift_154 ?_
    refine wp_getR hb ko_222 lf_11_73 (by decide) m0_82 r0_82_24 dX11_shift_155 ?_
    refine wp_iload hb rfl dX11_shift_158 ?_
    obtain ⟨q3, hv⟩ := hv
    refine wp_laload hb rfl m0_211 q3 dX11_shift_160 ?_
    obtain ⟨q4, hv⟩ := hv
    refine wp_lastore hb rfl ((mm_items _ hi2).2 _) (by omega) q4 dX11_shift_161 ?_
    have hv := hv _ rfl
    generalize (m.1, mm_u2 m.2 (205 + i2) (v4 + v6).toNatClampNeg (m.2 211 v6.toNatClampNeg)) = m1 at hv ⊢
    refine wp_iinc hb rfl (y := v6 + nI 1) rfl rfl dX11_shift_162 ?_
    refine wp_goto hb (t := 136) ⟨rfl, rfl⟩ dX11_shift_165 ?_
    exact wp_for (mm_ls_k (mm_ls_k (mm_ls_k (mm_ls_k (mm_ls_k (mm_ls_k (mm_ls_k mm_ls_nil))))))) hv
set_option maxRecDepth 100000 in
theorem v_X11_copies {d sn : Nat} {a0 : Nat} {a1 : Nat} {a2 : Nat} {a3 : Nat} {m : mm_Mem} {P : mm_Mem → Prop} (ha0 : shG a0) (ha1 : shG a1) (ha2 : shQ a2) (ha3 : shQ a3) 
    (hv : mm_wp d sn kX11_copies 3 [some (.ref a0), some (.ref a1), some (.ref a2), some (.ref a3), some (.int (nI 0)), none] [] m (qV P)) :
    mm_sp (d + 1) sn kX11_copies [.ref a0, .ref a1, .ref a2, .ref a3] m (qV P) := by
  have hb := mb_223
  refine wp_in (la := [some (.ref a0), some (.ref a1), some (.ref a2), some (.ref a3), none, none]) ⟨⟨Nat.le_of_ble_eq_true rfl, by decide, by decide⟩, rfl⟩ ?_
  refine wp_iconst hb (x := nI 0) rfl dX11_copies_0 ?_
  refine wp_istore hb rfl dX11_copies_1 ?_
  exact wp_for (mm_ls_k (mm_ls_k (mm_ls_k (mm_ls_k (mm_ls_k (mm_ls_k mm_ls_nil)))))) hv
set_option maxRecDepth 100000 in
theorem v_X11_copies_3 {d sn : Nat} {a0 : Nat} {a1 : Nat} {a2 : Nat} {a3 : Nat} {v4 : Int32} {m : mm_Mem} {P : mm_Mem → Prop} (ha0 : shG a0) (ha1 : shG a1) (ha2 : shQ a2) (ha3 : shQ a3) 
    (hv : ((nI 48 ≤ v4) → (mm_wp d sn kX11_copies 27 [none, none, some (.ref a2), some (.ref a3), some (.int (nI 0)), none] [] m (qV P))) ∧ (¬ (nI 48 ≤ v4) → (vp_in v4 48 ∧ (vp_in v4 48 ∧ (∀ m1 : mm_Mem, m1 = (mm_u2 m.1 a1 v4.toNatClampNeg (m.1 a0 v4.toNatClampNeg), m.2) → (mm_wp d sn kX11_copies 3 [some (.ref a0), some (.ref a1), some (.ref a2), some (.ref a3), some (.int (v4 + nI 1)), none] [] m1 (qV P))))))) :
    mm_wp d sn kX11_copies 3 [some (.ref a0), some (.ref a1), some (.ref a2), some (.ref a3), some (.int v4), none] [] m (qV P) := by
  have hb := mb_223
  refine wp_iload hb rfl dX11_copies_3 ?_
  refine wp_bipush hb (x := nI 48) rfl dX11_copies_5 ?_
  refine wp_icmp_ge hb (t := 24) ⟨rfl, rfl⟩ dX11_copies_7 ⟨fun c1 => ?_, fun c1 => ?_⟩
  · have hv := hv.1 c1
    refine wp_iconst hb (x := nI 0) rfl dX11_copies_24 ?_
    refine wp_istore hb rfl dX11_copies_25 ?_
    exact wp_for (mm_ls_f (mm_ls_f (mm_ls_k (mm_ls_k (mm_ls_k (mm_ls_k mm_ls_nil)))))) hv
  · have hv := hv.2 c1
    refine wp_aload_n hb rfl dX11_copies_10 ?_
    refine wp_iload hb rfl dX11_copies_11 ?_
    refine wp_aload_n hb rfl dX11_copies_13 ?_
    refine wp_iload hb rfl dX11_copies_14 ?_
    obtain ⟨q2, hv⟩ := hv
    refine wp_iaload hb rfl (ha0.2 _) q2 dX11_copies_16 ?_
    obtain ⟨q3, hv⟩ := hv
    refine wp_iastore hb rfl (ha1.2 _) ha1.1 q3 dX11_copies_17 ?_
    have hv := hv _ rfl
    generalize (mm_u2 m.1 a1 v4.toNatClampNeg (m.1 a0 v4.toNatClampNeg), m.2) = m1 at hv ⊢
    refine wp_iinc hb rfl (y := v4 + nI 1) rfl rfl dX11_copies_18 ?_
    refine wp_goto hb (t := 3) ⟨rfl, rfl⟩ dX11_copies_21 ?_
    exact wp_for (mm_ls_k (mm_ls_k (mm_ls_k (mm_ls_k (mm_ls_k (mm_ls_k mm_ls_nil)))))) hv
set_option maxRecDepth 100000 in
theorem v_X11_copies_27 {d sn : Nat} {a2 : Nat} {a3 : Nat} {v4 : Int32} {m : mm_Mem} {P : mm_Mem → Prop} (ha2 : shQ a2) (ha3 : shQ a3) 
    (hv : ((nI 4 < v4) → (P m)) ∧ (¬ (nI 4 < v4) → (mm_wp d sn kX11_copies 36 [none, none, some (.ref a2), some (.ref a3), some (.int v4), some (.int (nI 0))] [] m (qV P)))) :
    mm_wp d sn kX11_copies 27 [none, none, some (.ref a2), some (.ref a3), some (.int v4), none] [] m (qV P) := by
  have hb := mb_223
  refine wp_iload hb rfl dX11_copies_27 ?_
  refine wp_iconst hb (x := nI 4) rfl dX11_copies_29 ?_
  refine wp_icmp_gt hb (t := 70) ⟨rfl, rfl⟩ dX11_copies_30 ⟨fun c1 => ?_, fun c1 => ?_⟩
  · have hv := hv.1 c1
    exact wp_retV hb rfl dX11_copies_70 hv
  · have hv := hv.2 c1
    refine wp_iconst hb (x := nI 0) rfl dX11_copies_33 ?_
    refine wp_istore hb rfl dX11_copies_34 ?_
    exact wp_for (mm_ls_k (mm_ls_k (mm_ls_k (mm_ls_k (mm_ls_k (mm_ls_k mm_ls_nil)))))) hv
set_option maxRecDepth 100000 in
theorem v_X11_copies_36 {d sn : Nat} {a2 : Nat} {a3 : Nat} {v4 : Int32} {v5 : Int32} {m : mm_Mem} {P : mm_Mem → Prop} (ha2 : shQ a2) (ha3 : shQ a3) 
    (hv : ((nI 256 ≤ v5) → (mm_wp d sn kX11_copies 27 [none, none, some (.ref a2), some (.ref a3), some (.int (v4 + nI 1)), none] [] m (qV P))) ∧ (¬ (nI 256 ≤ v5) → (∃ i2 : Nat, i2 < 5 ∧ v4 = nI i2 ∧ (∃ i3 : Nat, i3 < 5 ∧ v4 = nI i3 ∧ (vp_in v5 256 ∧ (vp_in v5 256 ∧ (∀ m1 : mm_Mem, m1 = (mm_u2 m.1 (a3 + 1 + i2) v5.toNatClampNeg (vp_nar .boolean (m.1 (a2 + 1 + i3) v5.toNatClampNeg)), m.2) → (mm_wp d sn kX11_copies 36 [none, none, some (.ref a2), some (.ref a3), some (.int v4), some (.int (v5 + nI 1))] [] m1 (qV P))))))))) :
    mm_wp d sn kX11_copies 36 [none, none, some (.ref a2), some (.ref a3), some (.int v4), some (.int v5)] [] m (qV P) := by
  have hb := mb_223
  refine wp_iload hb rfl dX11_copies_36 ?_
  refine wp_sipush hb (x := nI 256) rfl dX11_copies_38 ?_
  refine wp_icmp_ge hb (t := 64) ⟨rfl, rfl⟩ dX11_copies_41 ⟨fun c1 => ?_, fun c1 => ?_⟩
  · have hv := hv.1 c1
    refine wp_iinc hb rfl (y := v4 + nI 1) rfl rfl dX11_copies_64 ?_
    refine wp_goto hb (t := 27) ⟨rfl, rfl⟩ dX11_copies_67 ?_
    exact wp_for (mm_ls_k (mm_ls_k (mm_ls_k (mm_ls_k (mm_ls_k (mm_ls_f mm_ls_nil)))))) hv
  · have hv := hv.2 c1
    refine wp_aload_n hb rfl dX11_copies_44 ?_
    refine wp_iload hb rfl dX11_copies_45 ?_
    obtain ⟨i2, hi2, hx2, hv⟩ := hv
    refine wp_aaload hb (ha3.1 _) (by decide) (mm_inx hx2 hi2 (by decide)) (mm_rx hx2 (by omega) (ha3.2 _ hi2).1) dX11_copies_47 ?_
    refine wp_iload hb rfl dX11_copies_48 ?_
    refine wp_aload_n hb rfl dX11_copies_50 ?_
    refine wp_iload hb rfl dX11_copies_51 ?_
    obtain ⟨i3, hi3, hx3, hv⟩ := hv
    refine wp_aaload hb (ha2.1 _) (by decide) (mm_inx hx3 hi3 (by decide)) (mm_rx hx3 (by omega) (ha2.2 _ hi3).1) dX11_copies_53 ?_
    refine wp_iload hb rfl dX11_copies_54 ?_
    obtain ⟨q4, hv⟩ := hv
    refine wp_baload hb rfl ((ha2.2 _ hi3).2.2 _) q4 dX11_copies_56 ?_
    obtain ⟨q5, hv⟩ := hv
    refine wp_bastore hb rfl ((ha3.2 _ hi2).2.2 _) (ha3.2 _ hi2).2.1 q5 dX11_copies_57 ?_
    have hv := hv _ rfl
    generalize (mm_u2 m.1 (a3 + 1 + i2) v5.toNatClampNeg (vp_nar .boolean (m.1 (a2 + 1 + i3) v5.toNatClampNeg)), m.2) = m1 at hv ⊢
    refine wp_iinc hb rfl (y := v5 + nI 1) rfl rfl dX11_copies_58 ?_
    refine wp_goto hb (t := 36) ⟨rfl, rfl⟩ dX11_copies_61 ?_
    exact wp_for (mm_ls_k (mm_ls_k (mm_ls_k (mm_ls_k (mm_ls_k (mm_ls_k mm_ls_nil)))))) hv
set_option maxRecDepth 100000 in
theorem v_X11_image {d sn : Nat} {m : mm_Mem} {P : Int32 → mm_Mem → Prop} 
    (hv : mm_sp d sn kX11_copies [.ref 83, .ref 84, .ref 85, .ref 91] m (qV fun m1 => ∀ m2 : mm_Mem, m2 = (mm_u2 m1.1 82 4 (nI 1), m1.2) → (mm_sp d sn kX11_many [.ref 86] m2 (qI fun x2 m3 => P x2 m3)))) :
    mm_sp (d + 1) sn kX11_image [.ref 82] m (qI P) := by
  have hb := mb_224
  refine wp_in (la := [some (.ref 82)]) ⟨⟨Nat.le_of_ble_eq_true rfl, by decide, by decide⟩, rfl⟩ ?_
  refine wp_aload_n hb rfl dX11_image_0 ?_
  refine wp_getR hb ko_224 lf_11_11 (by decide) m0_82 r0_82_0 dX11_image_1 ?_
  refine wp_aload_n hb rfl dX11_image_4 ?_
  refine wp_getR hb ko_224 lf_11_15 (by decide) m0_82 r0_82_1 dX11_image_5 ?_
  refine wp_aload_n hb rfl dX11_image_8 ?_
  refine wp_getR hb ko_224 lf_11_20 (by decide) m0_82 r0_82_2 dX11_image_9 ?_
  refine wp_aload_n hb rfl dX11_image_12 ?_
  refine wp_getR hb ko_224 lf_11_23 (by decide) m0_82 r0_82_3 dX11_image_13 ?_
  refine wp_callS hb (k' := 223) ko_224 lm_11_256 (by decide) rfl (Nat.le_of_ble_eq_true rfl) dX11_image_16 (sp_cV (hv.V (Nat.le_refl _) ?_))
  intro m1 hv
  refine wp_aload_n hb rfl dX11_image_19 ?_
  refine wp_iconst hb (x := nI 1) rfl dX11_image_20 ?_
  refine wp_putZ hb ko_224 lf_11_260 (by decide) (by decide) m0_82 dX11_image_21 ?_
  have hv := hv _ rfl
  generalize (mm_u2 m1.1 82 4 (nI 1), m1.2) = m2 at hv ⊢
  refine wp_aload_n hb rfl dX11_image_24 ?_
  refine wp_getR hb ko_224 lf_11_20 (by decide) m0_82 r0_82_2 dX11_image_25 ?_
  refine wp_iconst hb (x := nI 0) rfl dX11_image_28 ?_
  refine wp_aaload hb m0_85 (by decide) (vp_in_nI (by decide) (by decide)) r0_85_0 dX11_image_29 ?_
  refine wp_callS hb (k' := 191) ko_224 lm_11_170 (by decide) rfl (Nat.le_of_ble_eq_true rfl) dX11_image_30 (sp_cI (hv.I (Nat.le_refl _) ?_))
  intro x2 m3 hv
  exact wp_retI hb rfl dX11_image_33 hv
set_option maxRecDepth 100000 in
theorem v_X11_undo {d sn : Nat} {m : mm_Mem} {P : Int32 → mm_Mem → Prop} 
    (hv : ((¬ m.1 82 4 = 0) → (mm_sp d sn kX11_copies [.ref 84, .ref 83, .ref 91, .ref 85] m (qV fun m1 => mm_sp d sn kX11_many [.ref 86] m1 (qI fun x3 m2 => P x3 m2)))) ∧ (¬ (¬ m.1 82 4 = 0) → (P (-3) m))) :
    mm_sp (d + 1) sn kX11_undo [.ref 82] m (qI P) := by
  have hb := mb_225
  refine wp_in (la := [some (.ref 82)]) ⟨⟨Nat.le_of_ble_eq_true rfl, by decide, by decide⟩, rfl⟩ ?_
  refine wp_aload_n hb rfl dX11_undo_0 ?_
  refine wp_getI hb ko_225 lf_11_260 (by decide) m0_82 dX11_undo_1 ?_
  refine wp_if_ne hb (y := 0) (t := 10) ⟨rfl, rfl⟩ dX11_undo_4 ⟨fun c1 => ?_, fun c1 => ?_⟩
  · have hv := hv.1 c1
    refine wp_aload_n hb rfl dX11_undo_10 ?_
    refine wp_getR hb ko_225 lf_11_15 (by decide) m0_82 r0_82_1 dX11_undo_11 ?_
    refine wp_aload_n hb rfl dX11_undo_14 ?_
    refine wp_getR hb ko_225 lf_11_11 (by decide) m0_82 r0_82_0 dX11_undo_15 ?_
    refine wp_aload_n hb rfl dX11_undo_18 ?_
    refine wp_getR hb ko_225 lf_11_23 (by decide) m0_82 r0_82_3 dX11_undo_19 ?_
    refine wp_aload_n hb rfl dX11_undo_22 ?_
    refine wp_getR hb ko_225 lf_11_20 (by decide) m0_82 r0_82_2 dX11_undo_23 ?_
    refine wp_callS hb (k' := 223) ko_225 lm_11_256 (by decide) rfl (Nat.le_of_ble_eq_true rfl) dX11_undo_26 (sp_cV (hv.V (Nat.le_refl _) ?_))
    intro m1 hv
    refine wp_aload_n hb rfl dX11_undo_29 ?_
    refine wp_getR hb ko_225 lf_11_20 (by decide) m0_82 r0_82_2 dX11_undo_30 ?_
    refine wp_iconst hb (x := nI 0) rfl dX11_undo_33 ?_
    refine wp_aaload hb m0_85 (by decide) (vp_in_nI (by decide) (by decide)) r0_85_0 dX11_undo_34 ?_
    refine wp_callS hb (k' := 191) ko_225 lm_11_170 (by decide) rfl (Nat.le_of_ble_eq_true rfl) dX11_undo_35 (sp_cI (hv.I (Nat.le_refl _) ?_))
    intro x3 m2 hv
    exact wp_retI hb rfl dX11_undo_38 hv
  · have hv := hv.2 c1
    refine wp_bipush hb (x := (-3)) rfl dX11_undo_7 ?_
    exact wp_retI hb rfl dX11_undo_9 hv
set_option maxRecDepth 100000 in
theorem v_X11_count {d sn : Nat} {v1 : Int32} {m : mm_Mem} {P : Int32 → mm_Mem → Prop} 
    (hv : (v1 = nI 0 → (P (m.1 83 0) m)) ∧ (v1 = nI 1 → (P (m.1 83 1) m)) ∧ (v1 = nI 2 → (mm_sp d sn kX11_many [.ref 86] m (qI fun x4 m1 => P x4 m1))) ∧ (v1 = nI 3 → (P (m.1 83 43) m)) ∧ (v1 = nI 4 → (P (m.1 82 16) m)) ∧ (¬ v1 = nI 0 → ¬ v1 = nI 1 → ¬ v1 = nI 2 → ¬ v1 = nI 3 → ¬ v1 = nI 4 → (P (-2) m))) :
    mm_sp (d + 1) sn kX11_count [.ref 82, .int v1] m (qI P) := by
  have hb := mb_226
  refine wp_in (la := [some (.ref 82), some (.int v1)]) ⟨⟨Nat.le_of_ble_eq_true rfl, by decide, by decide⟩, rfl⟩ ?_
  refine wp_iload_n hb rfl dX11_count_0 ?_
  by_cases hc : v1.toInt < 0 ∨ 4 < v1.toInt
  · refine wp_tabO hb hc (t := 73) ⟨rfl, rfl⟩ dX11_count_1 ?_
    have hv := hv.2.2.2.2.2 (mm_out hc (by decide) (by decide)) (mm_out hc (by decide) (by decide)) (mm_out hc (by decide) (by decide)) (mm_out hc (by decide) (by decide)) (mm_out hc (by decide) (by decide))
    refine wp_bipush hb (x := (-2)) rfl dX11_count_73 ?_
    exact wp_retI hb rfl dX11_count_75 hv
  · have hx := mm_tabc (n := 5) (lo := 0) (by decide) hc (by decide)
    obtain ⟨j, hj, hx⟩ := hx
    by_cases g0 : j = 0
    · subst g0
      have hv := hv.1 hx
      have hc9 := hc
      rw [hx] at hc9 ⊢
      refine wp_tabI hb (off := 35) hc9 rfl (t := 36) ⟨rfl, rfl⟩ dX11_count_1 ?_
      refine wp_aload_n hb rfl dX11_count_36 ?_
      refine wp_getR hb ko_226 lf_11_11 (by decide) m0_82 r0_82_0 dX11_count_37 ?_
      refine wp_iconst hb (x := nI 0) rfl dX11_count_40 ?_
      refine wp_iaload hb (q := 0) (by decide) m0_83 (vp_in_nI (by decide) (by decide)) dX11_count_41 ?_
      exact wp_retI hb rfl dX11_count_42 hv
    by_cases g1 : j = 1
    · subst g1
      have hv := hv.2.1 hx
      have hc9 := hc
      rw [hx] at hc9 ⊢
      refine wp_tabI hb (off := 42) hc9 rfl (t := 43) ⟨rfl, rfl⟩ dX11_count_1 ?_
      refine wp_aload_n hb rfl dX11_count_43 ?_
      refine wp_getR hb ko_226 lf_11_11 (by decide) m0_82 r0_82_0 dX11_count_44 ?_
      refine wp_iconst hb (x := nI 1) rfl dX11_count_47 ?_
      refine wp_iaload hb (q := 1) (by decide) m0_83 (vp_in_nI (by decide) (by decide)) dX11_count_48 ?_
      exact wp_retI hb rfl dX11_count_49 hv
    by_cases g2 : j = 2
    · subst g2
      have hv := hv.2.2.1 hx
      have hc9 := hc
      rw [hx] at hc9 ⊢
      refine wp_tabI hb (off := 49) hc9 rfl (t := 50) ⟨rfl, rfl⟩ dX11_count_1 ?_
      refine wp_aload_n hb rfl dX11_count_50 ?_
      refine wp_getR hb ko_226 lf_11_20 (by decide) m0_82 r0_82_2 dX11_count_51 ?_
      refine wp_iconst hb (x := nI 0) rfl dX11_count_54 ?_
      refine wp_aaload hb m0_85 (by decide) (vp_in_nI (by decide) (by decide)) r0_85_0 dX11_count_55 ?_
      refine wp_callS hb (k' := 191) ko_226 lm_11_170 (by decide) rfl (Nat.le_of_ble_eq_true rfl) dX11_count_56 (sp_cI (hv.I (Nat.le_refl _) ?_))
      intro x4 m1 hv
      exact wp_retI hb rfl dX11_count_59 hv
    by_cases g3 : j = 3
    · subst g3
      have hv := hv.2.2.2.1 hx
      have hc9 := hc
      rw [hx] at hc9 ⊢
      refine wp_tabI hb (off := 59) hc9 rfl (t := 60) ⟨rfl, rfl⟩ dX11_count_1 ?_
      refine wp_aload_n hb rfl dX11_count_60 ?_
      refine wp_getR hb ko_226 lf_11_11 (by decide) m0_82 r0_82_0 dX11_count_61 ?_
      refine wp_bipush hb (x := nI 43) rfl dX11_count_64 ?_
      refine wp_iaload hb (q := 43) (by decide) m0_83 (vp_in_nI (by decide) (by decide)) dX11_count_66 ?_
      exact wp_retI hb rfl dX11_count_67 hv
    by_cases g4 : j = 4
    · subst g4
      have hv := hv.2.2.2.2.1 hx
      have hc9 := hc
      rw [hx] at hc9 ⊢
      refine wp_tabI hb (off := 67) hc9 rfl (t := 68) ⟨rfl, rfl⟩ dX11_count_1 ?_
      refine wp_aload_n hb rfl dX11_count_68 ?_
      refine wp_getI hb ko_226 lf_11_202 (by decide) m0_82 dX11_count_69 ?_
      exact wp_retI hb rfl dX11_count_72 hv
    omega
