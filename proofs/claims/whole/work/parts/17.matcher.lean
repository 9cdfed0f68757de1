set_option maxRecDepth 100000 in
theorem v_X4_areAlike {d sn : Nat} {a1 : Nat} {a2 : Nat} {v3 : Int32} {m : mm_Mem} {P : Int32 → mm_Mem → Prop} (ha1 : shB a1) (ha2 : shB a2) 
    (hv : mm_sp d sn kX4_canPlace [.ref 73, .ref a1, .ref a2, .int v3, .int (nI 0), .int (nI 0)] m (qI fun x1 m1 => (x1 = 0 ∨ x1 = 1) ∧ P x1 m1)) :
    mm_sp (d + 1) sn kX4_areAlike [.ref 73, .ref a1, .ref a2, .int v3] m (qI P) := by
  have hb := mb_43
  refine wp_in (la := [some (.ref 73), some (.ref a1), some (.ref a2), some (.int v3)]) ⟨⟨Nat.le_of_ble_eq_true rfl, by decide, by decide⟩, rfl⟩ ?_
  refine wp_aload_n hb rfl dX4_areAlike_0 ?_
  refine wp_aload_n hb rfl dX4_areAlike_1 ?_
  refine wp_aload_n hb rfl dX4_areAlike_2 ?_
  refine wp_iload_n hb rfl dX4_areAlike_3 ?_
  refine wp_iconst hb (x := nI 0) rfl dX4_areAlike_4 ?_
  refine wp_iconst hb (x := nI 0) rfl dX4_areAlike_5 ?_
  refine wp_callV hb (k' := 45) ko_43 lm_4_15 rfl m0_73 (by decide) (Nat.le_of_ble_eq_true rfl) dX4_areAlike_6 (sp_cI (hv.I (Nat.le_refl _) ?_))
  intro x1 m1 hv
  exact wp_retZ hb rfl hv.1 dX4_areAlike_9 hv.2
set_option maxRecDepth 100000 in
theorem v_X4_selvesOf {d sn : Nat} {a1 : Nat} {v2 : Int32} {m : mm_Mem} {P : Int32 → mm_Mem → Prop} (ha1 : shB a1) 
    (hv : mm_wp d sn kX4_selvesOf 8 [some (.ref 73), some (.ref a1), some (.int v2), some (.int (nI 1)), some (.int (nI 0)), some (.int (nI 0)), none, none, none] [] m (qI P)) :
    mm_sp (d + 1) sn kX4_selvesOf [.ref 73, .ref a1, .int v2] m (qI P) := by
  have hb := mb_44
  refine wp_in (la := [some (.ref 73), some (.ref a1), some (.int v2), none, none, none, none, none, none]) ⟨⟨Nat.le_of_ble_eq_true rfl, by decide, by decide⟩, rfl⟩ ?_
  refine wp_iconst hb (x := nI 1) rfl dX4_selvesOf_0 ?_
  refine wp_istore_n hb rfl dX4_selvesOf_1 ?_
  refine wp_iconst hb (x := nI 0) rfl dX4_selvesOf_2 ?_
  refine wp_istore hb rfl dX4_selvesOf_3 ?_
  refine wp_iconst hb (x := nI 0) rfl dX4_selvesOf_5 ?_
  refine wp_istore hb rfl dX4_selvesOf_6 ?_
  exact wp_for (mm_ls_k (mm_ls_k (mm_ls_k (mm_ls_k (mm_ls_k (mm_ls_k (mm_ls_k (mm_ls_k (mm_ls_k mm_ls_nil))))))))) hv
set_option maxRecDepth 100000 in
theorem v_X4_selvesOf_8 {d sn : Nat} {a1 : Nat} {v2 : Int32} {v3 : Int32} {v4 : Int32} {v5 : Int32} {m : mm_Mem} {P : Int32 → mm_Mem → Prop} (ha1 : shB a1) 
    (hv : ((v2 ≤ v5) → (P v3 m)) ∧ (¬ (v2 ≤ v5) → (((nI 8 ≤ v5) → (P v3 m)) ∧ (¬ (nI 8 ≤ v5) → (mm_wp d sn kX4_selvesOf 28 [some (.ref 73), some (.ref a1), some (.int v2), some (.int v3), some (.int v4), some (.int v5), some (.int (nI 0)), some (.int v5), none] [] m (qI P)))))) :
    mm_wp d sn kX4_selvesOf 8 [some (.ref 73), some (.ref a1), some (.int v2), some (.int v3), some (.int v4), some (.int v5), none, none, none] [] m (qI P) := by
  have hb := mb_44
  refine wp_iload hb rfl dX4_selvesOf_8 ?_
  refine wp_iload_n hb rfl dX4_selvesOf_10 ?_
  refine wp_icmp_ge hb (t := 120) ⟨rfl, rfl⟩ dX4_selvesOf_11 ⟨fun c1 => ?_, fun c1 => ?_⟩
  · have hv := hv.1 c1
    refine wp_iload_n hb rfl dX4_selvesOf_120 ?_
    exact wp_retI hb rfl dX4_selvesOf_121 hv
  · have hv := hv.2 c1
    refine wp_iload hb rfl dX4_selvesOf_14 ?_
    refine wp_bipush hb (x := nI 8) rfl dX4_selvesOf_16 ?_
    refine wp_icmp_ge hb (t := 120) ⟨rfl, rfl⟩ dX4_selvesOf_18 ⟨fun c2 => ?_, fun c2 => ?_⟩
    · have hv := hv.1 c2
      refine wp_iload_n hb rfl dX4_selvesOf_120 ?_
      exact wp_retI hb rfl dX4_selvesOf_121 hv
    · have hv := hv.2 c2
      refine wp_iconst hb (x := nI 0) rfl dX4_selvesOf_21 ?_
      refine wp_istore hb rfl dX4_selvesOf_22 ?_
      refine wp_iload hb rfl dX4_selvesOf_24 ?_
      refine wp_istore hb rfl dX4_selvesOf_26 ?_
      exact wp_for (mm_ls_k (mm_ls_k (mm_ls_k (mm_ls_k (mm_ls_k (mm_ls_k (mm_ls_k (mm_ls_k (mm_ls_k mm_ls_nil))))))))) hv
set_option maxRecDepth 100000 in
theorem v_X4_selvesOf_28 {d sn : Nat} {a1 : Nat} {v2 : Int32} {v3 : Int32} {v4 : Int32} {v5 : Int32} {v6 : Int32} {v7 : Int32} {m : mm_Mem} {P : Int32 → mm_Mem → Prop} (ha1 : shB a1) 
    (hv : ((v2 ≤ v7) → (mm_sp d sn kX4_fits [.ref 73, .ref a1, .ref a1, .int v5, .int v5] m (qI fun x2 m1 => mm_wp d sn kX4_selvesOf 8 [some (.ref 73), some (.ref a1), some (.int v2), some (.int (v3 * v6)), some (.int (v4 ||| (mm_shl (nI 1) v5))), some (.int (v5 + nI 1)), none, none, none] [] m1 (qI P)))) ∧ (¬ (v2 ≤ v7) → (mm_sp d sn kX4_fits [.ref 73, .ref a1, .ref a1, .int v5, .int v7] m (qI fun x3 m2 => ((x3 = 0) → (mm_wp d sn kX4_selvesOf 28 [some (.ref 73), some (.ref a1), some (.int v2), some (.int v3), some (.int v4), some (.int v5), some (.int v6), some (.int (v7 + nI 1)), none] [] m2 (qI P))) ∧ (¬ (x3 = 0) → (mm_sp d sn kX4_canPlace [.ref 73, .ref a1, .ref a1, .int v2, .int (v5 + (nI 1)), .int (v4 ||| (mm_shl (nI 1) v7))] m2 (qI fun x5 m3 => ((x5 = 0) → (mm_wp d sn kX4_selvesOf 28 [some (.ref 73), some (.ref a1), some (.int v2), some (.int v3), some (.int v4), some (.int v5), some (.int v6), some (.int (v7 + nI 1)), none] [] m3 (qI P))) ∧ (¬ (x5 = 0) → (mm_wp d sn kX4_selvesOf 28 [some (.ref 73), some (.ref a1), some (.int v2), some (.int v3), some (.int v4), some (.int v5), some (.int (v6 + nI 1)), some (.int (v7 + nI 1)), none] [] m3 (qI P)))))))))) :
    mm_wp d sn kX4_selvesOf 28 [some (.ref 73), some (.ref a1), some (.int v2), some (.int v3), some (.int v4), some (.int v5), some (.int v6), some (.int v7), none] [] m (qI P) := by
  have hb := mb_44
  refine wp_iload hb rfl dX4_selvesOf_28 ?_
  refine wp_iload_n hb rfl dX4_selvesOf_30 ?_
  refine wp_icmp_ge hb (t := 89) ⟨rfl, rfl⟩ dX4_selvesOf_31 ⟨fun c1 => ?_, fun c1 => ?_⟩
  · have hv := hv.1 c1
    refine wp_iload_n hb rfl dX4_selvesOf_89 ?_
    refine wp_iload hb rfl dX4_selvesOf_90 ?_
    refine wp_imul hb dX4_selvesOf_92 ?_
    refine wp_istore_n hb rfl dX4_selvesOf_93 ?_
    refine wp_aload_n hb rfl dX4_selvesOf_94 ?_
    refine wp_aload_n hb rfl dX4_selvesOf_95 ?_
    refine wp_aload_n hb rfl dX4_selvesOf_96 ?_
    refine wp_iload hb rfl dX4_selvesOf_97 ?_
    refine wp_iload hb rfl dX4_selvesOf_99 ?_
    refine wp_callV hb (k' := 46) ko_44 lm_4_19 rfl m0_73 (by decide) (Nat.le_of_ble_eq_true rfl) dX4_selvesOf_101 (sp_cI (hv.I (Nat.le_refl _) ?_))
    intro x2 m1 hv
    refine wp_pop hb dX4_selvesOf_104 ?_
    refine wp_iload hb rfl dX4_selvesOf_105 ?_
    refine wp_iconst hb (x := nI 1) rfl dX4_selvesOf_107 ?_
    refine wp_iload hb rfl dX4_selvesOf_108 ?_
    refine wp_ishl hb dX4_selvesOf_110 ?_
    refine wp_ior hb dX4_selvesOf_111 ?_
    refine wp_istore hb rfl dX4_selvesOf_112 ?_
    refine wp_iinc hb rfl (y := v5 + nI 1) rfl rfl dX4_selvesOf_114 ?_
    refine wp_goto hb (t := 8) ⟨rfl, rfl⟩ dX4_selvesOf_117 ?_
    exact wp_for (mm_ls_k (mm_ls_k (mm_ls_k (mm_ls_k (mm_ls_k (mm_ls_k (mm_ls_f (mm_ls_f (mm_ls_k mm_ls_nil))))))))) hv
  · have hv := hv.2 c1
    refine wp_aload_n hb rfl dX4_selvesOf_34 ?_
    refine wp_aload_n hb rfl dX4_selvesOf_35 ?_
    refine wp_aload_n hb rfl dX4_selvesOf_36 ?_
    refine wp_iload hb rfl dX4_selvesOf_37 ?_
    refine wp_iload hb rfl dX4_selvesOf_39 ?_
    refine wp_callV hb (k' := 46) ko_44 lm_4_19 rfl m0_73 (by decide) (Nat.le_of_ble_eq_true rfl) dX4_selvesOf_41 (sp_cI (hv.I (Nat.le_refl _) ?_))
    intro x3 m2 hv
    refine wp_if_eq hb (y := 0) (t := 72) ⟨rfl, rfl⟩ dX4_selvesOf_44 ⟨fun c4 => ?_, fun c4 => ?_⟩
    · have hv := hv.1 c4
      refine wp_iconst hb (x := nI 0) rfl dX4_selvesOf_72 ?_
      refine wp_istore hb rfl dX4_selvesOf_73 ?_
      refine wp_iload hb rfl dX4_selvesOf_75 ?_
      refine wp_if_eq hb (y := 0) (t := 83) ⟨rfl, rfl⟩ dX4_selvesOf_77 ⟨fun _ => ?_, fun c => absurd (by decide) c⟩
      refine wp_iinc hb rfl (y := v7 + nI 1) rfl rfl dX4_selvesOf_83 ?_
      refine wp_goto hb (t := 28) ⟨rfl, rfl⟩ dX4_selvesOf_86 ?_
      exact wp_for (mm_ls_k (mm_ls_k (mm_ls_k (mm_ls_k (mm_ls_k (mm_ls_k (mm_ls_k (mm_ls_k (mm_ls_f mm_ls_nil))))))))) hv
    · have hv := hv.2 c4
      refine wp_aload_n hb rfl dX4_selvesOf_47 ?_
      refine wp_aload_n hb rfl dX4_selvesOf_48 ?_
      refine wp_aload_n hb rfl dX4_selvesOf_49 ?_
      refine wp_iload_n hb rfl dX4_selvesOf_50 ?_
      refine wp_iload hb rfl dX4_selvesOf_51 ?_
      refine wp_iconst hb (x := nI 1) rfl dX4_selvesOf_53 ?_
      refine wp_iadd hb dX4_selvesOf_54 ?_
      refine wp_iload hb rfl dX4_selvesOf_55 ?_
      refine wp_iconst hb (x := nI 1) rfl dX4_selvesOf_57 ?_
      refine wp_iload hb rfl dX4_selvesOf_58 ?_
      refine wp_ishl hb dX4_selvesOf_60 ?_
      refine wp_ior hb dX4_selvesOf_61 ?_
      refine wp_callV hb (k' := 45) ko_44 lm_4_15 rfl m0_73 (by decide) (Nat.le_of_ble_eq_true rfl) dX4_selvesOf_62 (sp_cI (hv.I (Nat.le_refl _) ?_))
      intro x5 m3 hv
      refine wp_if_eq hb (y := 0) (t := 72) ⟨rfl, rfl⟩ dX4_selvesOf_65 ⟨fun c6 => ?_, fun c6 => ?_⟩
      · have hv := hv.1 c6
        refine wp_iconst hb (x := nI 0) rfl dX4_selvesOf_72 ?_
        refine wp_istore hb rfl dX4_selvesOf_73 ?_
        refine wp_iload hb rfl dX4_selvesOf_75 ?_
        refine wp_if_eq hb (y := 0) (t := 83) ⟨rfl, rfl⟩ dX4_selvesOf_77 ⟨fun _ => ?_, fun c => absurd (by decide) c⟩
        refine wp_iinc hb rfl (y := v7 + nI 1) rfl rfl dX4_selvesOf_83 ?_
        refine wp_goto hb (t := 28) ⟨rfl, rfl⟩ dX4_selvesOf_86 ?_
        exact wp_for (mm_ls_k (mm_ls_k (mm_ls_k (mm_ls_k (mm_ls_k (mm_ls_k (mm_ls_k (mm_ls_k (mm_ls_f mm_ls_nil))))))))) hv
      · have hv := hv.2 c6
        refine wp_iconst hb (x := nI 1) rfl dX4_selvesOf_68 ?_
        refine wp_goto hb (t := 73) ⟨rfl, rfl⟩ dX4_selvesOf_69 ?_
        refine wp_istore hb rfl dX4_selvesOf_73 ?_
        refine wp_iload hb rfl dX4_selvesOf_75 ?_
        refine wp_if_eq hb (y := 0) (t := 83) ⟨rfl, rfl⟩ dX4_selvesOf_77 ⟨fun c => absurd c (by decide), fun _ => ?_⟩
        refine wp_iinc hb rfl (y := v6 + nI 1) rfl rfl dX4_selvesOf_80 ?_
        refine wp_iinc hb rfl (y := v7 + nI 1) rfl rfl dX4_selvesOf_83 ?_
        refine wp_goto hb (t := 28) ⟨rfl, rfl⟩ dX4_selvesOf_86 ?_
        exact wp_for (mm_ls_k (mm_ls_k (mm_ls_k (mm_ls_k (mm_ls_k (mm_ls_k (mm_ls_k (mm_ls_k (mm_ls_f mm_ls_nil))))))))) hv
set_option maxRecDepth 100000 in
theorem v_X4_canPlace {d sn : Nat} {a1 : Nat} {a2 : Nat} {v3 : Int32} {v4 : Int32} {v5 : Int32} {m : mm_Mem} {P : Int32 → mm_Mem → Prop} (ha1 : shB a1) (ha2 : shB a2) 
    (hv : ((v3 ≤ v4) → (P (nI 1) m)) ∧ (¬ (v3 ≤ v4) → (((v4 < nI 8) → (mm_wp d sn kX4_canPlace 18 [some (.ref 73), some (.ref a1), some (.ref a2), some (.int v3), some (.int v4), some (.int v5), some (.int (nI 0)), none] [] m (qI P))) ∧ (¬ (v4 < nI 8) → (P (nI 1) m))))) :
    mm_sp (d + 1) sn kX4_canPlace [.ref 73, .ref a1, .ref a2, .int v3, .int v4, .int v5] m (qI P) := by
  have hb := mb_45
  refine wp_in (la := [some (.ref 73), some (.ref a1), some (.ref a2), some (.int v3), some (.int v4), some (.int v5), none, none]) ⟨⟨Nat.le_of_ble_eq_true rfl, by decide, by decide⟩, rfl⟩ ?_
  refine wp_iload hb rfl dX4_canPlace_0 ?_
  refine wp_iload_n hb rfl dX4_canPlace_2 ?_
  refine wp_icmp_ge hb (t := 13) ⟨rfl, rfl⟩ dX4_canPlace_3 ⟨fun c1 => ?_, fun c1 => ?_⟩
  · have hv := hv.1 c1
    refine wp_iconst hb (x := nI 1) rfl dX4_canPlace_13 ?_
    exact wp_retZ hb rfl (by decide) dX4_canPlace_14 hv
  · have hv := hv.2 c1
    refine wp_iload hb rfl dX4_canPlace_6 ?_
    refine wp_bipush hb (x := nI 8) rfl dX4_canPlace_8 ?_
    refine wp_icmp_lt hb (t := 15) ⟨rfl, rfl⟩ dX4_canPlace_10 ⟨fun c2 => ?_, fun c2 => ?_⟩
    · have hv := hv.1 c2
      refine wp_iconst hb (x := nI 0) rfl dX4_canPlace_15 ?_
      refine wp_istore hb rfl dX4_canPlace_16 ?_
      exact wp_for (mm_ls_k (mm_ls_k (mm_ls_k (mm_ls_k (mm_ls_k (mm_ls_k (mm_ls_k (mm_ls_k mm_ls_nil)))))))) hv
    · have hv := hv.2 c2
      refine wp_iconst hb (x := nI 1) rfl dX4_canPlace_13 ?_
      exact wp_retZ hb rfl (by decide) dX4_canPlace_14 hv
set_option maxRecDepth 100000 in
theorem v_X4_canPlace_18 {d sn : Nat} {a1 : Nat} {a2 : Nat} {v3 : Int32} {v4 : Int32} {v5 : Int32} {v6 : Int32} {m : mm_Mem} {P : Int32 → mm_Mem → Prop} (ha1 : shB a1) (ha2 : shB a2) 
    (hv : ((v3 ≤ v6) → (P (nI 0) m)) ∧ (¬ (v3 ≤ v6) → (((¬ (mm_shr v5 v6) &&& (nI 1) = 0) → (mm_wp d sn kX4_canPlace 18 [some (.ref 73), some (.ref a1), some (.ref a2), some (.int v3), some (.int v4), some (.int v5), some (.int (v6 + nI 1)), none] [] m (qI P))) ∧ (¬ (¬ (mm_shr v5 v6) &&& (nI 1) = 0) → (mm_sp d sn kX4_fits [.ref 73, .ref a1, .ref a2, .int v4, .int v6] m (qI fun x3 m1 => ((x3 = 0) → (mm_wp d sn kX4_canPlace 18 [some (.ref 73), some (.ref a1), some (.ref a2), some (.int v3), some (.int v4), some (.int v5), some (.int (v6 + nI 1)), none] [] m1 (qI P))) ∧ (¬ (x3 = 0) → (mm_sp d sn kX4_canPlace [.ref 73, .ref a1, .ref a2, .int v3, .int (v4 + (nI 1)), .int (v5 ||| (mm_shl (nI 1) v6))] m1 (qI fun x5 m2 => ((x5 = 0) → (mm_wp d sn kX4_canPlace 18 [some (.ref 73), some (.ref a1), some (.ref a2), some (.int v3), some (.int v4), some (.int v5), some (.int (v6 + nI 1)), none] [] m2 (qI P))) ∧ (¬ (x5 = 0) → (P (nI 1) m2))))))))))) :
    mm_wp d sn kX4_canPlace 18 [some (.ref 73), some (.ref a1), some (.ref a2), some (.int v3), some (.int v4), some (.int v5), some (.int v6), none] [] m (qI P) := by
  have hb := mb_45
  refine wp_iload hb rfl dX4_canPlace_18 ?_
  refine wp_iload_n hb rfl dX4_canPlace_20 ?_
  refine wp_icmp_ge hb (t := 88) ⟨rfl, rfl⟩ dX4_canPlace_21 ⟨fun c1 => ?_, fun c1 => ?_⟩
  · have hv := hv.1 c1
    refine wp_iconst hb (x := nI 0) rfl dX4_canPlace_88 ?_
    exact wp_retZ hb rfl (by decide) dX4_canPlace_89 hv
  · have hv := hv.2 c1
    refine wp_iload hb rfl dX4_canPlace_24 ?_
    refine wp_iload hb rfl dX4_canPlace_26 ?_
    refine wp_ishr hb dX4_canPlace_28 ?_
    refine wp_iconst hb (x := nI 1) rfl dX4_canPlace_29 ?_
    refine wp_iand hb dX4_canPlace_30 ?_
    refine wp_if_ne hb (y := 0) (t := 38) ⟨rfl, rfl⟩ dX4_canPlace_31 ⟨fun c2 => ?_, fun c2 => ?_⟩
    · have hv := hv.1 c2
      refine wp_iconst hb (x := nI 0) rfl dX4_canPlace_38 ?_
      refine wp_istore hb rfl dX4_canPlace_39 ?_
      refine wp_iload hb rfl dX4_canPlace_41 ?_
      refine wp_if_eq hb (y := 0) (t := 82) ⟨rfl, rfl⟩ dX4_canPlace_43 ⟨fun _ => ?_, fun c => absurd (by decide) c⟩
      refine wp_iinc hb rfl (y := v6 + nI 1) rfl rfl dX4_canPlace_82 ?_
      refine wp_goto hb (t := 18) ⟨rfl, rfl⟩ dX4_canPlace_85 ?_
      exact wp_for (mm_ls_k (mm_ls_k (mm_ls_k (mm_ls_k (mm_ls_k (mm_ls_k (mm_ls_k (mm_ls_f mm_ls_nil)))))))) hv
    · have hv := hv.2 c2
      refine wp_iconst hb (x := nI 1) rfl dX4_canPlace_34 ?_
      refine wp_goto hb (t := 39) ⟨rfl, rfl⟩ dX4_canPlace_35 ?_
      refine wp_istore hb rfl dX4_canPlace_39 ?_
      refine wp_iload hb rfl dX4_canPlace_41 ?_
      refine wp_if_eq hb (y := 0) (t := 82) ⟨rfl, rfl⟩ dX4_canPlace_43 ⟨fun c => absurd c (by decide), fun _ => ?_⟩
      refine wp_aload_n hb rfl dX4_canPlace_46 ?_
      refine wp_aload_n hb rfl dX4_canPlace_47 ?_
      refine wp_aload_n hb rfl dX4_canPlace_48 ?_
      refine wp_iload hb rfl dX4_canPlace_49 ?_
      refine wp_iload hb rfl dX4_canPlace_51 ?_
      refine wp_callV hb (k' := 46) ko_45 lm_4_19 rfl m0_73 (by decide) (Nat.le_of_ble_eq_true rfl) dX4_canPlace_53 (sp_cI (hv.I (Nat.le_refl _) ?_))
      intro x3 m1 hv
      refine wp_if_eq hb (y := 0) (t := 82) ⟨rfl, rfl⟩ dX4_canPlace_56 ⟨fun c4 => ?_, fun c4 => ?_⟩
      · have hv := hv.1 c4
        refine wp_iinc hb rfl (y := v6 + nI 1) rfl rfl dX4_canPlace_82 ?_
        refine wp_goto hb (t := 18) ⟨rfl, rfl⟩ dX4_canPlace_85 ?_
        exact wp_for (mm_ls_k (mm_ls_k (mm_ls_k (mm_ls_k (mm_ls_k (mm_ls_k (mm_ls_k (mm_ls_f mm_ls_nil)))))))) hv
      · have hv := hv.2 c4
        refine wp_aload_n hb rfl dX4_canPlace_59 ?_
        refine wp_aload_n hb rfl dX4_canPlace_60 ?_
        refine wp_aload_n hb rfl dX4_canPlace_61 ?_
        refine wp_iload_n hb rfl dX4_canPlace_62 ?_
        refine wp_iload hb rfl dX4_canPlace_63 ?_
        refine wp_iconst hb (x := nI 1) rfl dX4_canPlace_65 ?_
        refine wp_iadd hb dX4_canPlace_66 ?_
        refine wp_iload hb rfl dX4_canPlace_67 ?_
        refine wp_iconst hb (x := nI 1) rfl dX4_canPlace_69 ?_
        refine wp_iload hb rfl dX4_canPlace_70 ?_
        refine wp_ishl hb dX4_canPlace_72 ?_
        refine wp_ior hb dX4_canPlace_73 ?_
        refine wp_callV hb (k' := 45) ko_45 lm_4_15 rfl m0_73 (by decide) (Nat.le_of_ble_eq_true rfl) dX4_canPlace_74 (sp_cI (hv.I (Nat.le_refl _) ?_))
        intro x5 m2 hv
        refine wp_if_eq hb (y := 0) (t := 82) ⟨rfl, rfl⟩ dX4_canPlace_77 ⟨fun c6 => ?_, fun c6 => ?_⟩
        · have hv := hv.1 c6
          refine wp_iinc hb rfl (y := v6 + nI 1) rfl rfl dX4_canPlace_82 ?_
          refine wp_goto hb (t := 18) ⟨rfl, rfl⟩ dX4_canPlace_85 ?_
          exact wp_for (mm_ls_k (mm_ls_k (mm_ls_k (mm_ls_k (mm_ls_k (mm_ls_k (mm_ls_k (mm_ls_f mm_ls_nil)))))))) hv
        · have hv := hv.2 c6
          refine wp_iconst hb (x := nI 1) rfl dX4_canPlace_80 ?_
          exact wp_retZ hb rfl (by decide) dX4_canPlace_81 hv
set_option maxRecDepth 100000 in
theorem v_X4_fits {d sn : Nat} {a1 : Nat} {a2 : Nat} {v3 : Int32} {v4 : Int32} {m : mm_Mem} {P : Int32 → mm_Mem → Prop} (ha1 : shB a1) (ha2 : shB a2) 
    (hv : mm_wp d sn kX4_fits 8 [some (.ref 73), some (.ref a1), some (.ref a2), none, some (.int v4), some (.int (mm_shl (nI 1) v3)), some (.int (nI 0)), none] [] m (qI P)) :
    mm_sp (d + 1) sn kX4_fits [.ref 73, .ref a1, .ref a2, .int v3, .int v4] m (qI P) := by
  have hb := mb_46
  refine wp_in (la := [some (.ref 73), some (.ref a1), some (.ref a2), some (.int v3), some (.int v4), none, none, none]) ⟨⟨Nat.le_of_ble_eq_true rfl, by decide, by decide⟩, rfl⟩ ?_
  refine wp_iconst hb (x := nI 1) rfl dX4_fits_0 ?_
  refine wp_iload_n hb rfl dX4_fits_1 ?_
  refine wp_ishl hb dX4_fits_2 ?_
  refine wp_istore hb rfl dX4_fits_3 ?_
  refine wp_iconst hb (x := nI 0) rfl dX4_fits_5 ?_
  refine wp_istore hb rfl dX4_fits_6 ?_
  exact wp_for (mm_ls_k (mm_ls_k (mm_ls_k (mm_ls_f (mm_ls_k (mm_ls_k (mm_ls_k (mm_ls_k mm_ls_nil)))))))) hv
set_option maxRecDepth 100000 in
theorem v_X4_fits_8 {d sn : Nat} {a1 : Nat} {a2 : Nat} {v4 : Int32} {v5 : Int32} {v6 : Int32} {m : mm_Mem} {P : Int32 → mm_Mem → Prop} (ha1 : shB a1) (ha2 : shB a2) 
    (hv : ((v5 ≤ v6) → (P (nI 1) m)) ∧ (¬ (v5 ≤ v6) → (((nI 256 ≤ v5 + v6) → (P (nI 1) m)) ∧ (¬ (nI 256 ≤ v5 + v6) → (((¬ v6 = 0) → (vp_in v6 256 ∧ (vp_in (v5 + v6) 256 ∧ (∀ m1 : mm_Mem, m1 = (mm_u2 m.1 74 (v5 + v6).toNatClampNeg ((m.1 74 v6.toNatClampNeg) ||| (mm_shl (nI 1) v4)), m.2) → (mm_sp d sn kX0_has [.ref a1, .int (v5 + v6)] m1 (qI fun x6 m2 => mm_sp d sn kX0_has [.ref a2, .int ((m.1 74 v6.toNatClampNeg) ||| (mm_shl (nI 1) v4))] m2 (qI fun x7 m3 => ((x6 = x7) → (mm_wp d sn kX4_fits 8 [some (.ref 73), some (.ref a1), some (.ref a2), none, some (.int v4), some (.int v5), some (.int (v6 + nI 1)), none] [] m3 (qI P))) ∧ (¬ (x6 = x7) → (P (nI 0) m3))))))))) ∧ (¬ (¬ v6 = 0) → (vp_in (v5 + v6) 256 ∧ (∀ m4 : mm_Mem, m4 = (mm_u2 m.1 74 (v5 + v6).toNatClampNeg ((nI 0) ||| (mm_shl (nI 1) v4)), m.2) → (mm_sp d sn kX0_has [.ref a1, .int (v5 + v6)] m4 (qI fun x10 m5 => mm_sp d sn kX0_has [.ref a2, .int ((nI 0) ||| (mm_shl (nI 1) v4))] m5 (qI fun x11 m6 => ((x10 = x11) → (mm_wp d sn kX4_fits 8 [some (.ref 73), some (.ref a1), some (.ref a2), none, some (.int v4), some (.int v5), some (.int (v6 + nI 1)), none] [] m6 (qI P))) ∧ (¬ (x10 = x11) → (P (nI 0) m6))))))))))))) :
    mm_wp d sn kX4_fits 8 [some (.ref 73), some (.ref a1), some (.ref a2), none, some (.int v4), some (.int v5), some (.int v6), none] [] m (qI P) := by
  have hb := mb_46
  refine wp_iload hb rfl dX4_fits_8 ?_
  refine wp_iload hb rfl dX4_fits_10 ?_
  refine wp_icmp_ge hb (t := 89) ⟨rfl, rfl⟩ dX4_fits_12 ⟨fun c1 => ?_, fun c1 => ?_⟩
  · have hv := hv.1 c1
    refine wp_iconst hb (x := nI 1) rfl dX4_fits_89 ?_
    exact wp_retZ hb rfl (by decide) dX4_fits_90 hv
  · have hv := hv.2 c1
    refine wp_iload hb rfl dX4_fits_15 ?_
    refine wp_iload hb rfl dX4_fits_17 ?_
    refine wp_iadd hb dX4_fits_19 ?_
    refine wp_aload_n hb rfl dX4_fits_20 ?_
    refine wp_getR hb ko_46 lf_4_9 (by decide) m0_73 r0_73_0 dX4_fits_21 ?_
    refine wp_alen hb (x := nI 256) m0_74 (by decide) rfl dX4_fits_24 ?_
    refine wp_icmp_ge hb (t := 89) ⟨rfl, rfl⟩ dX4_fits_25 ⟨fun c2 => ?_, fun c2 => ?_⟩
    · have hv := hv.1 c2
      refine wp_iconst hb (x := nI 1) rfl dX4_fits_89 ?_
      exact wp_retZ hb rfl (by decide) dX4_fits_90 hv
    · have hv := hv.2 c2
      refine wp_iload hb rfl dX4_fits_28 ?_
      refine wp_if_ne hb (y := 0) (t := 37) ⟨rfl, rfl⟩ dX4_fits_30 ⟨fun c3 => ?_, fun c3 => ?_⟩
      · have hv := hv.1 c3
        refine wp_aload_n hb rfl dX4_fits_37 ?_
        refine wp_getR hb ko_46 lf_4_9 (by decide) m0_73 r0_73_0 dX4_fits_38 ?_
        refine wp_iload hb rfl dX4_fits_41 ?_
        obtain ⟨q4, hv⟩ := hv
        refine wp_iaload hb rfl m0_74 q4 dX4_fits_43 ?_
        refine wp_iconst hb (x := nI 1) rfl dX4_fits_44 ?_
        refine wp_iload hb rfl dX4_fits_45 ?_
        refine wp_ishl hb dX4_fits_47 ?_
        refine wp_ior hb dX4_fits_48 ?_
        refine wp_istore hb rfl dX4_fits_49 ?_
        refine wp_aload_n hb rfl dX4_fits_51 ?_
        refine wp_getR hb ko_46 lf_4_9 (by decide) m0_73 r0_73_0 dX4_fits_52 ?_
        refine wp_iload hb rfl dX4_fits_55 ?_
        refine wp_iload hb rfl dX4_fits_57 ?_
        refine wp_iadd hb dX4_fits_59 ?_
        refine wp_iload hb rfl dX4_fits_60 ?_
        obtain ⟨q5, hv⟩ := hv
        refine wp_iastore hb rfl m0_74 (by decide) q5 dX4_fits_62 ?_
        have hv := hv _ rfl
        generalize (mm_u2 m.1 74 (v5 + v6).toNatClampNeg ((m.1 74 v6.toNatClampNeg) ||| (mm_shl (nI 1) v4)), m.2) = m1 at hv ⊢
        refine wp_aload_n hb rfl dX4_fits_63 ?_
        refine wp_iload hb rfl dX4_fits_64 ?_
        refine wp_iload hb rfl dX4_fits_66 ?_
        refine wp_iadd hb dX4_fits_68 ?_
        refine wp_callV hb (k' := 5) ko_46 lm_4_23 rfl (ha1.2.1 _) (by decide) (Nat.le_of_ble_eq_true rfl) dX4_fits_69 (sp_cI (hv.I (Nat.le_refl _) ?_))
        intro x6 m2 hv
        refine wp_aload_n hb rfl dX4_fits_72 ?_
        refine wp_iload hb rfl dX4_fits_73 ?_
        refine wp_callV hb (k' := 5) ko_46 lm_4_23 rfl (ha2.2.1 _) (by decide) (Nat.le_of_ble_eq_true rfl) dX4_fits_75 (sp_cI (hv.I (Nat.le_refl _) ?_))
        intro x7 m3 hv
        refine wp_icmp_eq hb (t := 83) ⟨rfl, rfl⟩ dX4_fits_78 ⟨fun c8 => ?_, fun c8 => ?_⟩
        · have hv := hv.1 c8
          refine wp_iinc hb rfl (y := v6 + nI 1) rfl rfl dX4_fits_83 ?_
          refine wp_goto hb (t := 8) ⟨rfl, rfl⟩ dX4_fits_86 ?_
          exact wp_for (mm_ls_k (mm_ls_k (mm_ls_k (mm_ls_k (mm_ls_k (mm_ls_k (mm_ls_k (mm_ls_f mm_ls_nil)))))))) hv
        · have hv := hv.2 c8
          refine wp_iconst hb (x := nI 0) rfl dX4_fits_81 ?_
          exact wp_retZ hb rfl (by decide) dX4_fits_82 hv
      · have hv := hv.2 c3
        refine wp_iconst hb (x := nI 0) rfl dX4_fits_33 ?_
        refine wp_goto hb (t := 44) ⟨rfl, rfl⟩ dX4_fits_34 ?_
        refine wp_iconst hb (x := nI 1) rfl dX4_fits_44 ?_
        refine wp_iload hb rfl dX4_fits_45 ?_
        refine wp_ishl hb dX4_fits_47 ?_
        refine wp_ior hb dX4_fits_48 ?_
        refine wp_istore hb rfl dX4_fits_49 ?_
        refine wp_aload_n hb rfl dX4_fits_51 ?_
        refine wp_getR hb ko_46 lf_4_9 (by decide) m0_73 r0_73_0 dX4_fits_52 ?_
        refine wp_iload hb rfl dX4_fits_55 ?_
        refine wp_iload hb rfl dX4_fits_57 ?_
        refine wp_iadd hb dX4_fits_59 ?_
        refine wp_iload hb rfl dX4_fits_60 ?_
        obtain ⟨q9, hv⟩ := hv
        refine wp_iastore hb rfl m0_74 (by decide) q9 dX4_fits_62 ?_
        have hv := hv _ rfl
        generalize (mm_u2 m.1 74 (v5 + v6).toNatClampNeg ((nI 0) ||| (mm_shl (nI 1) v4)), m.2) = m4 at hv ⊢
        refine wp_aload_n hb rfl dX4_fits_63 ?_
        refine wp_iload hb rfl dX4_fits_64 ?_
        refine wp_iload hb rfl dX4_fits_66 ?_
        refine wp_iadd hb dX4_fits_68 ?_
        refine wp_callV hb (k' := 5) ko_46 lm_4_23 rfl (ha1.2.1 _) (by decide) (Nat.le_of_ble_eq_true rfl) dX4_fits_69 (sp_cI (hv.I (Nat.le_refl _) ?_))
        intro x10 m5 hv
        refine wp_aload_n hb rfl dX4_fits_72 ?_
        refine wp_iload hb rfl dX4_fits_73 ?_
        refine wp_callV hb (k' := 5) ko_46 lm_4_23 rfl (ha2.2.1 _) (by decide) (Nat.le_of_ble_eq_true rfl) dX4_fits_75 (sp_cI (hv.I (Nat.le_refl _) ?_))
        intro x11 m6 hv
        refine wp_icmp_eq hb (t := 83) ⟨rfl, rfl⟩ dX4_fits_78 ⟨fun c12 => ?_, fun c12 => ?_⟩
        · have hv := hv.1 c12
          refine wp_iinc hb rfl (y := v6 + nI 1) rfl rfl dX4_fits_83 ?_
          refine wp_goto hb (t := 8) ⟨rfl, rfl⟩ dX4_fits_86 ?_
          exact wp_for (mm_ls_k (mm_ls_k (mm_ls_k (mm_ls_k (mm_ls_k (mm_ls_k (mm_ls_k (mm_ls_f mm_ls_nil)))))))) hv
        · have hv := hv.2 c12
          refine wp_iconst hb (x := nI 0) rfl dX4_fits_81 ?_
          exact wp_retZ hb rfl (by decide) dX4_fits_82 hv
