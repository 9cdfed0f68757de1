set_option maxRecDepth 100000 in
theorem v_X7_become {d sn : Nat} {a0 : Nat} {v1 : Int32} {v2 : Int32} {m : mm_Mem} {P : mm_Mem → Prop} (hd : 1 ≤ d) (ha0 : shT a0) 
    (hv : ∀ m1 : mm_Mem, m1 = (mm_u2 m.1 a0 0 v1, m.2) → (∀ m2 : mm_Mem, m2 = (mm_u2 m1.1 a0 1 (if nI 0 < if nI 60 < v2 then nI 60 else v2 then if nI 60 < v2 then nI 60 else v2 else nI 0), m1.2) → (mm_sp d sn kJ7_fill_d0a16 [.ref (a0 + 1), .long (lN 0)] m2 (qV fun m3 => P m3)))) :
    mm_sp (d + 1) sn kX7_become [.ref a0, .int v1, .int v2] m (qV P) := by
  have hb := mb_72
  refine wp_in (la := [some (.ref a0), some (.int v1), some (.int v2)]) ⟨⟨Nat.le_of_ble_eq_true rfl, by decide, by decide⟩, rfl⟩ ?_
  refine wp_aload_n hb rfl dX7_become_0 ?_
  refine wp_iload_n hb rfl dX7_become_1 ?_
  refine wp_putI hb ko_72 lf_7_9 (by decide) (ha0.2.1 _) dX7_become_2 ?_
  have hv := hv _ rfl
  generalize (mm_u2 m.1 a0 0 v1, m.2) = m1 at hv ⊢
  refine wp_aload_n hb rfl dX7_become_5 ?_
  refine wp_iconst hb (x := nI 0) rfl dX7_become_6 ?_
  refine wp_iload_n hb rfl dX7_become_7 ?_
  refine wp_aload_n hb rfl dX7_become_8 ?_
  refine wp_getR hb ko_72 lf_7_18 (by decide) (ha0.2.1 _) ha0.1 dX7_become_9 ?_
  refine wp_alen hb (x := nI 60) (ha0.2.2 _) (by decide) rfl dX7_become_12 ?_
  refine wp_min hb ko_72 lm_7_22 (Nat.le_of_ble_eq_true rfl) (by omega) dX7_become_13 ?_
  refine wp_max hb ko_72 lm_7_28 (Nat.le_of_ble_eq_true rfl) (by omega) dX7_become_16 ?_
  refine wp_putI hb ko_72 lf_7_15 (by decide) (ha0.2.1 _) dX7_become_19 ?_
  have hv := hv _ rfl
  generalize (mm_u2 m1.1 a0 1 (if nI 0 < if nI 60 < v2 then nI 60 else v2 then if nI 60 < v2 then nI 60 else v2 else nI 0), m1.2) = m2 at hv ⊢
  refine wp_aload_n hb rfl dX7_become_22 ?_
  refine wp_getR hb ko_72 lf_7_18 (by decide) (ha0.2.1 _) ha0.1 dX7_become_23 ?_
  refine wp_lconst hb (x := lN 0) rfl dX7_become_26 ?_
  refine wp_callS hb (k' := 230) ko_72 lm_7_31 (by decide) rfl (Nat.le_of_ble_eq_true rfl) dX7_become_27 (sp_cV (hv.V (Nat.le_refl _) ?_))
  intro m3 hv
  exact wp_retV hb rfl dX7_become_30 hv
set_option maxRecDepth 100000 in
theorem v_X7_isPlace {d sn : Nat} {a0 : Nat} {v1 : Int32} {m : mm_Mem} {P : Int32 → mm_Mem → Prop} (ha0 : shT a0) 
    (hv : ((v1 < 0) → (P (nI 0) m)) ∧ (¬ (v1 < 0) → (((m.1 a0 1 ≤ v1) → (P (nI 0) m)) ∧ (¬ (m.1 a0 1 ≤ v1) → (((nI 60 ≤ v1) → (P (nI 0) m)) ∧ (¬ (nI 60 ≤ v1) → (P (nI 1) m))))))) :
    mm_sp (d + 1) sn kX7_isPlace [.ref a0, .int v1] m (qI P) := by
  have hb := mb_73
  refine wp_in (la := [some (.ref a0), some (.int v1)]) ⟨⟨Nat.le_of_ble_eq_true rfl, by decide, by decide⟩, rfl⟩ ?_
  refine wp_iload_n hb rfl dX7_isPlace_0 ?_
  refine wp_if_lt hb (y := 0) (t := 25) ⟨rfl, rfl⟩ dX7_isPlace_1 ⟨fun c1 => ?_, fun c1 => ?_⟩
  · have hv := hv.1 c1
    refine wp_iconst hb (x := nI 0) rfl dX7_isPlace_25 ?_
    exact wp_retZ hb rfl (by decide) dX7_isPlace_26 hv
  · have hv := hv.2 c1
    refine wp_iload_n hb rfl dX7_isPlace_4 ?_
    refine wp_aload_n hb rfl dX7_isPlace_5 ?_
    refine wp_getI hb ko_73 lf_7_15 (by decide) (ha0.2.1 _) dX7_isPlace_6 ?_
    refine wp_icmp_ge hb (t := 25) ⟨rfl, rfl⟩ dX7_isPlace_9 ⟨fun c2 => ?_, fun c2 => ?_⟩
    · have hv := hv.1 c2
      refine wp_iconst hb (x := nI 0) rfl dX7_isPlace_25 ?_
      exact wp_retZ hb rfl (by decide) dX7_isPlace_26 hv
    · have hv := hv.2 c2
      refine wp_iload_n hb rfl dX7_isPlace_12 ?_
      refine wp_aload_n hb rfl dX7_isPlace_13 ?_
      refine wp_getR hb ko_73 lf_7_18 (by decide) (ha0.2.1 _) ha0.1 dX7_isPlace_14 ?_
      refine wp_alen hb (x := nI 60) (ha0.2.2 _) (by decide) rfl dX7_isPlace_17 ?_
      refine wp_icmp_ge hb (t := 25) ⟨rfl, rfl⟩ dX7_isPlace_18 ⟨fun c3 => ?_, fun c3 => ?_⟩
      · have hv := hv.1 c3
        refine wp_iconst hb (x := nI 0) rfl dX7_isPlace_25 ?_
        exact wp_retZ hb rfl (by decide) dX7_isPlace_26 hv
      · have hv := hv.2 c3
        refine wp_iconst hb (x := nI 1) rfl dX7_isPlace_21 ?_
        refine wp_goto hb (t := 26) ⟨rfl, rfl⟩ dX7_isPlace_22 ?_
        exact wp_retZ hb rfl (by decide) dX7_isPlace_26 hv
set_option maxRecDepth 100000 in
theorem v_X7_itemAt {d sn : Nat} {a0 : Nat} {v1 : Int32} {m : mm_Mem} {P : Int64 → mm_Mem → Prop} (ha0 : shT a0) 
    (hv : mm_sp d sn kX7_isPlace [.ref a0, .int v1] m (qI fun x1 m1 => ((x1 = 0) → (P (-9223372036854775808) m1)) ∧ (¬ (x1 = 0) → (vp_in v1 60 ∧ (P (m1.2 (a0 + 1) v1.toNatClampNeg) m1))))) :
    mm_sp (d + 1) sn kX7_itemAt [.ref a0, .int v1] m (qL P) := by
  have hb := mb_74
  refine wp_in (la := [some (.ref a0), some (.int v1)]) ⟨⟨Nat.le_of_ble_eq_true rfl, by decide, by decide⟩, rfl⟩ ?_
  refine wp_aload_n hb rfl dX7_itemAt_0 ?_
  refine wp_iload_n hb rfl dX7_itemAt_1 ?_
  refine wp_callV hb (k' := 73) ko_74 lm_7_37 rfl (ha0.2.1 _) (by decide) (Nat.le_of_ble_eq_true rfl) dX7_itemAt_2 (sp_cI (hv.I (Nat.le_refl _) ?_))
  intro x1 m1 hv
  refine wp_if_eq hb (y := 0) (t := 17) ⟨rfl, rfl⟩ dX7_itemAt_5 ⟨fun c2 => ?_, fun c2 => ?_⟩
  · have hv := hv.1 c2
    refine wp_ldc2 hb (ko_74) (kl_7_41) dX7_itemAt_17 ?_
    exact wp_retL hb rfl dX7_itemAt_20 hv
  · have hv := hv.2 c2
    refine wp_aload_n hb rfl dX7_itemAt_8 ?_
    refine wp_getR hb ko_74 lf_7_18 (by decide) (ha0.2.1 _) ha0.1 dX7_itemAt_9 ?_
    refine wp_iload_n hb rfl dX7_itemAt_12 ?_
    obtain ⟨q3, hv⟩ := hv
    refine wp_laload hb rfl (ha0.2.2 _) q3 dX7_itemAt_13 ?_
    refine wp_goto hb (t := 20) ⟨rfl, rfl⟩ dX7_itemAt_14 ?_
    exact wp_retL hb rfl dX7_itemAt_20 hv
set_option maxRecDepth 100000 in
theorem v_X7_put {d sn : Nat} {a0 : Nat} {v1 : Int32} {v2 : Int64} {m : mm_Mem} {P : mm_Mem → Prop} (ha0 : shT a0) 
    (hv : mm_sp d sn kX7_isPlace [.ref a0, .int v1] m (qI fun x1 m1 => ((x1 = 0) → (P m1)) ∧ (¬ (x1 = 0) → (mm_sp d sn kX7_cut [.ref a0, .long v2] m1 (qL fun x3 m2 => vp_in v1 60 ∧ (∀ m3 : mm_Mem, m3 = (m2.1, mm_u2 m2.2 (a0 + 1) v1.toNatClampNeg x3) → (P m3))))))) :
    mm_sp (d + 1) sn kX7_put [.ref a0, .int v1, .long v2] m (qV P) := by
  have hb := mb_75
  refine wp_in (la := [some (.ref a0), some (.int v1), some (.long v2), none]) ⟨⟨Nat.le_of_ble_eq_true rfl, by decide, by decide⟩, rfl⟩ ?_
  refine wp_aload_n hb rfl dX7_put_0 ?_
  refine wp_iload_n hb rfl dX7_put_1 ?_
  refine wp_callV hb (k' := 73) ko_75 lm_7_37 rfl (ha0.2.1 _) (by decide) (Nat.le_of_ble_eq_true rfl) dX7_put_2 (sp_cI (hv.I (Nat.le_refl _) ?_))
  intro x1 m1 hv
  refine wp_if_eq hb (y := 0) (t := 19) ⟨rfl, rfl⟩ dX7_put_5 ⟨fun c2 => ?_, fun c2 => ?_⟩
  · have hv := hv.1 c2
    exact wp_retV hb rfl dX7_put_19 hv
  · have hv := hv.2 c2
    refine wp_aload_n hb rfl dX7_put_8 ?_
    refine wp_getR hb ko_75 lf_7_18 (by decide) (ha0.2.1 _) ha0.1 dX7_put_9 ?_
    refine wp_iload_n hb rfl dX7_put_12 ?_
    refine wp_aload_n hb rfl dX7_put_13 ?_
    refine wp_lload_n hb rfl dX7_put_14 ?_
    refine wp_callV hb (k' := 76) ko_75 lm_7_43 rfl (ha0.2.1 _) (by decide) (Nat.le_of_ble_eq_true rfl) dX7_put_15 (sp_cL (hv.L (Nat.le_refl _) ?_))
    intro x3 m2 hv
    obtain ⟨q4, hv⟩ := hv
    refine wp_lastore hb rfl (ha0.2.2 _) (Nat.succ_ne_zero _) q4 dX7_put_18 ?_
    have hv := hv _ rfl
    generalize (m2.1, mm_u2 m2.2 (a0 + 1) v1.toNatClampNeg x3) = m3 at hv ⊢
    exact wp_retV hb rfl dX7_put_19 hv
set_option maxRecDepth 100000 in
theorem v_X7_cut {d sn : Nat} {a0 : Nat} {v1 : Int64} {m : mm_Mem} {P : Int64 → mm_Mem → Prop} (ha0 : shT a0) 
    (hv : (m.1 a0 0 = nI 0 → (P v1.toInt32.toInt8.toInt32.toInt64 m)) ∧ (m.1 a0 0 = nI 1 → (P v1.toInt32.toInt16.toInt32.toInt64 m)) ∧ (m.1 a0 0 = nI 2 → (P v1.toInt32.toInt64 m)) ∧ (m.1 a0 0 = nI 3 → (P v1 m)) ∧ (m.1 a0 0 = nI 4 → (((lg_cmp v1 (lN 0) = 0) → (P (lN 0) m)) ∧ (¬ (lg_cmp v1 (lN 0) = 0) → (P (lN 1) m)))) ∧ (¬ m.1 a0 0 = nI 0 → ¬ m.1 a0 0 = nI 1 → ¬ m.1 a0 0 = nI 2 → ¬ m.1 a0 0 = nI 3 → ¬ m.1 a0 0 = nI 4 → (P v1 m))) :
    mm_sp (d + 1) sn kX7_cut [.ref a0, .long v1] m (qL P) := by
  have hb := mb_76
  refine wp_in (la := [some (.ref a0), some (.long v1), none]) ⟨⟨Nat.le_of_ble_eq_true rfl, by decide, by decide⟩, rfl⟩ ?_
  refine wp_aload_n hb rfl dX7_cut_0 ?_
  refine wp_getI hb ko_76 lf_7_9 (by decide) (ha0.2.1 _) dX7_cut_1 ?_
  by_cases hc : (m.1 a0 0).toInt < 0 ∨ 4 < (m.1 a0 0).toInt
  · refine wp_tabO hb hc (t := 66) ⟨rfl, rfl⟩ dX7_cut_4 ?_
    have hv := hv.2.2.2.2.2 (mm_out hc (by decide) (by decide)) (mm_out hc (by decide) (by decide)) (mm_out hc (by decide) (by decide)) (mm_out hc (by decide) (by decide)) (mm_out hc (by decide) (by decide))
    refine wp_lload_n hb rfl dX7_cut_66 ?_
    exact wp_retL hb rfl dX7_cut_67 hv
  · have hx := mm_tabc (n := 5) (lo := 0) (by decide) hc (by decide)
    obtain ⟨j, hj, hx⟩ := hx
    by_cases g0 : j = 0
    · subst g0
      have hv := hv.1 hx
      have hc9 := hc
      rw [hx] at hc9 ⊢
      refine wp_tabI hb (off := 36) hc9 rfl (t := 40) ⟨rfl, rfl⟩ dX7_cut_4 ?_
      refine wp_lload_n hb rfl dX7_cut_40 ?_
      refine wp_l2i hb dX7_cut_41 ?_
      refine wp_i2b hb dX7_cut_42 ?_
      refine wp_i2l hb dX7_cut_43 ?_
      exact wp_retL hb rfl dX7_cut_44 hv
    by_cases g1 : j = 1
    · subst g1
      have hv := hv.2.1 hx
      have hc9 := hc
      rw [hx] at hc9 ⊢
      refine wp_tabI hb (off := 41) hc9 rfl (t := 45) ⟨rfl, rfl⟩ dX7_cut_4 ?_
      refine wp_lload_n hb rfl dX7_cut_45 ?_
      refine wp_l2i hb dX7_cut_46 ?_
      refine wp_i2s hb dX7_cut_47 ?_
      refine wp_i2l hb dX7_cut_48 ?_
      exact wp_retL hb rfl dX7_cut_49 hv
    by_cases g2 : j = 2
    · subst g2
      have hv := hv.2.2.1 hx
      have hc9 := hc
      rw [hx] at hc9 ⊢
      refine wp_tabI hb (off := 46) hc9 rfl (t := 50) ⟨rfl, rfl⟩ dX7_cut_4 ?_
      refine wp_lload_n hb rfl dX7_cut_50 ?_
      refine wp_l2i hb dX7_cut_51 ?_
      refine wp_i2l hb dX7_cut_52 ?_
      exact wp_retL hb rfl dX7_cut_53 hv
    by_cases g3 : j = 3
    · subst g3
      have hv := hv.2.2.2.1 hx
      have hc9 := hc
      rw [hx] at hc9 ⊢
      refine wp_tabI hb (off := 62) hc9 rfl (t := 66) ⟨rfl, rfl⟩ dX7_cut_4 ?_
      refine wp_lload_n hb rfl dX7_cut_66 ?_
      exact wp_retL hb rfl dX7_cut_67 hv
    by_cases g4 : j = 4
    · subst g4
      have hv := hv.2.2.2.2.1 hx
      have hc9 := hc
      rw [hx] at hc9 ⊢
      refine wp_tabI hb (off := 50) hc9 rfl (t := 54) ⟨rfl, rfl⟩ dX7_cut_4 ?_
      refine wp_lload_n hb rfl dX7_cut_54 ?_
      refine wp_lconst hb (x := lN 0) rfl dX7_cut_55 ?_
      refine wp_lcmp hb dX7_cut_56 ?_
      refine wp_if_eq hb (y := 0) (t := 64) ⟨rfl, rfl⟩ dX7_cut_57 ⟨fun c6 => ?_, fun c6 => ?_⟩
      · have hv := hv.1 c6
        refine wp_lconst hb (x := lN 0) rfl dX7_cut_64 ?_
        exact wp_retL hb rfl dX7_cut_65 hv
      · have hv := hv.2 c6
        refine wp_lconst hb (x := lN 1) rfl dX7_cut_60 ?_
        refine wp_goto hb (t := 65) ⟨rfl, rfl⟩ dX7_cut_61 ?_
        exact wp_retL hb rfl dX7_cut_65 hv
    omega
set_option maxRecDepth 100000 in
theorem v_X7_hasPlaces {d sn : Nat} {a0 : Nat} {v1 : Int32} {v2 : Int32} {m : mm_Mem} {P : Int32 → mm_Mem → Prop} (ha0 : shT a0) 
    (hv : ((v2 < 0) → (P (nI 0) m)) ∧ (¬ (v2 < 0) → (((v1 < 0) → (P (nI 0) m)) ∧ (¬ (v1 < 0) → (((m.1 a0 1 < v1) → (P (nI 0) m)) ∧ (¬ (m.1 a0 1 < v1) → ((((m.1 a0 1) - v1 < v2) → (P (nI 0) m)) ∧ (¬ ((m.1 a0 1) - v1 < v2) → (P (nI 1) m))))))))) :
    mm_sp (d + 1) sn kX7_hasPlaces [.ref a0, .int v1, .int v2] m (qI P) := by
  have hb := mb_77
  refine wp_in (la := [some (.ref a0), some (.int v1), some (.int v2)]) ⟨⟨Nat.le_of_ble_eq_true rfl, by decide, by decide⟩, rfl⟩ ?_
  refine wp_iload_n hb rfl dX7_hasPlaces_0 ?_
  refine wp_if_lt hb (y := 0) (t := 30) ⟨rfl, rfl⟩ dX7_hasPlaces_1 ⟨fun c1 => ?_, fun c1 => ?_⟩
  · have hv := hv.1 c1
    refine wp_iconst hb (x := nI 0) rfl dX7_hasPlaces_30 ?_
    exact wp_retZ hb rfl (by decide) dX7_hasPlaces_31 hv
  · have hv := hv.2 c1
    refine wp_iload_n hb rfl dX7_hasPlaces_4 ?_
    refine wp_if_lt hb (y := 0) (t := 30) ⟨rfl, rfl⟩ dX7_hasPlaces_5 ⟨fun c2 => ?_, fun c2 => ?_⟩
    · have hv := hv.1 c2
      refine wp_iconst hb (x := nI 0) rfl dX7_hasPlaces_30 ?_
      exact wp_retZ hb rfl (by decide) dX7_hasPlaces_31 hv
    · have hv := hv.2 c2
      refine wp_iload_n hb rfl dX7_hasPlaces_8 ?_
      refine wp_aload_n hb rfl dX7_hasPlaces_9 ?_
      refine wp_getI hb ko_77 lf_7_15 (by decide) (ha0.2.1 _) dX7_hasPlaces_10 ?_
      refine wp_icmp_gt hb (t := 30) ⟨rfl, rfl⟩ dX7_hasPlaces_13 ⟨fun c3 => ?_, fun c3 => ?_⟩
      · have hv := hv.1 c3
        refine wp_iconst hb (x := nI 0) rfl dX7_hasPlaces_30 ?_
        exact wp_retZ hb rfl (by decide) dX7_hasPlaces_31 hv
      · have hv := hv.2 c3
        refine wp_iload_n hb rfl dX7_hasPlaces_16 ?_
        refine wp_aload_n hb rfl dX7_hasPlaces_17 ?_
        refine wp_getI hb ko_77 lf_7_15 (by decide) (ha0.2.1 _) dX7_hasPlaces_18 ?_
        refine wp_iload_n hb rfl dX7_hasPlaces_21 ?_
        refine wp_isub hb dX7_hasPlaces_22 ?_
        refine wp_icmp_gt hb (t := 30) ⟨rfl, rfl⟩ dX7_hasPlaces_23 ⟨fun c4 => ?_, fun c4 => ?_⟩
        · have hv := hv.1 c4
          refine wp_iconst hb (x := nI 0) rfl dX7_hasPlaces_30 ?_
          exact wp_retZ hb rfl (by decide) dX7_hasPlaces_31 hv
        · have hv := hv.2 c4
          refine wp_iconst hb (x := nI 1) rfl dX7_hasPlaces_26 ?_
          refine wp_goto hb (t := 31) ⟨rfl, rfl⟩ dX7_hasPlaces_27 ?_
          exact wp_retZ hb rfl (by decide) dX7_hasPlaces_31 hv
set_option maxRecDepth 100000 in
theorem v_X7_copyItems {d sn : Nat} {a0 : Nat} {v1 : Int32} {a2 : Nat} {v3 : Int32} {v4 : Int32} {m : mm_Mem} {P : mm_Mem → Prop} (hd : 1 ≤ d) (ha0 : shT a0) (ha2 : shT a2) 
    (hv : mm_sp d sn kX7_hasPlaces [.ref a0, .int v1, .int v4] m (qI fun x1 m1 => ((x1 = 0) → (P m1)) ∧ (¬ (x1 = 0) → (mm_sp d sn kX7_hasPlaces [.ref a2, .int v3, .int v4] m1 (qI fun x3 m2 => ((¬ x3 = 0) → ((¬ v3 < 0 ∧ ¬ v1 < 0 ∧ ¬ v4 < 0 ∧ v3.toNatClampNeg + v4.toNatClampNeg ≤ 60 ∧ v1.toNatClampNeg + v4.toNatClampNeg ≤ 60) ∧ (∀ m3 : mm_Mem, m3 = (m2.1, mm_row m2.2 (a0 + 1) (va_cpy (m2.2 (a2 + 1)) (m2.2 (a0 + 1)) v3.toNatClampNeg v1.toNatClampNeg v4.toNatClampNeg)) → (P m3)))) ∧ (¬ (¬ x3 = 0) → (P m2))))))) :
    mm_sp (d + 1) sn kX7_copyItems [.ref a0, .int v1, .ref a2, .int v3, .int v4] m (qV P) := by
  have hb := mb_78
  refine wp_in (la := [some (.ref a0), some (.int v1), some (.ref a2), some (.int v3), some (.int v4)]) ⟨⟨Nat.le_of_ble_eq_true rfl, by decide, by decide⟩, rfl⟩ ?_
  refine wp_aload_n hb rfl dX7_copyItems_0 ?_
  refine wp_iload_n hb rfl dX7_copyItems_1 ?_
  refine wp_iload hb rfl dX7_copyItems_2 ?_
  refine wp_callV hb (k' := 77) ko_78 lm_7_47 rfl (ha0.2.1 _) (by decide) (Nat.le_of_ble_eq_true rfl) dX7_copyItems_4 (sp_cI (hv.I (Nat.le_refl _) ?_))
  intro x1 m1 hv
  refine wp_if_eq hb (y := 0) (t := 20) ⟨rfl, rfl⟩ dX7_copyItems_7 ⟨fun c2 => ?_, fun c2 => ?_⟩
  · have hv := hv.1 c2
    exact wp_retV hb rfl dX7_copyItems_20 hv
  · have hv := hv.2 c2
    refine wp_aload_n hb rfl dX7_copyItems_10 ?_
    refine wp_iload_n hb rfl dX7_copyItems_11 ?_
    refine wp_iload hb rfl dX7_copyItems_12 ?_
    refine wp_callV hb (k' := 77) ko_78 lm_7_47 rfl (ha2.2.1 _) (by decide) (Nat.le_of_ble_eq_true rfl) dX7_copyItems_14 (sp_cI (hv.I (Nat.le_refl _) ?_))
    intro x3 m2 hv
    refine wp_if_ne hb (y := 0) (t := 21) ⟨rfl, rfl⟩ dX7_copyItems_17 ⟨fun c4 => ?_, fun c4 => ?_⟩
    · have hv := hv.1 c4
      refine wp_aload_n hb rfl dX7_copyItems_21 ?_
      refine wp_getR hb ko_78 lf_7_18 (by decide) (ha2.2.1 _) ha2.1 dX7_copyItems_22 ?_
      refine wp_iload_n hb rfl dX7_copyItems_25 ?_
      refine wp_aload_n hb rfl dX7_copyItems_26 ?_
      refine wp_getR hb ko_78 lf_7_18 (by decide) (ha0.2.1 _) ha0.1 dX7_copyItems_27 ?_
      refine wp_iload_n hb rfl dX7_copyItems_30 ?_
      refine wp_iload hb rfl dX7_copyItems_31 ?_
      obtain ⟨q5, hv⟩ := hv
      refine wp_copyL hb ko_78 lm_7_51 (Nat.le_of_ble_eq_true rfl) (by omega) (ha2.2.2 _) (ha0.2.2 _) ⟨(Nat.succ_ne_zero _), (Nat.succ_ne_zero _)⟩ q5 dX7_copyItems_33 ?_
      have hv := hv _ rfl
      generalize (m2.1, mm_row m2.2 (a0 + 1) (va_cpy (m2.2 (a2 + 1)) (m2.2 (a0 + 1)) v3.toNatClampNeg v1.toNatClampNeg v4.toNatClampNeg)) = m3 at hv ⊢
      exact wp_retV hb rfl dX7_copyItems_36 hv
    · have hv := hv.2 c4
      exact wp_retV hb rfl dX7_copyItems_20 hv
