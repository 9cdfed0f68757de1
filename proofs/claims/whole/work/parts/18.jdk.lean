theorem ki_12_265 : mm_ki 12 265 = some (nI 1431655765) := by decide +kernel
theorem ki_12_266 : mm_ki 12 266 = some (nI 858993459) := by decide +kernel
theorem ki_12_267 : mm_ki 12 267 = some (nI 252645135) := by decide +kernel
def shI (N a : Nat) : Prop := a ≠ 0 ∧ ∀ sn, (mm_M0 sn)[a]? = some (100, N)
def shJ (N a : Nat) : Prop := a ≠ 0 ∧ ∀ sn, (mm_M0 sn)[a]? = some (102, N)
set_option maxRecDepth 100000 in
theorem v_J6_bitCount_0f7a4 {d sn : Nat} {v0 : Int32} {m : mm_Mem} {P : Int32 → mm_Mem → Prop} 
    (hv : P ((((((((v0 - ((mm_ushr v0 (nI 1)) &&& (nI 1431655765))) &&& (nI 858993459)) + ((mm_ushr (v0 - ((mm_ushr v0 (nI 1)) &&& (nI 1431655765))) (nI 2)) &&& (nI 858993459))) + (mm_ushr (((v0 - ((mm_ushr v0 (nI 1)) &&& (nI 1431655765))) &&& (nI 858993459)) + ((mm_ushr (v0 - ((mm_ushr v0 (nI 1)) &&& (nI 1431655765))) (nI 2)) &&& (nI 858993459))) (nI 4))) &&& (nI 252645135)) + (mm_ushr (((((v0 - ((mm_ushr v0 (nI 1)) &&& (nI 1431655765))) &&& (nI 858993459)) + ((mm_ushr (v0 - ((mm_ushr v0 (nI 1)) &&& (nI 1431655765))) (nI 2)) &&& (nI 858993459))) + (mm_ushr (((v0 - ((mm_ushr v0 (nI 1)) &&& (nI 1431655765))) &&& (nI 858993459)) + ((mm_ushr (v0 - ((mm_ushr v0 (nI 1)) &&& (nI 1431655765))) (nI 2)) &&& (nI 858993459))) (nI 4))) &&& (nI 252645135)) (nI 8))) + (mm_ushr ((((((v0 - ((mm_ushr v0 (nI 1)) &&& (nI 1431655765))) &&& (nI 858993459)) + ((mm_ushr (v0 - ((mm_ushr v0 (nI 1)) &&& (nI 1431655765))) (nI 2)) &&& (nI 858993459))) + (mm_ushr (((v0 - ((mm_ushr v0 (nI 1)) &&& (nI 1431655765))) &&& (nI 858993459)) + ((mm_ushr (v0 - ((mm_ushr v0 (nI 1)) &&& (nI 1431655765))) (nI 2)) &&& (nI 858993459))) (nI 4))) &&& (nI 252645135)) + (mm_ushr (((((v0 - ((mm_ushr v0 (nI 1)) &&& (nI 1431655765))) &&& (nI 858993459)) + ((mm_ushr (v0 - ((mm_ushr v0 (nI 1)) &&& (nI 1431655765))) (nI 2)) &&& (nI 858993459))) + (mm_ushr (((v0 - ((mm_ushr v0 (nI 1)) &&& (nI 1431655765))) &&& (nI 858993459)) + ((mm_ushr (v0 - ((mm_ushr v0 (nI 1)) &&& (nI 1431655765))) (nI 2)) &&& (nI 858993459))) (nI 4))) &&& (nI 252645135)) (nI 8))) (nI 16))) &&& (nI 63)) m) :
    mm_sp (d + 1) sn kJ6_bitCount_0f7a4 [.int v0] m (qI P) := by
  have hb := mb_227
  refine wp_in (la := [some (.int v0)]) ⟨⟨Nat.le_of_ble_eq_true rfl, by decide, by decide⟩, rfl⟩ ?_
  refine wp_iload_n hb rfl dJ6_bitCount_0f7a4_0 ?_
  refine wp_iload_n hb rfl dJ6_bitCount_0f7a4_1 ?_
  refine wp_iconst hb (x := nI 1) rfl dJ6_bitCount_0f7a4_2 ?_
  refine wp_iushr hb dJ6_bitCount_0f7a4_3 ?_
  refine wp_ldcw hb (ko_227) (ki_12_265) dJ6_bitCount_0f7a4_4 ?_
  refine wp_iand hb dJ6_bitCount_0f7a4_7 ?_
  refine wp_isub hb dJ6_bitCount_0f7a4_8 ?_
  refine wp_istore_n hb rfl dJ6_bitCount_0f7a4_9 ?_
  refine wp_iload_n hb rfl dJ6_bitCount_0f7a4_10 ?_
  refine wp_ldcw hb (ko_227) (ki_12_266) dJ6_bitCount_0f7a4_11 ?_
  refine wp_iand hb dJ6_bitCount_0f7a4_14 ?_
  refine wp_iload_n hb rfl dJ6_bitCount_0f7a4_15 ?_
  refine wp_iconst hb (x := nI 2) rfl dJ6_bitCount_0f7a4_16 ?_
  refine wp_iushr hb dJ6_bitCount_0f7a4_17 ?_
  refine wp_ldcw hb (ko_227) (ki_12_266) dJ6_bitCount_0f7a4_18 ?_
  refine wp_iand hb dJ6_bitCount_0f7a4_21 ?_
  refine wp_iadd hb dJ6_bitCount_0f7a4_22 ?_
  refine wp_istore_n hb rfl dJ6_bitCount_0f7a4_23 ?_
  refine wp_iload_n hb rfl dJ6_bitCount_0f7a4_24 ?_
  refine wp_iload_n hb rfl dJ6_bitCount_0f7a4_25 ?_
  refine wp_iconst hb (x := nI 4) rfl dJ6_bitCount_0f7a4_26 ?_
  refine wp_iushr hb dJ6_bitCount_0f7a4_27 ?_
  refine wp_iadd hb dJ6_bitCount_0f7a4_28 ?_
  refine wp_ldcw hb (ko_227) (ki_12_267) dJ6_bitCount_0f7a4_29 ?_
  refine wp_iand hb dJ6_bitCount_0f7a4_32 ?_
  refine wp_istore_n hb rfl dJ6_bitCount_0f7a4_33 ?_
  refine wp_iload_n hb rfl dJ6_bitCount_0f7a4_34 ?_
  refine wp_iload_n hb rfl dJ6_bitCount_0f7a4_35 ?_
  refine wp_bipush hb (x := nI 8) rfl dJ6_bitCount_0f7a4_36 ?_
  refine wp_iushr hb dJ6_bitCount_0f7a4_38 ?_
  refine wp_iadd hb dJ6_bitCount_0f7a4_39 ?_
  refine wp_istore_n hb rfl dJ6_bitCount_0f7a4_40 ?_
  refine wp_iload_n hb rfl dJ6_bitCount_0f7a4_41 ?_
  refine wp_iload_n hb rfl dJ6_bitCount_0f7a4_42 ?_
  refine wp_bipush hb (x := nI 16) rfl dJ6_bitCount_0f7a4_43 ?_
  refine wp_iushr hb dJ6_bitCount_0f7a4_45 ?_
  refine wp_iadd hb dJ6_bitCount_0f7a4_46 ?_
  refine wp_istore_n hb rfl dJ6_bitCount_0f7a4_47 ?_
  refine wp_iload_n hb rfl dJ6_bitCount_0f7a4_48 ?_
  refine wp_bipush hb (x := nI 63) rfl dJ6_bitCount_0f7a4_49 ?_
  refine wp_iand hb dJ6_bitCount_0f7a4_51 ?_
  exact wp_retI hb rfl dJ6_bitCount_0f7a4_52 hv
set_option maxRecDepth 100000 in
theorem v_J7_fill_d0a16 {d sn : Nat} {a0 : Nat} {N : Nat} {v1 : Int64} {m : mm_Mem} {P : mm_Mem → Prop} (ha0 : shJ N a0) 
    (hv : mm_wp d sn kJ7_fill_d0a16 6 [some (.ref a0), some (.long v1), none, some (.int (nI 0)), some (.int (nI N))] [] m (qV P)) :
    mm_sp (d + 1) sn kJ7_fill_d0a16 [.ref a0, .long v1] m (qV P) := by
  have hb := mb_230
  refine wp_in (la := [some (.ref a0), some (.long v1), none, none, none]) ⟨⟨Nat.le_of_ble_eq_true rfl, by decide, by decide⟩, rfl⟩ ?_
  refine wp_iconst hb (x := nI 0) rfl dJ7_fill_d0a16_0 ?_
  refine wp_istore_n hb rfl dJ7_fill_d0a16_1 ?_
  refine wp_aload_n hb rfl dJ7_fill_d0a16_2 ?_
  refine wp_alen hb (x := nI N) (ha0.2 _) (by decide) rfl dJ7_fill_d0a16_3 ?_
  refine wp_istore hb rfl dJ7_fill_d0a16_4 ?_
  exact wp_for (mm_ls_k (mm_ls_k (mm_ls_k (mm_ls_k (mm_ls_k mm_ls_nil))))) hv
set_option maxRecDepth 100000 in
theorem v_J7_fill_d0a16_6 {d sn : Nat} {a0 N : Nat} {v1 : Int64} {v3 : Int32} {v4 : Int32} {m : mm_Mem} {P : mm_Mem → Prop} (ha0 : shJ N a0) 
    (hv : ((v4 ≤ v3) → (P m)) ∧ (¬ (v4 ≤ v3) → (vp_in v3 N ∧ (∀ m1 : mm_Mem, m1 = (m.1, mm_u2 m.2 a0 v3.toNatClampNeg v1) → (mm_wp d sn kJ7_fill_d0a16 6 [some (.ref a0), some (.long v1), none, some (.int (v3 + nI 1)), some (.int v4)] [] m1 (qV P)))))) :
    mm_wp d sn kJ7_fill_d0a16 6 [some (.ref a0), some (.long v1), none, some (.int v3), some (.int v4)] [] m (qV P) := by
  have hb := mb_230
  refine wp_iload_n hb rfl dJ7_fill_d0a16_6 ?_
  refine wp_iload hb rfl dJ7_fill_d0a16_7 ?_
  refine wp_icmp_ge hb (t := 22) ⟨rfl, rfl⟩ dJ7_fill_d0a16_9 ⟨fun c1 => ?_, fun c1 => ?_⟩
  · have hv := hv.1 c1
    exact wp_retV hb rfl dJ7_fill_d0a16_22 hv
  · have hv := hv.2 c1
    refine wp_aload_n hb rfl dJ7_fill_d0a16_12 ?_
    refine wp_iload_n hb rfl dJ7_fill_d0a16_13 ?_
    refine wp_lload_n hb rfl dJ7_fill_d0a16_14 ?_
    obtain ⟨q2, hv⟩ := hv
    refine wp_lastore hb rfl (ha0.2 _) ha0.1 q2 dJ7_fill_d0a16_15 ?_
    have hv := hv _ rfl
    generalize (m.1, mm_u2 m.2 a0 v3.toNatClampNeg v1) = m1 at hv ⊢
    refine wp_iinc hb rfl (y := v3 + nI 1) rfl rfl dJ7_fill_d0a16_16 ?_
    refine wp_goto hb (t := 6) ⟨rfl, rfl⟩ dJ7_fill_d0a16_19 ?_
    exact wp_for (mm_ls_k (mm_ls_k (mm_ls_k (mm_ls_k (mm_ls_k mm_ls_nil))))) hv
set_option maxRecDepth 100000 in
theorem v_J7_fill_53178 {d sn : Nat} {a0 : Nat} {N : Nat} {v1 : Int32} {m : mm_Mem} {P : mm_Mem → Prop} (ha0 : shI N a0) 
    (hv : mm_wp d sn kJ7_fill_53178 5 [some (.ref a0), some (.int v1), some (.int (nI 0)), some (.int (nI N))] [] m (qV P)) :
    mm_sp (d + 1) sn kJ7_fill_53178 [.ref a0, .int v1] m (qV P) := by
  have hb := mb_231
  refine wp_in (la := [some (.ref a0), some (.int v1), none, none]) ⟨⟨Nat.le_of_ble_eq_true rfl, by decide, by decide⟩, rfl⟩ ?_
  refine wp_iconst hb (x := nI 0) rfl dJ7_fill_53178_0 ?_
  refine wp_istore_n hb rfl dJ7_fill_53178_1 ?_
  refine wp_aload_n hb rfl dJ7_fill_53178_2 ?_
  refine wp_alen hb (x := nI N) (ha0.2 _) (by decide) rfl dJ7_fill_53178_3 ?_
  refine wp_istore_n hb rfl dJ7_fill_53178_4 ?_
  exact wp_for (mm_ls_k (mm_ls_k (mm_ls_k (mm_ls_k mm_ls_nil)))) hv
set_option maxRecDepth 100000 in
theorem v_J7_fill_53178_5 {d sn : Nat} {a0 N : Nat} {v1 : Int32} {v2 : Int32} {v3 : Int32} {m : mm_Mem} {P : mm_Mem → Prop} (ha0 : shI N a0) 
    (hv : ((v3 ≤ v2) → (P m)) ∧ (¬ (v3 ≤ v2) → (vp_in v2 N ∧ (∀ m1 : mm_Mem, m1 = (mm_u2 m.1 a0 v2.toNatClampNeg v1, m.2) → (mm_wp d sn kJ7_fill_53178 5 [some (.ref a0), some (.int v1), some (.int (v2 + nI 1)), some (.int v3)] [] m1 (qV P)))))) :
    mm_wp d sn kJ7_fill_53178 5 [some (.ref a0), some (.int v1), some (.int v2), some (.int v3)] [] m (qV P) := by
  have hb := mb_231
  refine wp_iload_n hb rfl dJ7_fill_53178_5 ?_
  refine wp_iload_n hb rfl dJ7_fill_53178_6 ?_
  refine wp_icmp_ge hb (t := 20) ⟨rfl, rfl⟩ dJ7_fill_53178_7 ⟨fun c1 => ?_, fun c1 => ?_⟩
  · have hv := hv.1 c1
    exact wp_retV hb rfl dJ7_fill_53178_20 hv
  · have hv := hv.2 c1
    refine wp_aload_n hb rfl dJ7_fill_53178_10 ?_
    refine wp_iload_n hb rfl dJ7_fill_53178_11 ?_
    refine wp_iload_n hb rfl dJ7_fill_53178_12 ?_
    obtain ⟨q2, hv⟩ := hv
    refine wp_iastore hb rfl (ha0.2 _) ha0.1 q2 dJ7_fill_53178_13 ?_
    have hv := hv _ rfl
    generalize (mm_u2 m.1 a0 v2.toNatClampNeg v1, m.2) = m1 at hv ⊢
    refine wp_iinc hb rfl (y := v2 + nI 1) rfl rfl dJ7_fill_53178_14 ?_
    refine wp_goto hb (t := 5) ⟨rfl, rfl⟩ dJ7_fill_53178_17 ?_
    exact wp_for (mm_ls_k (mm_ls_k (mm_ls_k (mm_ls_k mm_ls_nil)))) hv
