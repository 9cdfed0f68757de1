-- THE LAW: its loop
theorem lw_next {d sn i : Nat} {P : Int32 → mm_Mem → Prop} (hn : sn ≤ 3072) (hi : i + 6 ≤ sn) (hw : ∀ (X : GS) (m : mm_Mem), okX X → cI X m → mI X m → mm_wp d sn 232 18 (lwL (i + 6)) [] m (qI P)) : lwK d sn i (qI P) := by
  intro X m hX hC hM
  refine wp_iinc mb_232 rfl (y := nI (i + 6)) ?_ rfl dL_law_1489 ?_
  · show nI i + nI 6 = nI (i + 6)
    rw [e_add]
  · exact wp_goto mb_232 (t := 18) ⟨rfl, rfl⟩ dL_law_1492 (hw X m hX hC hM)
set_option maxRecDepth 100000 in
theorem lw_body {d sn i : Nat} {X : GS} {m : mm_Mem} {P : Int32 → mm_Mem → Prop} (hn : sn ≤ 3072) (hi : i + 6 ≤ sn) (hX : okX X) (hC : cI X m) (hM : mI X m) (hk : lwK (d + 40) sn i (qI P)) : mm_wp (d + 40) sn 232 27 (lwL i) [] m (qI P) := by
  refine wp_aload_n mb_232 rfl dL_law_27 (wp_iload_n mb_232 rfl dL_law_28 (wp_iaload mb_232 (q := i) (e_cl (by omega)) rfl (vp_in_nI (by omega) (by omega)) dL_law_29 (wp_bipush mb_232 (x := nI 63) rfl dL_law_30 (wp_iand mb_232 dL_law_32 ?_))))
  generalize m.1 0 i &&& nI 63 = x
  by_cases hc : x.toInt < 0 ∨ 39 < x.toInt
  · exact wp_tabO mb_232 hc (t := 1489) ⟨rfl, rfl⟩ dL_law_33 (hk X m hX hC hM)
  · obtain ⟨j, hj, hx⟩ := mm_tabc (n := 40) (lo := 0) (by decide) hc (by decide)
    by_cases g0 : j = 0
    · subst g0
      rw [hx] at hc ⊢
      exact wp_tabI mb_232 (off := 175) hc rfl (t := 208) ⟨rfl, rfl⟩ dL_law_33 (lw_case_0 hn hi hX hC hM hk)
    by_cases g1 : j = 1
    · subst g1
      rw [hx] at hc ⊢
      exact wp_tabI mb_232 (off := 198) hc rfl (t := 231) ⟨rfl, rfl⟩ dL_law_33 (lw_case_1 hn hi hX hC hM hk)
    by_cases g2 : j = 2
    · subst g2
      rw [hx] at hc ⊢
      exact wp_tabI mb_232 (off := 231) hc rfl (t := 264) ⟨rfl, rfl⟩ dL_law_33 (lw_case_2 hn hi hX hC hM hk)
    by_cases g3 : j = 3
    · subst g3
      rw [hx] at hc ⊢
      exact wp_tabI mb_232 (off := 254) hc rfl (t := 287) ⟨rfl, rfl⟩ dL_law_33 (lw_case_3 hn hi hX hC hM hk)
    by_cases g4 : j = 4
    · subst g4
      rw [hx] at hc ⊢
      exact wp_tabI mb_232 (off := 277) hc rfl (t := 310) ⟨rfl, rfl⟩ dL_law_33 (lw_case_4 hn hi hX hC hM hk)
    by_cases g5 : j = 5
    · subst g5
      rw [hx] at hc ⊢
      exact wp_tabI mb_232 (off := 310) hc rfl (t := 343) ⟨rfl, rfl⟩ dL_law_33 (lw_case_5 hn hi hX hC hM hk)
    by_cases g6 : j = 6
    · subst g6
      rw [hx] at hc ⊢
      exact wp_tabI mb_232 (off := 343) hc rfl (t := 376) ⟨rfl, rfl⟩ dL_law_33 (lw_case_6 hn hi hX hC hM hk)
    by_cases g7 : j = 7
    · subst g7
      rw [hx] at hc ⊢
      exact wp_tabI mb_232 (off := 376) hc rfl (t := 409) ⟨rfl, rfl⟩ dL_law_33 (lw_case_7 hn hi hX hC hM hk)
    by_cases g8 : j = 8
    · subst g8
      rw [hx] at hc ⊢
      exact wp_tabI mb_232 (off := 389) hc rfl (t := 422) ⟨rfl, rfl⟩ dL_law_33 (lw_case_8 hn hi hX hC hM hk)
    by_cases g9 : j = 9
    · subst g9
      rw [hx] at hc ⊢
      exact wp_tabI mb_232 (off := 412) hc rfl (t := 445) ⟨rfl, rfl⟩ dL_law_33 (lw_case_9 hn hi hX hC hM hk)
    by_cases g10 : j = 10
    · subst g10
      rw [hx] at hc ⊢
      exact wp_tabI mb_232 (off := 455) hc rfl (t := 488) ⟨rfl, rfl⟩ dL_law_33 (lw_case_10 hn hi hX hC hM hk)
    by_cases g11 : j = 11
    · subst g11
      rw [hx] at hc ⊢
      exact wp_tabI mb_232 (off := 498) hc rfl (t := 531) ⟨rfl, rfl⟩ dL_law_33 (lw_case_11 hn hi hX hC hM hk)
    by_cases g12 : j = 12
    · subst g12
      rw [hx] at hc ⊢
      exact wp_tabI mb_232 (off := 521) hc rfl (t := 554) ⟨rfl, rfl⟩ dL_law_33 (lw_case_12 hn hi hX hC hM hk)
    by_cases g13 : j = 13
    · subst g13
      rw [hx] at hc ⊢
      exact wp_tabI mb_232 (off := 574) hc rfl (t := 607) ⟨rfl, rfl⟩ dL_law_33 (lw_case_13 hn hi hX hC hM hk)
    by_cases g14 : j = 14
    · subst g14
      rw [hx] at hc ⊢
      exact wp_tabI mb_232 (off := 627) hc rfl (t := 660) ⟨rfl, rfl⟩ dL_law_33 (lw_case_14 hn hi hX hC hM hk)
    by_cases g15 : j = 15
    · subst g15
      rw [hx] at hc ⊢
      exact wp_tabI mb_232 (off := 680) hc rfl (t := 713) ⟨rfl, rfl⟩ dL_law_33 (lw_case_15 hn hi hX hC hM hk)
    by_cases g16 : j = 16
    · subst g16
      rw [hx] at hc ⊢
      exact wp_tabI mb_232 (off := 723) hc rfl (t := 756) ⟨rfl, rfl⟩ dL_law_33 (lw_case_16 hn hi hX hC hM hk)
    by_cases g17 : j = 17
    · subst g17
      rw [hx] at hc ⊢
      exact wp_tabI mb_232 (off := 756) hc rfl (t := 789) ⟨rfl, rfl⟩ dL_law_33 (lw_case_17 hn hi hX hC hM hk)
    by_cases g18 : j = 18
    · subst g18
      rw [hx] at hc ⊢
      exact wp_tabI mb_232 (off := 779) hc rfl (t := 812) ⟨rfl, rfl⟩ dL_law_33 (lw_case_18 hn hi hX hC hM hk)
    by_cases g19 : j = 19
    · subst g19
      rw [hx] at hc ⊢
      exact wp_tabI mb_232 (off := 802) hc rfl (t := 835) ⟨rfl, rfl⟩ dL_law_33 (lw_case_19 hn hi hX hC hM hk)
    by_cases g20 : j = 20
    · subst g20
      rw [hx] at hc ⊢
      exact wp_tabI mb_232 (off := 825) hc rfl (t := 858) ⟨rfl, rfl⟩ dL_law_33 (lw_case_20 hn hi hX hC hM hk)
    by_cases g21 : j = 21
    · subst g21
      rw [hx] at hc ⊢
      exact wp_tabI mb_232 (off := 848) hc rfl (t := 881) ⟨rfl, rfl⟩ dL_law_33 (lw_case_21 hn hi hX hC hM hk)
    by_cases g22 : j = 22
    · subst g22
      rw [hx] at hc ⊢
      exact wp_tabI mb_232 (off := 881) hc rfl (t := 914) ⟨rfl, rfl⟩ dL_law_33 (lw_case_22 hn hi hX hC hM hk)
    by_cases g23 : j = 23
    · subst g23
      rw [hx] at hc ⊢
      exact wp_tabI mb_232 (off := 894) hc rfl (t := 927) ⟨rfl, rfl⟩ dL_law_33 (lw_case_23 hn hi hX hC hM hk)
    by_cases g24 : j = 24
    · subst g24
      rw [hx] at hc ⊢
      exact wp_tabI mb_232 (off := 927) hc rfl (t := 960) ⟨rfl, rfl⟩ dL_law_33 (lw_case_24 hn hi hX hC hM hk)
    by_cases g25 : j = 25
    · subst g25
      rw [hx] at hc ⊢
      exact wp_tabI mb_232 (off := 940) hc rfl (t := 973) ⟨rfl, rfl⟩ dL_law_33 (lw_case_25 hn hi hX hC hM hk)
    by_cases g26 : j = 26
    · subst g26
      rw [hx] at hc ⊢
      exact wp_tabI mb_232 (off := 973) hc rfl (t := 1006) ⟨rfl, rfl⟩ dL_law_33 (lw_case_26 hn hi hX hC hM hk)
    by_cases g27 : j = 27
    · subst g27
      rw [hx] at hc ⊢
      exact wp_tabI mb_232 (off := 1006) hc rfl (t := 1039) ⟨rfl, rfl⟩ dL_law_33 (lw_case_27 hn hi hX hC hM hk)
    by_cases g28 : j = 28
    · subst g28
      rw [hx] at hc ⊢
      exact wp_tabI mb_232 (off := 1029) hc rfl (t := 1062) ⟨rfl, rfl⟩ dL_law_33 (lw_case_28 hn hi hX hC hM hk)
    by_cases g29 : j = 29
    · subst g29
      rw [hx] at hc ⊢
      exact wp_tabI mb_232 (off := 1072) hc rfl (t := 1105) ⟨rfl, rfl⟩ dL_law_33 (lw_case_29 hn hi hX hC hM hk)
    by_cases g30 : j = 30
    · subst g30
      rw [hx] at hc ⊢
      exact wp_tabI mb_232 (off := 1125) hc rfl (t := 1158) ⟨rfl, rfl⟩ dL_law_33 (lw_case_30 hn hi hX hC hM hk)
    by_cases g31 : j = 31
    · subst g31
      rw [hx] at hc ⊢
      exact wp_tabI mb_232 (off := 1148) hc rfl (t := 1181) ⟨rfl, rfl⟩ dL_law_33 (lw_case_31 hn hi hX hC hM hk)
    by_cases g32 : j = 32
    · subst g32
      rw [hx] at hc ⊢
      exact wp_tabI mb_232 (off := 1161) hc rfl (t := 1194) ⟨rfl, rfl⟩ dL_law_33 (lw_case_32 hn hi hX hC hM hk)
    by_cases g33 : j = 33
    · subst g33
      rw [hx] at hc ⊢
      exact wp_tabI mb_232 (off := 1194) hc rfl (t := 1227) ⟨rfl, rfl⟩ dL_law_33 (lw_case_33 hn hi hX hC hM hk)
    by_cases g34 : j = 34
    · subst g34
      rw [hx] at hc ⊢
      exact wp_tabI mb_232 (off := 1207) hc rfl (t := 1240) ⟨rfl, rfl⟩ dL_law_33 (lw_case_34 hn hi hX hC hM hk)
    by_cases g35 : j = 35
    · subst g35
      rw [hx] at hc ⊢
      exact wp_tabI mb_232 (off := 1220) hc rfl (t := 1253) ⟨rfl, rfl⟩ dL_law_33 (lw_case_35 hn hi hX hC hM hk)
    by_cases g36 : j = 36
    · subst g36
      rw [hx] at hc ⊢
      exact wp_tabI mb_232 (off := 1243) hc rfl (t := 1276) ⟨rfl, rfl⟩ dL_law_33 (lw_case_36 hn hi hX hC hM hk)
    by_cases g37 : j = 37
    · subst g37
      rw [hx] at hc ⊢
      exact wp_tabI mb_232 (off := 1286) hc rfl (t := 1319) ⟨rfl, rfl⟩ dL_law_33 (lw_case_37 hn hi hX hC hM hk)
    by_cases g38 : j = 38
    · subst g38
      rw [hx] at hc ⊢
      exact wp_tabI mb_232 (off := 1359) hc rfl (t := 1392) ⟨rfl, rfl⟩ dL_law_33 (lw_case_38 hn hi hX hC hM hk)
    by_cases g39 : j = 39
    · subst g39
      rw [hx] at hc ⊢
      exact wp_tabI mb_232 (off := 1393) hc rfl (t := 1426) ⟨rfl, rfl⟩ dL_law_33 (lw_case_39 hn hi hX hC hM hk)
    omega
theorem lw_le {sn i : Nat} (hn : sn ≤ 3072) (hi : i ≤ sn) (c : ¬ nI sn - nI 6 < nI i) : i + 6 ≤ sn := by
  refine Classical.byContradiction fun h => c ?_
  rw [Int32.lt_iff_toInt_lt, Int32.toInt_sub, nI_toInt (by omega), nI_toInt (by omega), nI_toInt (by omega)]
  rw [Int.bmod_eq_of_le (by omega) (by omega)]
  omega
theorem lw_loop {d sn : Nat} {P : Int32 → mm_Mem → Prop} (hn : sn ≤ 3072) (hP : ∀ m, P 1 m) : ∀ (t i : Nat) (X : GS) (m : mm_Mem), sn < i + t → i ≤ sn → okX X → cI X m → mI X m → mm_wp (d + 40) sn 232 18 (lwL i) [] m (qI P)
  | 0, i, X, m, ht, hi, _, _, _ => by omega
  | t + 1, i, X, m, ht, hi, hX, hC, hM => by
    refine wp_iload_n mb_232 rfl dL_law_18 (wp_aload_n mb_232 rfl dL_law_19 (wp_alen mb_232 (x := nI sn) (t := 100) (N := sn) rfl (by decide) rfl dL_law_20 (wp_bipush mb_232 (x := nI 6) rfl dL_law_21 (wp_isub mb_232 dL_law_23 ?_))))
    refine wp_icmp_gt mb_232 (t := 1495) ⟨rfl, rfl⟩ dL_law_24 ⟨fun _ => ?_, fun c => ?_⟩
    · exact wp_iconst mb_232 (x := 1) rfl dL_law_1495 (wp_retZ mb_232 rfl (by decide) dL_law_1496 (hP m))
    · have hi6 : i + 6 ≤ sn := lw_le hn hi c
      exact lw_body hn hi6 hX hC hM (lw_next hn hi6 fun X' m' h1 h2 h3 => lw_loop hn hP t (i + 6) X' m' (by omega) hi6 h1 h2 h3)
