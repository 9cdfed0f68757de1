-- THE LAW: the cases of its switch
theorem okX_image {X : GS} (hX : okX X) : okX (X_image X) := ⟨hX.1, fun _ => hX.1, hX.2.2⟩
abbrev lwL (i : Nat) : mm_L := [some (.ref 0), some (.ref 1), some (.ref 82), some (.int (nI i))]
theorem lw_rd {d sn i p j : Nat} {v : Int} {q : Int32} {st : List Value} {m : mm_Mem} {Q : Option Value → mm_Mem → Prop} (hv : Int32.ofInt v = nI j) (d0 : decode cL_law p = .ok (.aload_n 0, 1)) (d1 : decode cL_law (p + 1) = .ok (.iload_n 3, 1)) (d2 : decode cL_law (p + 1 + 1) = .ok (.iconst v, 1)) (d3 : decode cL_law (p + 1 + 1 + 1) = .ok (.iadd, 1)) (d4 : decode cL_law (p + 1 + 1 + 1 + 1) = .ok (.iaload, 1)) (hi : i + j < sn) (hn : sn ≤ 3072) (hq : m.1 0 (i + j) = q) (hw : mm_wp d sn 232 (p + 5) (lwL i) (.int q :: st) m Q) : mm_wp d sn 232 p (lwL i) st m Q := by
  subst hq
  refine wp_aload_n mb_232 rfl d0 (wp_iload_n mb_232 rfl d1 (wp_iconst mb_232 hv d2 (wp_iadd mb_232 d3 ?_)))
  rw [e_add]
  exact wp_iaload mb_232 (e_cl (by omega)) rfl (vp_in_nI hi (by omega)) d4 hw
def lwK (d sn i : Nat) (Q : Option Value → mm_Mem → Prop) : Prop := ∀ (X : GS) (m : mm_Mem), okX X → cI X m → mI X m → mm_wp d sn 232 1489 (lwL i) [] m Q
theorem lw_cmp (x : Int64) : lg_cmp x x = 0 := by unfold lg_cmp; simp
theorem kl_15_166 : mm_kl 15 166 = some (4294967295) := by decide +kernel
theorem lm_15_13 : mm_lm 15 13 = some (kX10_points, 0) := by decide +kernel
theorem lm_15_17 : mm_lm 15 17 = some (kX11_points, 0) := by decide +kernel
theorem lm_15_18 : mm_lm 15 18 = some (kX10_way, 0) := by decide +kernel
theorem lm_15_22 : mm_lm 15 22 = some (kX11_way, 0) := by decide +kernel
theorem lm_15_23 : mm_lm 15 23 = some (kX10_hand, 0) := by decide +kernel
theorem lm_15_26 : mm_lm 15 26 = some (kX11_hand, 0) := by decide +kernel
theorem lm_15_27 : mm_lm 15 27 = some (kX10_drop, 0) := by decide +kernel
theorem lm_15_30 : mm_lm 15 30 = some (kX11_drop, 0) := by decide +kernel
theorem lm_15_31 : mm_lm 15 31 = some (kX10_wayOf, 0) := by decide +kernel
theorem lm_15_34 : mm_lm 15 34 = some (kX11_wayOf, 0) := by decide +kernel
theorem lm_15_35 : mm_lm 15 35 = some (kX10_takes, 0) := by decide +kernel
theorem lm_15_38 : mm_lm 15 38 = some (kX11_takes, 0) := by decide +kernel
theorem lm_15_39 : mm_lm 15 39 = some (kX10_moves, 0) := by decide +kernel
theorem lm_15_42 : mm_lm 15 42 = some (kX11_moves, 0) := by decide +kernel
theorem lm_15_43 : mm_lm 15 43 = some (kX10_order, 0) := by decide +kernel
theorem lm_15_47 : mm_lm 15 47 = some (kX11_order, 0) := by decide +kernel
theorem lm_15_48 : mm_lm 15 48 = some (kX10_orbits, 0) := by decide +kernel
theorem lm_15_51 : mm_lm 15 51 = some (kX11_orbits, 0) := by decide +kernel
theorem lm_15_52 : mm_lm 15 52 = some (kX10_orbit, 0) := by decide +kernel
theorem lm_15_56 : mm_lm 15 56 = some (kX11_orbit, 0) := by decide +kernel
theorem lm_15_57 : mm_lm 15 57 = some (kX10_member, 0) := by decide +kernel
theorem lm_15_60 : mm_lm 15 60 = some (kX11_member, 0) := by decide +kernel
theorem lm_15_61 : mm_lm 15 61 = some (kX10_orbitOf, 0) := by decide +kernel
theorem lm_15_64 : mm_lm 15 64 = some (kX11_orbitOf, 0) := by decide +kernel
theorem lm_15_65 : mm_lm 15 65 = some (kX10_table, 0) := by decide +kernel
theorem lm_15_69 : mm_lm 15 69 = some (kX11_table, 0) := by decide +kernel
theorem lm_15_70 : mm_lm 15 70 = some (kX10_solved, 0) := by decide +kernel
theorem lm_15_73 : mm_lm 15 73 = some (kX11_solved, 0) := by decide +kernel
theorem lm_15_74 : mm_lm 15 74 = some (kX10_solution, 0) := by decide +kernel
theorem lm_15_77 : mm_lm 15 77 = some (kX11_solution, 0) := by decide +kernel
theorem lm_15_78 : mm_lm 15 78 = some (kX10_cover, 0) := by decide +kernel
theorem lm_15_81 : mm_lm 15 81 = some (kX11_cover, 0) := by decide +kernel
theorem lm_15_82 : mm_lm 15 82 = some (kX10_choose, 0) := by decide +kernel
theorem lm_15_85 : mm_lm 15 85 = some (kX11_choose, 0) := by decide +kernel
theorem lm_15_86 : mm_lm 15 86 = some (kX10_block, 0) := by decide +kernel
theorem lm_15_89 : mm_lm 15 89 = some (kX11_block, 0) := by decide +kernel
theorem lm_15_90 : mm_lm 15 90 = some (kX10_blockOf, 0) := by decide +kernel
theorem lm_15_93 : mm_lm 15 93 = some (kX11_blockOf, 0) := by decide +kernel
theorem lm_15_94 : mm_lm 15 94 = some (kX10_blocks, 0) := by decide +kernel
theorem lm_15_97 : mm_lm 15 97 = some (kX11_blocks, 0) := by decide +kernel
theorem lm_15_98 : mm_lm 15 98 = some (kX10_share, 0) := by decide +kernel
theorem lm_15_101 : mm_lm 15 101 = some (kX11_share, 0) := by decide +kernel
theorem lm_15_102 : mm_lm 15 102 = some (kX10_meets, 0) := by decide +kernel
theorem lm_15_105 : mm_lm 15 105 = some (kX11_meets, 0) := by decide +kernel
theorem lm_15_106 : mm_lm 15 106 = some (kX10_turned, 0) := by decide +kernel
theorem lm_15_109 : mm_lm 15 109 = some (kX11_turned, 0) := by decide +kernel
theorem lm_15_110 : mm_lm 15 110 = some (kX10_parted, 0) := by decide +kernel
theorem lm_15_113 : mm_lm 15 113 = some (kX11_parted, 0) := by decide +kernel
theorem lm_15_114 : mm_lm 15 114 = some (kX10_keep, 0) := by decide +kernel
theorem lm_15_117 : mm_lm 15 117 = some (kX11_keep, 0) := by decide +kernel
theorem lm_15_118 : mm_lm 15 118 = some (kX10_design, 0) := by decide +kernel
theorem lm_15_121 : mm_lm 15 121 = some (kX11_design, 0) := by decide +kernel
theorem lm_15_122 : mm_lm 15 122 = some (kX10_alike, 0) := by decide +kernel
theorem lm_15_125 : mm_lm 15 125 = some (kX11_alike, 0) := by decide +kernel
theorem lm_15_126 : mm_lm 15 126 = some (kX10_selves, 0) := by decide +kernel
theorem lm_15_129 : mm_lm 15 129 = some (kX11_selves, 0) := by decide +kernel
theorem lm_15_130 : mm_lm 15 130 = some (kX10_unlike, 0) := by decide +kernel
theorem lm_15_133 : mm_lm 15 133 = some (kX11_unlike, 0) := by decide +kernel
theorem lm_15_134 : mm_lm 15 134 = some (kX10_lots, 0) := by decide +kernel
theorem lm_15_137 : mm_lm 15 137 = some (kX11_lots, 0) := by decide +kernel
theorem lm_15_138 : mm_lm 15 138 = some (kX10_feed, 0) := by decide +kernel
theorem lm_15_141 : mm_lm 15 141 = some (kX11_feed, 0) := by decide +kernel
theorem lm_15_142 : mm_lm 15 142 = some (kX10_read, 0) := by decide +kernel
theorem lm_15_145 : mm_lm 15 145 = some (kX11_read, 0) := by decide +kernel
theorem lm_15_146 : mm_lm 15 146 = some (kX10_judge, 0) := by decide +kernel
theorem lm_15_149 : mm_lm 15 149 = some (kX11_judge, 0) := by decide +kernel
theorem lm_15_150 : mm_lm 15 150 = some (kX10_image, 0) := by decide +kernel
theorem lm_15_153 : mm_lm 15 153 = some (kX11_image, 0) := by decide +kernel
theorem lm_15_154 : mm_lm 15 154 = some (kX10_undo, 0) := by decide +kernel
theorem lm_15_157 : mm_lm 15 157 = some (kX11_undo, 0) := by decide +kernel
theorem lm_15_158 : mm_lm 15 158 = some (kX10_count, 0) := by decide +kernel
theorem lm_15_161 : mm_lm 15 161 = some (kX11_count, 0) := by decide +kernel
theorem lm_15_162 : mm_lm 15 162 = some (kX10_tape, 0) := by decide +kernel
theorem lm_15_165 : mm_lm 15 165 = some (kX11_tape, 0) := by decide +kernel
theorem lm_15_168 : mm_lm 15 168 = some (kX10_item, 0) := by decide +kernel
theorem lm_15_172 : mm_lm 15 172 = some (kX11_item, 0) := by decide +kernel
theorem lm_15_173 : mm_lm 15 173 = some (kX10_peek, 0) := by decide +kernel
theorem lm_15_177 : mm_lm 15 177 = some (kX11_peek, 0) := by decide +kernel
theorem lm_15_178 : mm_lm 15 178 = some (kX10_shift, 0) := by decide +kernel
theorem lm_15_182 : mm_lm 15 182 = some (kX11_shift, 0) := by decide +kernel
set_option maxRecDepth 100000 in
theorem lw_case_0 {d sn i : Nat} {X : GS} {m : mm_Mem} {Q : Option Value → mm_Mem → Prop} (hn : sn ≤ 3072) (hi : i + 6 ≤ sn) (hX : okX X) (hC : cI X m) (hM : mI X m) (hk : lwK (d + 40) sn i Q) : mm_wp (d + 40) sn 232 208 (lwL i) [] m Q := by
  refine wp_aload_n mb_232 rfl dL_law_208 ?_
  refine lw_rd (j := 1) (q := m.1 0 (i + 1)) rfl dL_law_209 dL_law_210 dL_law_211 dL_law_212 dL_law_213 (by omega) hn rfl ?_
  refine wp_callV mb_232 (k' := kX10_points) (r := []) rfl lm_15_13 rfl m0_1 (by decide) (Nat.le_of_ble_eq_true rfl) dL_law_214 (sp_cI (c_points hX hC (fun m1 f1 g1 => ?_)))
  have e0 : m1.1 0 = m.1 0 := f1.i (by omega)
  refine wp_aload_n mb_232 rfl dL_law_217 ?_
  refine lw_rd (j := 1) (q := m.1 0 (i + 1)) rfl dL_law_218 dL_law_219 dL_law_220 dL_law_221 dL_law_222 (by omega) hn (by rw [e0]) ?_
  refine wp_callV mb_232 (k' := kX11_points) (r := [.int _]) rfl lm_15_17 rfl m0_82 (by decide) (Nat.le_of_ble_eq_true rfl) dL_law_223 (sp_cI (m_points hX (mI_class hX f1 hM) (fun m2 f2 g2 => ?_)))
  refine wp_icmp_eq mb_232 (t := 1489) ⟨rfl, rfl⟩ dL_law_226 ⟨fun _ => ?_, fun c => absurd rfl c⟩
  exact hk _ m2 (okX_S hX (okS_points hX.1)) (cI_model (okX_S hX (okS_points hX.1)) (fz83 f2) g1) g2
set_option maxRecDepth 100000 in
theorem lw_case_1 {d sn i : Nat} {X : GS} {m : mm_Mem} {Q : Option Value → mm_Mem → Prop} (hn : sn ≤ 3072) (hi : i + 6 ≤ sn) (hX : okX X) (hC : cI X m) (hM : mI X m) (hk : lwK (d + 40) sn i Q) : mm_wp (d + 40) sn 232 231 (lwL i) [] m Q := by
  refine wp_aload_n mb_232 rfl dL_law_231 ?_
  refine lw_rd (j := 1) (q := m.1 0 (i + 1)) rfl dL_law_232 dL_law_233 dL_law_234 dL_law_235 dL_law_236 (by omega) hn rfl ?_
  refine lw_rd (j := 2) (q := m.1 0 (i + 2)) rfl dL_law_237 dL_law_238 dL_law_239 dL_law_240 dL_law_241 (by omega) hn rfl ?_
  refine wp_callV mb_232 (k' := kX10_way) (r := []) rfl lm_15_18 rfl m0_1 (by decide) (Nat.le_of_ble_eq_true rfl) dL_law_242 (sp_cI (c_way hX hC (fun m1 f1 g1 => ?_)))
  have e0 : m1.1 0 = m.1 0 := f1.i (by omega)
  refine wp_aload_n mb_232 rfl dL_law_245 ?_
  refine lw_rd (j := 1) (q := m.1 0 (i + 1)) rfl dL_law_246 dL_law_247 dL_law_248 dL_law_249 dL_law_250 (by omega) hn (by rw [e0]) ?_
  refine lw_rd (j := 2) (q := m.1 0 (i + 2)) rfl dL_law_251 dL_law_252 dL_law_253 dL_law_254 dL_law_255 (by omega) hn (by rw [e0]) ?_
  refine wp_callV mb_232 (k' := kX11_way) (r := [.int _]) rfl lm_15_22 rfl m0_82 (by decide) (Nat.le_of_ble_eq_true rfl) dL_law_256 (sp_cI (m_way hX (mI_class hX f1 hM) (fun m2 f2 g2 => ?_)))
  refine wp_icmp_eq mb_232 (t := 1489) ⟨rfl, rfl⟩ dL_law_259 ⟨fun _ => ?_, fun c => absurd rfl c⟩
  exact hk _ m2 (okX_S hX (okS_way hX.1)) (cI_model (okX_S hX (okS_way hX.1)) (fz83 f2) g1) g2
set_option maxRecDepth 100000 in
theorem lw_case_2 {d sn i : Nat} {X : GS} {m : mm_Mem} {Q : Option Value → mm_Mem → Prop} (hn : sn ≤ 3072) (hi : i + 6 ≤ sn) (hX : okX X) (hC : cI X m) (hM : mI X m) (hk : lwK (d + 40) sn i Q) : mm_wp (d + 40) sn 232 264 (lwL i) [] m Q := by
  refine wp_aload_n mb_232 rfl dL_law_264 ?_
  refine lw_rd (j := 1) (q := m.1 0 (i + 1)) rfl dL_law_265 dL_law_266 dL_law_267 dL_law_268 dL_law_269 (by omega) hn rfl ?_
  refine wp_callV mb_232 (k' := kX10_hand) (r := []) rfl lm_15_23 rfl m0_1 (by decide) (Nat.le_of_ble_eq_true rfl) dL_law_270 (sp_cI (c_hand hX hC (fun m1 f1 g1 => ?_)))
  have e0 : m1.1 0 = m.1 0 := f1.i (by omega)
  refine wp_aload_n mb_232 rfl dL_law_273 ?_
  refine lw_rd (j := 1) (q := m.1 0 (i + 1)) rfl dL_law_274 dL_law_275 dL_law_276 dL_law_277 dL_law_278 (by omega) hn (by rw [e0]) ?_
  refine wp_callV mb_232 (k' := kX11_hand) (r := [.int _]) rfl lm_15_26 rfl m0_82 (by decide) (Nat.le_of_ble_eq_true rfl) dL_law_279 (sp_cI (m_hand hX (mI_class hX f1 hM) (fun m2 f2 g2 => ?_)))
  refine wp_icmp_eq mb_232 (t := 1489) ⟨rfl, rfl⟩ dL_law_282 ⟨fun _ => ?_, fun c => absurd rfl c⟩
  exact hk _ m2 (okX_S hX (okS_hand hX.1)) (cI_model (okX_S hX (okS_hand hX.1)) (fz83 f2) g1) g2
set_option maxRecDepth 100000 in
theorem lw_case_3 {d sn i : Nat} {X : GS} {m : mm_Mem} {Q : Option Value → mm_Mem → Prop} (hn : sn ≤ 3072) (hi : i + 6 ≤ sn) (hX : okX X) (hC : cI X m) (hM : mI X m) (hk : lwK (d + 40) sn i Q) : mm_wp (d + 40) sn 232 287 (lwL i) [] m Q := by
  refine wp_aload_n mb_232 rfl dL_law_287 ?_
  refine lw_rd (j := 1) (q := m.1 0 (i + 1)) rfl dL_law_288 dL_law_289 dL_law_290 dL_law_291 dL_law_292 (by omega) hn rfl ?_
  refine wp_callV mb_232 (k' := kX10_drop) (r := []) rfl lm_15_27 rfl m0_1 (by decide) (Nat.le_of_ble_eq_true rfl) dL_law_293 (sp_cI (c_drop hX hC (fun m1 f1 g1 => ?_)))
  have e0 : m1.1 0 = m.1 0 := f1.i (by omega)
  refine wp_aload_n mb_232 rfl dL_law_296 ?_
  refine lw_rd (j := 1) (q := m.1 0 (i + 1)) rfl dL_law_297 dL_law_298 dL_law_299 dL_law_300 dL_law_301 (by omega) hn (by rw [e0]) ?_
  refine wp_callV mb_232 (k' := kX11_drop) (r := [.int _]) rfl lm_15_30 rfl m0_82 (by decide) (Nat.le_of_ble_eq_true rfl) dL_law_302 (sp_cI (m_drop hX (mI_class hX f1 hM) (fun m2 f2 g2 => ?_)))
  refine wp_icmp_eq mb_232 (t := 1489) ⟨rfl, rfl⟩ dL_law_305 ⟨fun _ => ?_, fun c => absurd rfl c⟩
  exact hk _ m2 (okX_S hX (okS_drop hX.1)) (cI_model (okX_S hX (okS_drop hX.1)) f2 g1) g2
set_option maxRecDepth 100000 in
theorem lw_case_4 {d sn i : Nat} {X : GS} {m : mm_Mem} {Q : Option Value → mm_Mem → Prop} (hn : sn ≤ 3072) (hi : i + 6 ≤ sn) (hX : okX X) (hC : cI X m) (hM : mI X m) (hk : lwK (d + 40) sn i Q) : mm_wp (d + 40) sn 232 310 (lwL i) [] m Q := by
  refine wp_aload_n mb_232 rfl dL_law_310 ?_
  refine lw_rd (j := 1) (q := m.1 0 (i + 1)) rfl dL_law_311 dL_law_312 dL_law_313 dL_law_314 dL_law_315 (by omega) hn rfl ?_
  refine lw_rd (j := 2) (q := m.1 0 (i + 2)) rfl dL_law_316 dL_law_317 dL_law_318 dL_law_319 dL_law_320 (by omega) hn rfl ?_
  refine wp_callV mb_232 (k' := kX10_wayOf) (r := []) rfl lm_15_31 rfl m0_1 (by decide) (Nat.le_of_ble_eq_true rfl) dL_law_321 (sp_cI (c_wayOf hX hC (fun m1 f1 g1 => ?_)))
  have e0 : m1.1 0 = m.1 0 := f1.i (by omega)
  refine wp_aload_n mb_232 rfl dL_law_324 ?_
  refine lw_rd (j := 1) (q := m.1 0 (i + 1)) rfl dL_law_325 dL_law_326 dL_law_327 dL_law_328 dL_law_329 (by omega) hn (by rw [e0]) ?_
  refine lw_rd (j := 2) (q := m.1 0 (i + 2)) rfl dL_law_330 dL_law_331 dL_law_332 dL_law_333 dL_law_334 (by omega) hn (by rw [e0]) ?_
  refine wp_callV mb_232 (k' := kX11_wayOf) (r := [.int _]) rfl lm_15_34 rfl m0_82 (by decide) (Nat.le_of_ble_eq_true rfl) dL_law_335 (sp_cI (m_wayOf hX (mI_class hX f1 hM) (fun m2 f2 g2 => ?_)))
  refine wp_icmp_eq mb_232 (t := 1489) ⟨rfl, rfl⟩ dL_law_338 ⟨fun _ => ?_, fun c => absurd rfl c⟩
  exact hk _ m2 (hX) (cI_model (hX) f2 g1) g2
set_option maxRecDepth 100000 in
theorem lw_case_5 {d sn i : Nat} {X : GS} {m : mm_Mem} {Q : Option Value → mm_Mem → Prop} (hn : sn ≤ 3072) (hi : i + 6 ≤ sn) (hX : okX X) (hC : cI X m) (hM : mI X m) (hk : lwK (d + 40) sn i Q) : mm_wp (d + 40) sn 232 343 (lwL i) [] m Q := by
  refine wp_aload_n mb_232 rfl dL_law_343 ?_
  refine lw_rd (j := 1) (q := m.1 0 (i + 1)) rfl dL_law_344 dL_law_345 dL_law_346 dL_law_347 dL_law_348 (by omega) hn rfl ?_
  refine lw_rd (j := 2) (q := m.1 0 (i + 2)) rfl dL_law_349 dL_law_350 dL_law_351 dL_law_352 dL_law_353 (by omega) hn rfl ?_
  refine wp_callV mb_232 (k' := kX10_takes) (r := []) rfl lm_15_35 rfl m0_1 (by decide) (Nat.le_of_ble_eq_true rfl) dL_law_354 (sp_cI (c_takes hX hC (fun m1 f1 g1 => ?_)))
  have e0 : m1.1 0 = m.1 0 := f1.i (by omega)
  refine wp_aload_n mb_232 rfl dL_law_357 ?_
  refine lw_rd (j := 1) (q := m.1 0 (i + 1)) rfl dL_law_358 dL_law_359 dL_law_360 dL_law_361 dL_law_362 (by omega) hn (by rw [e0]) ?_
  refine lw_rd (j := 2) (q := m.1 0 (i + 2)) rfl dL_law_363 dL_law_364 dL_law_365 dL_law_366 dL_law_367 (by omega) hn (by rw [e0]) ?_
  refine wp_callV mb_232 (k' := kX11_takes) (r := [.int _]) rfl lm_15_38 rfl m0_82 (by decide) (Nat.le_of_ble_eq_true rfl) dL_law_368 (sp_cI (m_takes hX (mI_class hX f1 hM) (fun m2 f2 g2 => ?_)))
  refine wp_icmp_eq mb_232 (t := 1489) ⟨rfl, rfl⟩ dL_law_371 ⟨fun _ => ?_, fun c => absurd rfl c⟩
  exact hk _ m2 (hX) (cI_model (hX) f2 g1) g2
set_option maxRecDepth 100000 in
theorem lw_case_6 {d sn i : Nat} {X : GS} {m : mm_Mem} {Q : Option Value → mm_Mem → Prop} (hn : sn ≤ 3072) (hi : i + 6 ≤ sn) (hX : okX X) (hC : cI X m) (hM : mI X m) (hk : lwK (d + 40) sn i Q) : mm_wp (d + 40) sn 232 376 (lwL i) [] m Q := by
  refine wp_aload_n mb_232 rfl dL_law_376 ?_
  refine lw_rd (j := 1) (q := m.1 0 (i + 1)) rfl dL_law_377 dL_law_378 dL_law_379 dL_law_380 dL_law_381 (by omega) hn rfl ?_
  refine lw_rd (j := 2) (q := m.1 0 (i + 2)) rfl dL_law_382 dL_law_383 dL_law_384 dL_law_385 dL_law_386 (by omega) hn rfl ?_
  refine wp_callV mb_232 (k' := kX10_moves) (r := []) rfl lm_15_39 rfl m0_1 (by decide) (Nat.le_of_ble_eq_true rfl) dL_law_387 (sp_cI (c_moves hX hC (fun m1 f1 g1 => ?_)))
  have e0 : m1.1 0 = m.1 0 := f1.i (by omega)
  refine wp_aload_n mb_232 rfl dL_law_390 ?_
  refine lw_rd (j := 1) (q := m.1 0 (i + 1)) rfl dL_law_391 dL_law_392 dL_law_393 dL_law_394 dL_law_395 (by omega) hn (by rw [e0]) ?_
  refine lw_rd (j := 2) (q := m.1 0 (i + 2)) rfl dL_law_396 dL_law_397 dL_law_398 dL_law_399 dL_law_400 (by omega) hn (by rw [e0]) ?_
  refine wp_callV mb_232 (k' := kX11_moves) (r := [.int _]) rfl lm_15_42 rfl m0_82 (by decide) (Nat.le_of_ble_eq_true rfl) dL_law_401 (sp_cI (m_moves hX (mI_class hX f1 hM) (fun m2 f2 g2 => ?_)))
  refine wp_icmp_eq mb_232 (t := 1489) ⟨rfl, rfl⟩ dL_law_404 ⟨fun _ => ?_, fun c => absurd rfl c⟩
  exact hk _ m2 (hX) (cI_model (hX) f2 g1) g2
set_option maxRecDepth 100000 in
theorem lw_case_7 {d sn i : Nat} {X : GS} {m : mm_Mem} {Q : Option Value → mm_Mem → Prop} (hn : sn ≤ 3072) (hi : i + 6 ≤ sn) (hX : okX X) (hC : cI X m) (hM : mI X m) (hk : lwK (d + 40) sn i Q) : mm_wp (d + 40) sn 232 409 (lwL i) [] m Q := by
  refine wp_aload_n mb_232 rfl dL_law_409 ?_
  refine wp_callV mb_232 (k' := kX10_order) (r := []) rfl lm_15_43 rfl m0_1 (by decide) (Nat.le_of_ble_eq_true rfl) dL_law_410 (sp_cI (c_order hX hC (fun m1 f1 g1 => ?_)))
  have e0 : m1.1 0 = m.1 0 := f1.i (by omega)
  refine wp_aload_n mb_232 rfl dL_law_413 ?_
  refine wp_callV mb_232 (k' := kX11_order) (r := [.int _]) rfl lm_15_47 rfl m0_82 (by decide) (Nat.le_of_ble_eq_true rfl) dL_law_414 (sp_cI (m_order hX (mI_class hX f1 hM) (fun m2 f2 g2 => ?_)))
  refine wp_icmp_eq mb_232 (t := 1489) ⟨rfl, rfl⟩ dL_law_417 ⟨fun _ => ?_, fun c => absurd rfl c⟩
  exact hk _ m2 (hX) (cI_model (hX) f2 g1) g2
set_option maxRecDepth 100000 in
theorem lw_case_8 {d sn i : Nat} {X : GS} {m : mm_Mem} {Q : Option Value → mm_Mem → Prop} (hn : sn ≤ 3072) (hi : i + 6 ≤ sn) (hX : okX X) (hC : cI X m) (hM : mI X m) (hk : lwK (d + 40) sn i Q) : mm_wp (d + 40) sn 232 422 (lwL i) [] m Q := by
  refine wp_aload_n mb_232 rfl dL_law_422 ?_
  refine lw_rd (j := 1) (q := m.1 0 (i + 1)) rfl dL_law_423 dL_law_424 dL_law_425 dL_law_426 dL_law_427 (by omega) hn rfl ?_
  refine wp_callV mb_232 (k' := kX10_orbits) (r := []) rfl lm_15_48 rfl m0_1 (by decide) (Nat.le_of_ble_eq_true rfl) dL_law_428 (sp_cI (c_orbits hX hC (fun m1 f1 g1 => ?_)))
  have e0 : m1.1 0 = m.1 0 := f1.i (by omega)
  refine wp_aload_n mb_232 rfl dL_law_431 ?_
  refine lw_rd (j := 1) (q := m.1 0 (i + 1)) rfl dL_law_432 dL_law_433 dL_law_434 dL_law_435 dL_law_436 (by omega) hn (by rw [e0]) ?_
  refine wp_callV mb_232 (k' := kX11_orbits) (r := [.int _]) rfl lm_15_51 rfl m0_82 (by decide) (Nat.le_of_ble_eq_true rfl) dL_law_437 (sp_cI (m_orbits hX (mI_class hX f1 hM) (fun m2 f2 g2 => ?_)))
  refine wp_icmp_eq mb_232 (t := 1489) ⟨rfl, rfl⟩ dL_law_440 ⟨fun _ => ?_, fun c => absurd rfl c⟩
  exact hk _ m2 (hX) (cI_model (hX) f2 g1) g2
set_option maxRecDepth 100000 in
theorem lw_case_9 {d sn i : Nat} {X : GS} {m : mm_Mem} {Q : Option Value → mm_Mem → Prop} (hn : sn ≤ 3072) (hi : i + 6 ≤ sn) (hX : okX X) (hC : cI X m) (hM : mI X m) (hk : lwK (d + 40) sn i Q) : mm_wp (d + 40) sn 232 445 (lwL i) [] m Q := by
  refine wp_aload_n mb_232 rfl dL_law_445 ?_
  refine lw_rd (j := 1) (q := m.1 0 (i + 1)) rfl dL_law_446 dL_law_447 dL_law_448 dL_law_449 dL_law_450 (by omega) hn rfl ?_
  refine lw_rd (j := 2) (q := m.1 0 (i + 2)) rfl dL_law_451 dL_law_452 dL_law_453 dL_law_454 dL_law_455 (by omega) hn rfl ?_
  refine lw_rd (j := 3) (q := m.1 0 (i + 3)) rfl dL_law_456 dL_law_457 dL_law_458 dL_law_459 dL_law_460 (by omega) hn rfl ?_
  refine wp_callV mb_232 (k' := kX10_orbit) (r := []) rfl lm_15_52 rfl m0_1 (by decide) (Nat.le_of_ble_eq_true rfl) dL_law_461 (sp_cI (c_orbit hX hC (fun m1 f1 g1 => ?_)))
  have e0 : m1.1 0 = m.1 0 := f1.i (by omega)
  refine wp_aload_n mb_232 rfl dL_law_464 ?_
  refine lw_rd (j := 1) (q := m.1 0 (i + 1)) rfl dL_law_465 dL_law_466 dL_law_467 dL_law_468 dL_law_469 (by omega) hn (by rw [e0]) ?_
  refine lw_rd (j := 2) (q := m.1 0 (i + 2)) rfl dL_law_470 dL_law_471 dL_law_472 dL_law_473 dL_law_474 (by omega) hn (by rw [e0]) ?_
  refine lw_rd (j := 3) (q := m.1 0 (i + 3)) rfl dL_law_475 dL_law_476 dL_law_477 dL_law_478 dL_law_479 (by omega) hn (by rw [e0]) ?_
  refine wp_callV mb_232 (k' := kX11_orbit) (r := [.int _]) rfl lm_15_56 rfl m0_82 (by decide) (Nat.le_of_ble_eq_true rfl) dL_law_480 (sp_cI (m_orbit hX (mI_class hX f1 hM) (fun m2 f2 g2 => ?_)))
  refine wp_icmp_eq mb_232 (t := 1489) ⟨rfl, rfl⟩ dL_law_483 ⟨fun _ => ?_, fun c => absurd rfl c⟩
  exact hk _ m2 (hX) (cI_model (hX) f2 g1) g2
set_option maxRecDepth 100000 in
theorem lw_case_10 {d sn i : Nat} {X : GS} {m : mm_Mem} {Q : Option Value → mm_Mem → Prop} (hn : sn ≤ 3072) (hi : i + 6 ≤ sn) (hX : okX X) (hC : cI X m) (hM : mI X m) (hk : lwK (d + 40) sn i Q) : mm_wp (d + 40) sn 232 488 (lwL i) [] m Q := by
  refine wp_aload_n mb_232 rfl dL_law_488 ?_
  refine lw_rd (j := 1) (q := m.1 0 (i + 1)) rfl dL_law_489 dL_law_490 dL_law_491 dL_law_492 dL_law_493 (by omega) hn rfl ?_
  refine lw_rd (j := 2) (q := m.1 0 (i + 2)) rfl dL_law_494 dL_law_495 dL_law_496 dL_law_497 dL_law_498 (by omega) hn rfl ?_
  refine lw_rd (j := 3) (q := m.1 0 (i + 3)) rfl dL_law_499 dL_law_500 dL_law_501 dL_law_502 dL_law_503 (by omega) hn rfl ?_
  refine wp_callV mb_232 (k' := kX10_member) (r := []) rfl lm_15_57 rfl m0_1 (by decide) (Nat.le_of_ble_eq_true rfl) dL_law_504 (sp_cI (c_member hX hC (fun m1 f1 g1 => ?_)))
  have e0 : m1.1 0 = m.1 0 := f1.i (by omega)
  refine wp_aload_n mb_232 rfl dL_law_507 ?_
  refine lw_rd (j := 1) (q := m.1 0 (i + 1)) rfl dL_law_508 dL_law_509 dL_law_510 dL_law_511 dL_law_512 (by omega) hn (by rw [e0]) ?_
  refine lw_rd (j := 2) (q := m.1 0 (i + 2)) rfl dL_law_513 dL_law_514 dL_law_515 dL_law_516 dL_law_517 (by omega) hn (by rw [e0]) ?_
  refine lw_rd (j := 3) (q := m.1 0 (i + 3)) rfl dL_law_518 dL_law_519 dL_law_520 dL_law_521 dL_law_522 (by omega) hn (by rw [e0]) ?_
  refine wp_callV mb_232 (k' := kX11_member) (r := [.int _]) rfl lm_15_60 rfl m0_82 (by decide) (Nat.le_of_ble_eq_true rfl) dL_law_523 (sp_cI (m_member hX (mI_class hX f1 hM) (fun m2 f2 g2 => ?_)))
  refine wp_icmp_eq mb_232 (t := 1489) ⟨rfl, rfl⟩ dL_law_526 ⟨fun _ => ?_, fun c => absurd rfl c⟩
  exact hk _ m2 (hX) (cI_model (hX) f2 g1) g2
set_option maxRecDepth 100000 in
theorem lw_case_11 {d sn i : Nat} {X : GS} {m : mm_Mem} {Q : Option Value → mm_Mem → Prop} (hn : sn ≤ 3072) (hi : i + 6 ≤ sn) (hX : okX X) (hC : cI X m) (hM : mI X m) (hk : lwK (d + 40) sn i Q) : mm_wp (d + 40) sn 232 531 (lwL i) [] m Q := by
  refine wp_aload_n mb_232 rfl dL_law_531 ?_
  refine lw_rd (j := 1) (q := m.1 0 (i + 1)) rfl dL_law_532 dL_law_533 dL_law_534 dL_law_535 dL_law_536 (by omega) hn rfl ?_
  refine wp_callV mb_232 (k' := kX10_orbitOf) (r := []) rfl lm_15_61 rfl m0_1 (by decide) (Nat.le_of_ble_eq_true rfl) dL_law_537 (sp_cI (c_orbitOf hX hC (fun m1 f1 g1 => ?_)))
  have e0 : m1.1 0 = m.1 0 := f1.i (by omega)
  refine wp_aload_n mb_232 rfl dL_law_540 ?_
  refine lw_rd (j := 1) (q := m.1 0 (i + 1)) rfl dL_law_541 dL_law_542 dL_law_543 dL_law_544 dL_law_545 (by omega) hn (by rw [e0]) ?_
  refine wp_callV mb_232 (k' := kX11_orbitOf) (r := [.int _]) rfl lm_15_64 rfl m0_82 (by decide) (Nat.le_of_ble_eq_true rfl) dL_law_546 (sp_cI (m_orbitOf hX (mI_class hX f1 hM) (fun m2 f2 g2 => ?_)))
  refine wp_icmp_eq mb_232 (t := 1489) ⟨rfl, rfl⟩ dL_law_549 ⟨fun _ => ?_, fun c => absurd rfl c⟩
  exact hk _ m2 (hX) (cI_model (hX) f2 g1) g2
set_option maxRecDepth 100000 in
theorem lw_case_12 {d sn i : Nat} {X : GS} {m : mm_Mem} {Q : Option Value → mm_Mem → Prop} (hn : sn ≤ 3072) (hi : i + 6 ≤ sn) (hX : okX X) (hC : cI X m) (hM : mI X m) (hk : lwK (d + 40) sn i Q) : mm_wp (d + 40) sn 232 554 (lwL i) [] m Q := by
  refine wp_aload_n mb_232 rfl dL_law_554 ?_
  refine lw_rd (j := 1) (q := m.1 0 (i + 1)) rfl dL_law_555 dL_law_556 dL_law_557 dL_law_558 dL_law_559 (by omega) hn rfl ?_
  refine lw_rd (j := 2) (q := m.1 0 (i + 2)) rfl dL_law_560 dL_law_561 dL_law_562 dL_law_563 dL_law_564 (by omega) hn rfl ?_
  refine lw_rd (j := 3) (q := m.1 0 (i + 3)) rfl dL_law_565 dL_law_566 dL_law_567 dL_law_568 dL_law_569 (by omega) hn rfl ?_
  refine lw_rd (j := 4) (q := m.1 0 (i + 4)) rfl dL_law_570 dL_law_571 dL_law_572 dL_law_573 dL_law_574 (by omega) hn rfl ?_
  refine wp_callV mb_232 (k' := kX10_table) (r := []) rfl lm_15_65 rfl m0_1 (by decide) (Nat.le_of_ble_eq_true rfl) dL_law_575 (sp_cI (c_table hX hC (fun m1 f1 g1 => ?_)))
  have e0 : m1.1 0 = m.1 0 := f1.i (by omega)
  refine wp_aload_n mb_232 rfl dL_law_578 ?_
  refine lw_rd (j := 1) (q := m.1 0 (i + 1)) rfl dL_law_579 dL_law_580 dL_law_581 dL_law_582 dL_law_583 (by omega) hn (by rw [e0]) ?_
  refine lw_rd (j := 2) (q := m.1 0 (i + 2)) rfl dL_law_584 dL_law_585 dL_law_586 dL_law_587 dL_law_588 (by omega) hn (by rw [e0]) ?_
  refine lw_rd (j := 3) (q := m.1 0 (i + 3)) rfl dL_law_589 dL_law_590 dL_law_591 dL_law_592 dL_law_593 (by omega) hn (by rw [e0]) ?_
  refine lw_rd (j := 4) (q := m.1 0 (i + 4)) rfl dL_law_594 dL_law_595 dL_law_596 dL_law_597 dL_law_598 (by omega) hn (by rw [e0]) ?_
  refine wp_callV mb_232 (k' := kX11_table) (r := [.int _]) rfl lm_15_69 rfl m0_82 (by decide) (Nat.le_of_ble_eq_true rfl) dL_law_599 (sp_cI (m_table hX (mI_class hX f1 hM) (fun m2 f2 g2 => ?_)))
  refine wp_icmp_eq mb_232 (t := 1489) ⟨rfl, rfl⟩ dL_law_602 ⟨fun _ => ?_, fun c => absurd rfl c⟩
  exact hk _ m2 (hX) (cI_model (hX) f2 g1) g2
set_option maxRecDepth 100000 in
theorem lw_case_13 {d sn i : Nat} {X : GS} {m : mm_Mem} {Q : Option Value → mm_Mem → Prop} (hn : sn ≤ 3072) (hi : i + 6 ≤ sn) (hX : okX X) (hC : cI X m) (hM : mI X m) (hk : lwK (d + 40) sn i Q) : mm_wp (d + 40) sn 232 607 (lwL i) [] m Q := by
  refine wp_aload_n mb_232 rfl dL_law_607 ?_
  refine lw_rd (j := 1) (q := m.1 0 (i + 1)) rfl dL_law_608 dL_law_609 dL_law_610 dL_law_611 dL_law_612 (by omega) hn rfl ?_
  refine lw_rd (j := 2) (q := m.1 0 (i + 2)) rfl dL_law_613 dL_law_614 dL_law_615 dL_law_616 dL_law_617 (by omega) hn rfl ?_
  refine lw_rd (j := 3) (q := m.1 0 (i + 3)) rfl dL_law_618 dL_law_619 dL_law_620 dL_law_621 dL_law_622 (by omega) hn rfl ?_
  refine lw_rd (j := 4) (q := m.1 0 (i + 4)) rfl dL_law_623 dL_law_624 dL_law_625 dL_law_626 dL_law_627 (by omega) hn rfl ?_
  refine wp_callV mb_232 (k' := kX10_solved) (r := []) rfl lm_15_70 rfl m0_1 (by decide) (Nat.le_of_ble_eq_true rfl) dL_law_628 (sp_cI (c_solved hX hC (fun m1 f1 g1 => ?_)))
  have e0 : m1.1 0 = m.1 0 := f1.i (by omega)
  refine wp_aload_n mb_232 rfl dL_law_631 ?_
  refine lw_rd (j := 1) (q := m.1 0 (i + 1)) rfl dL_law_632 dL_law_633 dL_law_634 dL_law_635 dL_law_636 (by omega) hn (by rw [e0]) ?_
  refine lw_rd (j := 2) (q := m.1 0 (i + 2)) rfl dL_law_637 dL_law_638 dL_law_639 dL_law_640 dL_law_641 (by omega) hn (by rw [e0]) ?_
  refine lw_rd (j := 3) (q := m.1 0 (i + 3)) rfl dL_law_642 dL_law_643 dL_law_644 dL_law_645 dL_law_646 (by omega) hn (by rw [e0]) ?_
  refine lw_rd (j := 4) (q := m.1 0 (i + 4)) rfl dL_law_647 dL_law_648 dL_law_649 dL_law_650 dL_law_651 (by omega) hn (by rw [e0]) ?_
  refine wp_callV mb_232 (k' := kX11_solved) (r := [.int _]) rfl lm_15_73 rfl m0_82 (by decide) (Nat.le_of_ble_eq_true rfl) dL_law_652 (sp_cI (m_solved hX (mI_class hX f1 hM) (fun m2 f2 g2 => ?_)))
  refine wp_icmp_eq mb_232 (t := 1489) ⟨rfl, rfl⟩ dL_law_655 ⟨fun _ => ?_, fun c => absurd rfl c⟩
  exact hk _ m2 (hX) (cI_model (hX) f2 g1) g2
set_option maxRecDepth 100000 in
theorem lw_case_14 {d sn i : Nat} {X : GS} {m : mm_Mem} {Q : Option Value → mm_Mem → Prop} (hn : sn ≤ 3072) (hi : i + 6 ≤ sn) (hX : okX X) (hC : cI X m) (hM : mI X m) (hk : lwK (d + 40) sn i Q) : mm_wp (d + 40) sn 232 660 (lwL i) [] m Q := by
  refine wp_aload_n mb_232 rfl dL_law_660 ?_
  refine lw_rd (j := 1) (q := m.1 0 (i + 1)) rfl dL_law_661 dL_law_662 dL_law_663 dL_law_664 dL_law_665 (by omega) hn rfl ?_
  refine lw_rd (j := 2) (q := m.1 0 (i + 2)) rfl dL_law_666 dL_law_667 dL_law_668 dL_law_669 dL_law_670 (by omega) hn rfl ?_
  refine lw_rd (j := 3) (q := m.1 0 (i + 3)) rfl dL_law_671 dL_law_672 dL_law_673 dL_law_674 dL_law_675 (by omega) hn rfl ?_
  refine lw_rd (j := 4) (q := m.1 0 (i + 4)) rfl dL_law_676 dL_law_677 dL_law_678 dL_law_679 dL_law_680 (by omega) hn rfl ?_
  refine wp_callV mb_232 (k' := kX10_solution) (r := []) rfl lm_15_74 rfl m0_1 (by decide) (Nat.le_of_ble_eq_true rfl) dL_law_681 (sp_cI (c_solution hX hC (fun m1 f1 g1 => ?_)))
  have e0 : m1.1 0 = m.1 0 := f1.i (by omega)
  refine wp_aload_n mb_232 rfl dL_law_684 ?_
  refine lw_rd (j := 1) (q := m.1 0 (i + 1)) rfl dL_law_685 dL_law_686 dL_law_687 dL_law_688 dL_law_689 (by omega) hn (by rw [e0]) ?_
  refine lw_rd (j := 2) (q := m.1 0 (i + 2)) rfl dL_law_690 dL_law_691 dL_law_692 dL_law_693 dL_law_694 (by omega) hn (by rw [e0]) ?_
  refine lw_rd (j := 3) (q := m.1 0 (i + 3)) rfl dL_law_695 dL_law_696 dL_law_697 dL_law_698 dL_law_699 (by omega) hn (by rw [e0]) ?_
  refine lw_rd (j := 4) (q := m.1 0 (i + 4)) rfl dL_law_700 dL_law_701 dL_law_702 dL_law_703 dL_law_704 (by omega) hn (by rw [e0]) ?_
  refine wp_callV mb_232 (k' := kX11_solution) (r := [.int _]) rfl lm_15_77 rfl m0_82 (by decide) (Nat.le_of_ble_eq_true rfl) dL_law_705 (sp_cI (m_solution hX (mI_class hX f1 hM) (fun m2 f2 g2 => ?_)))
  refine wp_icmp_eq mb_232 (t := 1489) ⟨rfl, rfl⟩ dL_law_708 ⟨fun _ => ?_, fun c => absurd rfl c⟩
  exact hk _ m2 (hX) (cI_model (hX) f2 g1) g2
set_option maxRecDepth 100000 in
theorem lw_case_15 {d sn i : Nat} {X : GS} {m : mm_Mem} {Q : Option Value → mm_Mem → Prop} (hn : sn ≤ 3072) (hi : i + 6 ≤ sn) (hX : okX X) (hC : cI X m) (hM : mI X m) (hk : lwK (d + 40) sn i Q) : mm_wp (d + 40) sn 232 713 (lwL i) [] m Q := by
  refine wp_aload_n mb_232 rfl dL_law_713 ?_
  refine lw_rd (j := 1) (q := m.1 0 (i + 1)) rfl dL_law_714 dL_law_715 dL_law_716 dL_law_717 dL_law_718 (by omega) hn rfl ?_
  refine lw_rd (j := 2) (q := m.1 0 (i + 2)) rfl dL_law_719 dL_law_720 dL_law_721 dL_law_722 dL_law_723 (by omega) hn rfl ?_
  refine lw_rd (j := 3) (q := m.1 0 (i + 3)) rfl dL_law_724 dL_law_725 dL_law_726 dL_law_727 dL_law_728 (by omega) hn rfl ?_
  refine wp_callV mb_232 (k' := kX10_cover) (r := []) rfl lm_15_78 rfl m0_1 (by decide) (Nat.le_of_ble_eq_true rfl) dL_law_729 (sp_cI (c_cover hX hC (fun m1 f1 g1 => ?_)))
  have e0 : m1.1 0 = m.1 0 := f1.i (by omega)
  refine wp_aload_n mb_232 rfl dL_law_732 ?_
  refine lw_rd (j := 1) (q := m.1 0 (i + 1)) rfl dL_law_733 dL_law_734 dL_law_735 dL_law_736 dL_law_737 (by omega) hn (by rw [e0]) ?_
  refine lw_rd (j := 2) (q := m.1 0 (i + 2)) rfl dL_law_738 dL_law_739 dL_law_740 dL_law_741 dL_law_742 (by omega) hn (by rw [e0]) ?_
  refine lw_rd (j := 3) (q := m.1 0 (i + 3)) rfl dL_law_743 dL_law_744 dL_law_745 dL_law_746 dL_law_747 (by omega) hn (by rw [e0]) ?_
  refine wp_callV mb_232 (k' := kX11_cover) (r := [.int _]) rfl lm_15_81 rfl m0_82 (by decide) (Nat.le_of_ble_eq_true rfl) dL_law_748 (sp_cI (m_cover hX (mI_class hX f1 hM) (fun m2 f2 g2 => ?_)))
  refine wp_icmp_eq mb_232 (t := 1489) ⟨rfl, rfl⟩ dL_law_751 ⟨fun _ => ?_, fun c => absurd rfl c⟩
  exact hk _ m2 (hX) (cI_model (hX) f2 g1) g2
set_option maxRecDepth 100000 in
theorem lw_case_16 {d sn i : Nat} {X : GS} {m : mm_Mem} {Q : Option Value → mm_Mem → Prop} (hn : sn ≤ 3072) (hi : i + 6 ≤ sn) (hX : okX X) (hC : cI X m) (hM : mI X m) (hk : lwK (d + 40) sn i Q) : mm_wp (d + 40) sn 232 756 (lwL i) [] m Q := by
  refine wp_aload_n mb_232 rfl dL_law_756 ?_
  refine lw_rd (j := 1) (q := m.1 0 (i + 1)) rfl dL_law_757 dL_law_758 dL_law_759 dL_law_760 dL_law_761 (by omega) hn rfl ?_
  refine lw_rd (j := 2) (q := m.1 0 (i + 2)) rfl dL_law_762 dL_law_763 dL_law_764 dL_law_765 dL_law_766 (by omega) hn rfl ?_
  refine wp_callV mb_232 (k' := kX10_choose) (r := []) rfl lm_15_82 rfl m0_1 (by decide) (Nat.le_of_ble_eq_true rfl) dL_law_767 (sp_cI (c_choose hX hC (fun m1 f1 g1 => ?_)))
  have e0 : m1.1 0 = m.1 0 := f1.i (by omega)
  refine wp_aload_n mb_232 rfl dL_law_770 ?_
  refine lw_rd (j := 1) (q := m.1 0 (i + 1)) rfl dL_law_771 dL_law_772 dL_law_773 dL_law_774 dL_law_775 (by omega) hn (by rw [e0]) ?_
  refine lw_rd (j := 2) (q := m.1 0 (i + 2)) rfl dL_law_776 dL_law_777 dL_law_778 dL_law_779 dL_law_780 (by omega) hn (by rw [e0]) ?_
  refine wp_callV mb_232 (k' := kX11_choose) (r := [.int _]) rfl lm_15_85 rfl m0_82 (by decide) (Nat.le_of_ble_eq_true rfl) dL_law_781 (sp_cI (m_choose hX (mI_class hX f1 hM) (fun m2 f2 g2 => ?_)))
  refine wp_icmp_eq mb_232 (t := 1489) ⟨rfl, rfl⟩ dL_law_784 ⟨fun _ => ?_, fun c => absurd rfl c⟩
  exact hk _ m2 (okX_S hX (okS_choose hX.1)) (cI_model (okX_S hX (okS_choose hX.1)) (fz83 f2) g1) g2
set_option maxRecDepth 100000 in
theorem lw_case_17 {d sn i : Nat} {X : GS} {m : mm_Mem} {Q : Option Value → mm_Mem → Prop} (hn : sn ≤ 3072) (hi : i + 6 ≤ sn) (hX : okX X) (hC : cI X m) (hM : mI X m) (hk : lwK (d + 40) sn i Q) : mm_wp (d + 40) sn 232 789 (lwL i) [] m Q := by
  refine wp_aload_n mb_232 rfl dL_law_789 ?_
  refine lw_rd (j := 1) (q := m.1 0 (i + 1)) rfl dL_law_790 dL_law_791 dL_law_792 dL_law_793 dL_law_794 (by omega) hn rfl ?_
  refine wp_callV mb_232 (k' := kX10_block) (r := []) rfl lm_15_86 rfl m0_1 (by decide) (Nat.le_of_ble_eq_true rfl) dL_law_795 (sp_cI (c_block hX hC (fun m1 f1 g1 => ?_)))
  have e0 : m1.1 0 = m.1 0 := f1.i (by omega)
  refine wp_aload_n mb_232 rfl dL_law_798 ?_
  refine lw_rd (j := 1) (q := m.1 0 (i + 1)) rfl dL_law_799 dL_law_800 dL_law_801 dL_law_802 dL_law_803 (by omega) hn (by rw [e0]) ?_
  refine wp_callV mb_232 (k' := kX11_block) (r := [.int _]) rfl lm_15_89 rfl m0_82 (by decide) (Nat.le_of_ble_eq_true rfl) dL_law_804 (sp_cI (m_block hX (mI_class hX f1 hM) (fun m2 f2 g2 => ?_)))
  refine wp_icmp_eq mb_232 (t := 1489) ⟨rfl, rfl⟩ dL_law_807 ⟨fun _ => ?_, fun c => absurd rfl c⟩
  exact hk _ m2 (okX_S hX (okS_block hX.1)) (cI_model (okX_S hX (okS_block hX.1)) (fz83 f2) g1) g2
set_option maxRecDepth 100000 in
theorem lw_case_18 {d sn i : Nat} {X : GS} {m : mm_Mem} {Q : Option Value → mm_Mem → Prop} (hn : sn ≤ 3072) (hi : i + 6 ≤ sn) (hX : okX X) (hC : cI X m) (hM : mI X m) (hk : lwK (d + 40) sn i Q) : mm_wp (d + 40) sn 232 812 (lwL i) [] m Q := by
  refine wp_aload_n mb_232 rfl dL_law_812 ?_
  refine lw_rd (j := 1) (q := m.1 0 (i + 1)) rfl dL_law_813 dL_law_814 dL_law_815 dL_law_816 dL_law_817 (by omega) hn rfl ?_
  refine wp_callV mb_232 (k' := kX10_blockOf) (r := []) rfl lm_15_90 rfl m0_1 (by decide) (Nat.le_of_ble_eq_true rfl) dL_law_818 (sp_cI (c_blockOf hC (fun m1 f1 g1 => ?_)))
  have e0 : m1.1 0 = m.1 0 := f1.i (by omega)
  refine wp_aload_n mb_232 rfl dL_law_821 ?_
  refine lw_rd (j := 1) (q := m.1 0 (i + 1)) rfl dL_law_822 dL_law_823 dL_law_824 dL_law_825 dL_law_826 (by omega) hn (by rw [e0]) ?_
  refine wp_callV mb_232 (k' := kX11_blockOf) (r := [.int _]) rfl lm_15_93 rfl m0_82 (by decide) (Nat.le_of_ble_eq_true rfl) dL_law_827 (sp_cI (m_blockOf (mI_class hX f1 hM) (fun m2 f2 g2 => ?_)))
  refine wp_icmp_eq mb_232 (t := 1489) ⟨rfl, rfl⟩ dL_law_830 ⟨fun _ => ?_, fun c => absurd rfl c⟩
  exact hk _ m2 (hX) (cI_model (hX) f2 g1) g2
set_option maxRecDepth 100000 in
theorem lw_case_19 {d sn i : Nat} {X : GS} {m : mm_Mem} {Q : Option Value → mm_Mem → Prop} (hn : sn ≤ 3072) (hi : i + 6 ≤ sn) (hX : okX X) (hC : cI X m) (hM : mI X m) (hk : lwK (d + 40) sn i Q) : mm_wp (d + 40) sn 232 835 (lwL i) [] m Q := by
  refine wp_aload_n mb_232 rfl dL_law_835 ?_
  refine lw_rd (j := 1) (q := m.1 0 (i + 1)) rfl dL_law_836 dL_law_837 dL_law_838 dL_law_839 dL_law_840 (by omega) hn rfl ?_
  refine wp_callV mb_232 (k' := kX10_blocks) (r := []) rfl lm_15_94 rfl m0_1 (by decide) (Nat.le_of_ble_eq_true rfl) dL_law_841 (sp_cI (c_blocks hX hC (fun m1 f1 g1 => ?_)))
  have e0 : m1.1 0 = m.1 0 := f1.i (by omega)
  refine wp_aload_n mb_232 rfl dL_law_844 ?_
  refine lw_rd (j := 1) (q := m.1 0 (i + 1)) rfl dL_law_845 dL_law_846 dL_law_847 dL_law_848 dL_law_849 (by omega) hn (by rw [e0]) ?_
  refine wp_callV mb_232 (k' := kX11_blocks) (r := [.int _]) rfl lm_15_97 rfl m0_82 (by decide) (Nat.le_of_ble_eq_true rfl) dL_law_850 (sp_cI (m_blocks hX (mI_class hX f1 hM) (fun m2 f2 g2 => ?_)))
  refine wp_icmp_eq mb_232 (t := 1489) ⟨rfl, rfl⟩ dL_law_853 ⟨fun _ => ?_, fun c => absurd rfl c⟩
  exact hk _ m2 (hX) (cI_model (hX) f2 g1) g2
set_option maxRecDepth 100000 in
theorem lw_case_20 {d sn i : Nat} {X : GS} {m : mm_Mem} {Q : Option Value → mm_Mem → Prop} (hn : sn ≤ 3072) (hi : i + 6 ≤ sn) (hX : okX X) (hC : cI X m) (hM : mI X m) (hk : lwK (d + 40) sn i Q) : mm_wp (d + 40) sn 232 858 (lwL i) [] m Q := by
  refine wp_aload_n mb_232 rfl dL_law_858 ?_
  refine lw_rd (j := 1) (q := m.1 0 (i + 1)) rfl dL_law_859 dL_law_860 dL_law_861 dL_law_862 dL_law_863 (by omega) hn rfl ?_
  refine wp_callV mb_232 (k' := kX10_share) (r := []) rfl lm_15_98 rfl m0_1 (by decide) (Nat.le_of_ble_eq_true rfl) dL_law_864 (sp_cI (c_share hX hC (fun m1 f1 g1 => ?_)))
  have e0 : m1.1 0 = m.1 0 := f1.i (by omega)
  refine wp_aload_n mb_232 rfl dL_law_867 ?_
  refine lw_rd (j := 1) (q := m.1 0 (i + 1)) rfl dL_law_868 dL_law_869 dL_law_870 dL_law_871 dL_law_872 (by omega) hn (by rw [e0]) ?_
  refine wp_callV mb_232 (k' := kX11_share) (r := [.int _]) rfl lm_15_101 rfl m0_82 (by decide) (Nat.le_of_ble_eq_true rfl) dL_law_873 (sp_cI (m_share hX (mI_class hX f1 hM) (fun m2 f2 g2 => ?_)))
  refine wp_icmp_eq mb_232 (t := 1489) ⟨rfl, rfl⟩ dL_law_876 ⟨fun _ => ?_, fun c => absurd rfl c⟩
  exact hk _ m2 (hX) (cI_model (hX) f2 g1) g2
set_option maxRecDepth 100000 in
theorem lw_case_21 {d sn i : Nat} {X : GS} {m : mm_Mem} {Q : Option Value → mm_Mem → Prop} (hn : sn ≤ 3072) (hi : i + 6 ≤ sn) (hX : okX X) (hC : cI X m) (hM : mI X m) (hk : lwK (d + 40) sn i Q) : mm_wp (d + 40) sn 232 881 (lwL i) [] m Q := by
  refine wp_aload_n mb_232 rfl dL_law_881 ?_
  refine lw_rd (j := 1) (q := m.1 0 (i + 1)) rfl dL_law_882 dL_law_883 dL_law_884 dL_law_885 dL_law_886 (by omega) hn rfl ?_
  refine lw_rd (j := 2) (q := m.1 0 (i + 2)) rfl dL_law_887 dL_law_888 dL_law_889 dL_law_890 dL_law_891 (by omega) hn rfl ?_
  refine wp_callV mb_232 (k' := kX10_meets) (r := []) rfl lm_15_102 rfl m0_1 (by decide) (Nat.le_of_ble_eq_true rfl) dL_law_892 (sp_cI (c_meets hX hC (fun m1 f1 g1 => ?_)))
  have e0 : m1.1 0 = m.1 0 := f1.i (by omega)
  refine wp_aload_n mb_232 rfl dL_law_895 ?_
  refine lw_rd (j := 1) (q := m.1 0 (i + 1)) rfl dL_law_896 dL_law_897 dL_law_898 dL_law_899 dL_law_900 (by omega) hn (by rw [e0]) ?_
  refine lw_rd (j := 2) (q := m.1 0 (i + 2)) rfl dL_law_901 dL_law_902 dL_law_903 dL_law_904 dL_law_905 (by omega) hn (by rw [e0]) ?_
  refine wp_callV mb_232 (k' := kX11_meets) (r := [.int _]) rfl lm_15_105 rfl m0_82 (by decide) (Nat.le_of_ble_eq_true rfl) dL_law_906 (sp_cI (m_meets hX (mI_class hX f1 hM) (fun m2 f2 g2 => ?_)))
  refine wp_icmp_eq mb_232 (t := 1489) ⟨rfl, rfl⟩ dL_law_909 ⟨fun _ => ?_, fun c => absurd rfl c⟩
  exact hk _ m2 (hX) (cI_model (hX) f2 g1) g2
set_option maxRecDepth 100000 in
theorem lw_case_22 {d sn i : Nat} {X : GS} {m : mm_Mem} {Q : Option Value → mm_Mem → Prop} (hn : sn ≤ 3072) (hi : i + 6 ≤ sn) (hX : okX X) (hC : cI X m) (hM : mI X m) (hk : lwK (d + 40) sn i Q) : mm_wp (d + 40) sn 232 914 (lwL i) [] m Q := by
  refine wp_aload_n mb_232 rfl dL_law_914 ?_
  refine wp_callV mb_232 (k' := kX10_turned) (r := []) rfl lm_15_106 rfl m0_1 (by decide) (Nat.le_of_ble_eq_true rfl) dL_law_915 (sp_cI (c_turned hX hC (fun m1 f1 g1 => ?_)))
  have e0 : m1.1 0 = m.1 0 := f1.i (by omega)
  refine wp_aload_n mb_232 rfl dL_law_918 ?_
  refine wp_callV mb_232 (k' := kX11_turned) (r := [.int _]) rfl lm_15_109 rfl m0_82 (by decide) (Nat.le_of_ble_eq_true rfl) dL_law_919 (sp_cI (m_turned hX (mI_class hX f1 hM) (fun m2 f2 g2 => ?_)))
  refine wp_icmp_eq mb_232 (t := 1489) ⟨rfl, rfl⟩ dL_law_922 ⟨fun _ => ?_, fun c => absurd rfl c⟩
  exact hk _ m2 (okX_S hX (okS_turned hX.1)) (cI_model (okX_S hX (okS_turned hX.1)) f2 g1) g2
set_option maxRecDepth 100000 in
theorem lw_case_23 {d sn i : Nat} {X : GS} {m : mm_Mem} {Q : Option Value → mm_Mem → Prop} (hn : sn ≤ 3072) (hi : i + 6 ≤ sn) (hX : okX X) (hC : cI X m) (hM : mI X m) (hk : lwK (d + 40) sn i Q) : mm_wp (d + 40) sn 232 927 (lwL i) [] m Q := by
  refine wp_aload_n mb_232 rfl dL_law_927 ?_
  refine lw_rd (j := 1) (q := m.1 0 (i + 1)) rfl dL_law_928 dL_law_929 dL_law_930 dL_law_931 dL_law_932 (by omega) hn rfl ?_
  refine lw_rd (j := 2) (q := m.1 0 (i + 2)) rfl dL_law_933 dL_law_934 dL_law_935 dL_law_936 dL_law_937 (by omega) hn rfl ?_
  refine wp_callV mb_232 (k' := kX10_parted) (r := []) rfl lm_15_110 rfl m0_1 (by decide) (Nat.le_of_ble_eq_true rfl) dL_law_938 (sp_cI (c_parted hX hC (fun m1 f1 g1 => ?_)))
  have e0 : m1.1 0 = m.1 0 := f1.i (by omega)
  refine wp_aload_n mb_232 rfl dL_law_941 ?_
  refine lw_rd (j := 1) (q := m.1 0 (i + 1)) rfl dL_law_942 dL_law_943 dL_law_944 dL_law_945 dL_law_946 (by omega) hn (by rw [e0]) ?_
  refine lw_rd (j := 2) (q := m.1 0 (i + 2)) rfl dL_law_947 dL_law_948 dL_law_949 dL_law_950 dL_law_951 (by omega) hn (by rw [e0]) ?_
  refine wp_callV mb_232 (k' := kX11_parted) (r := [.int _]) rfl lm_15_113 rfl m0_82 (by decide) (Nat.le_of_ble_eq_true rfl) dL_law_952 (sp_cI (m_parted hX (mI_class hX f1 hM) (fun m2 f2 g2 => ?_)))
  refine wp_icmp_eq mb_232 (t := 1489) ⟨rfl, rfl⟩ dL_law_955 ⟨fun _ => ?_, fun c => absurd rfl c⟩
  exact hk _ m2 (hX) (cI_model (hX) f2 g1) g2
set_option maxRecDepth 100000 in
theorem lw_case_24 {d sn i : Nat} {X : GS} {m : mm_Mem} {Q : Option Value → mm_Mem → Prop} (hn : sn ≤ 3072) (hi : i + 6 ≤ sn) (hX : okX X) (hC : cI X m) (hM : mI X m) (hk : lwK (d + 40) sn i Q) : mm_wp (d + 40) sn 232 960 (lwL i) [] m Q := by
  refine wp_aload_n mb_232 rfl dL_law_960 ?_
  refine wp_callV mb_232 (k' := kX10_keep) (r := []) rfl lm_15_114 rfl m0_1 (by decide) (Nat.le_of_ble_eq_true rfl) dL_law_961 (sp_cI (c_keep hX hC (fun m1 f1 g1 => ?_)))
  have e0 : m1.1 0 = m.1 0 := f1.i (by omega)
  refine wp_aload_n mb_232 rfl dL_law_964 ?_
  refine wp_callV mb_232 (k' := kX11_keep) (r := [.int _]) rfl lm_15_117 rfl m0_82 (by decide) (Nat.le_of_ble_eq_true rfl) dL_law_965 (sp_cI (m_keep hX (mI_class hX f1 hM) (fun m2 f2 g2 => ?_)))
  refine wp_icmp_eq mb_232 (t := 1489) ⟨rfl, rfl⟩ dL_law_968 ⟨fun _ => ?_, fun c => absurd rfl c⟩
  exact hk _ m2 (okX_S hX (okS_keep hX.1)) (cI_model (okX_S hX (okS_keep hX.1)) f2 g1) g2
set_option maxRecDepth 100000 in
theorem lw_case_25 {d sn i : Nat} {X : GS} {m : mm_Mem} {Q : Option Value → mm_Mem → Prop} (hn : sn ≤ 3072) (hi : i + 6 ≤ sn) (hX : okX X) (hC : cI X m) (hM : mI X m) (hk : lwK (d + 40) sn i Q) : mm_wp (d + 40) sn 232 973 (lwL i) [] m Q := by
  refine wp_aload_n mb_232 rfl dL_law_973 ?_
  refine lw_rd (j := 1) (q := m.1 0 (i + 1)) rfl dL_law_974 dL_law_975 dL_law_976 dL_law_977 dL_law_978 (by omega) hn rfl ?_
  refine lw_rd (j := 2) (q := m.1 0 (i + 2)) rfl dL_law_979 dL_law_980 dL_law_981 dL_law_982 dL_law_983 (by omega) hn rfl ?_
  refine wp_callV mb_232 (k' := kX10_design) (r := []) rfl lm_15_118 rfl m0_1 (by decide) (Nat.le_of_ble_eq_true rfl) dL_law_984 (sp_cI (c_design hX hC (fun m1 f1 g1 => ?_)))
  have e0 : m1.1 0 = m.1 0 := f1.i (by omega)
  refine wp_aload_n mb_232 rfl dL_law_987 ?_
  refine lw_rd (j := 1) (q := m.1 0 (i + 1)) rfl dL_law_988 dL_law_989 dL_law_990 dL_law_991 dL_law_992 (by omega) hn (by rw [e0]) ?_
  refine lw_rd (j := 2) (q := m.1 0 (i + 2)) rfl dL_law_993 dL_law_994 dL_law_995 dL_law_996 dL_law_997 (by omega) hn (by rw [e0]) ?_
  refine wp_callV mb_232 (k' := kX11_design) (r := [.int _]) rfl lm_15_121 rfl m0_82 (by decide) (Nat.le_of_ble_eq_true rfl) dL_law_998 (sp_cI (m_design hX (mI_class hX f1 hM) (fun m2 f2 g2 => ?_)))
  refine wp_icmp_eq mb_232 (t := 1489) ⟨rfl, rfl⟩ dL_law_1001 ⟨fun _ => ?_, fun c => absurd rfl c⟩
  exact hk _ m2 (hX) (cI_model (hX) f2 g1) g2
set_option maxRecDepth 100000 in
theorem lw_case_26 {d sn i : Nat} {X : GS} {m : mm_Mem} {Q : Option Value → mm_Mem → Prop} (hn : sn ≤ 3072) (hi : i + 6 ≤ sn) (hX : okX X) (hC : cI X m) (hM : mI X m) (hk : lwK (d + 40) sn i Q) : mm_wp (d + 40) sn 232 1006 (lwL i) [] m Q := by
  refine wp_aload_n mb_232 rfl dL_law_1006 ?_
  refine lw_rd (j := 1) (q := m.1 0 (i + 1)) rfl dL_law_1007 dL_law_1008 dL_law_1009 dL_law_1010 dL_law_1011 (by omega) hn rfl ?_
  refine lw_rd (j := 2) (q := m.1 0 (i + 2)) rfl dL_law_1012 dL_law_1013 dL_law_1014 dL_law_1015 dL_law_1016 (by omega) hn rfl ?_
  refine wp_callV mb_232 (k' := kX10_alike) (r := []) rfl lm_15_122 rfl m0_1 (by decide) (Nat.le_of_ble_eq_true rfl) dL_law_1017 (sp_cI (c_alike hX hC (fun m1 f1 g1 => ?_)))
  have e0 : m1.1 0 = m.1 0 := f1.i (by omega)
  refine wp_aload_n mb_232 rfl dL_law_1020 ?_
  refine lw_rd (j := 1) (q := m.1 0 (i + 1)) rfl dL_law_1021 dL_law_1022 dL_law_1023 dL_law_1024 dL_law_1025 (by omega) hn (by rw [e0]) ?_
  refine lw_rd (j := 2) (q := m.1 0 (i + 2)) rfl dL_law_1026 dL_law_1027 dL_law_1028 dL_law_1029 dL_law_1030 (by omega) hn (by rw [e0]) ?_
  refine wp_callV mb_232 (k' := kX11_alike) (r := [.int _]) rfl lm_15_125 rfl m0_82 (by decide) (Nat.le_of_ble_eq_true rfl) dL_law_1031 (sp_cI (m_alike hX (mI_class hX f1 hM) (fun m2 f2 g2 => ?_)))
  refine wp_icmp_eq mb_232 (t := 1489) ⟨rfl, rfl⟩ dL_law_1034 ⟨fun _ => ?_, fun c => absurd rfl c⟩
  exact hk _ m2 (hX) (cI_model (hX) f2 g1) g2
set_option maxRecDepth 100000 in
theorem lw_case_27 {d sn i : Nat} {X : GS} {m : mm_Mem} {Q : Option Value → mm_Mem → Prop} (hn : sn ≤ 3072) (hi : i + 6 ≤ sn) (hX : okX X) (hC : cI X m) (hM : mI X m) (hk : lwK (d + 40) sn i Q) : mm_wp (d + 40) sn 232 1039 (lwL i) [] m Q := by
  refine wp_aload_n mb_232 rfl dL_law_1039 ?_
  refine lw_rd (j := 1) (q := m.1 0 (i + 1)) rfl dL_law_1040 dL_law_1041 dL_law_1042 dL_law_1043 dL_law_1044 (by omega) hn rfl ?_
  refine wp_callV mb_232 (k' := kX10_selves) (r := []) rfl lm_15_126 rfl m0_1 (by decide) (Nat.le_of_ble_eq_true rfl) dL_law_1045 (sp_cI (c_selves hX hC (fun m1 f1 g1 => ?_)))
  have e0 : m1.1 0 = m.1 0 := f1.i (by omega)
  refine wp_aload_n mb_232 rfl dL_law_1048 ?_
  refine lw_rd (j := 1) (q := m.1 0 (i + 1)) rfl dL_law_1049 dL_law_1050 dL_law_1051 dL_law_1052 dL_law_1053 (by omega) hn (by rw [e0]) ?_
  refine wp_callV mb_232 (k' := kX11_selves) (r := [.int _]) rfl lm_15_129 rfl m0_82 (by decide) (Nat.le_of_ble_eq_true rfl) dL_law_1054 (sp_cI (m_selves hX (mI_class hX f1 hM) (fun m2 f2 g2 => ?_)))
  refine wp_icmp_eq mb_232 (t := 1489) ⟨rfl, rfl⟩ dL_law_1057 ⟨fun _ => ?_, fun c => absurd rfl c⟩
  exact hk _ m2 (hX) (cI_model (hX) f2 g1) g2
set_option maxRecDepth 100000 in
theorem lw_case_28 {d sn i : Nat} {X : GS} {m : mm_Mem} {Q : Option Value → mm_Mem → Prop} (hn : sn ≤ 3072) (hi : i + 6 ≤ sn) (hX : okX X) (hC : cI X m) (hM : mI X m) (hk : lwK (d + 40) sn i Q) : mm_wp (d + 40) sn 232 1062 (lwL i) [] m Q := by
  refine wp_aload_n mb_232 rfl dL_law_1062 ?_
  refine lw_rd (j := 1) (q := m.1 0 (i + 1)) rfl dL_law_1063 dL_law_1064 dL_law_1065 dL_law_1066 dL_law_1067 (by omega) hn rfl ?_
  refine lw_rd (j := 2) (q := m.1 0 (i + 2)) rfl dL_law_1068 dL_law_1069 dL_law_1070 dL_law_1071 dL_law_1072 (by omega) hn rfl ?_
  refine lw_rd (j := 3) (q := m.1 0 (i + 3)) rfl dL_law_1073 dL_law_1074 dL_law_1075 dL_law_1076 dL_law_1077 (by omega) hn rfl ?_
  refine wp_callV mb_232 (k' := kX10_unlike) (r := []) rfl lm_15_130 rfl m0_1 (by decide) (Nat.le_of_ble_eq_true rfl) dL_law_1078 (sp_cI (c_unlike hX hC (fun m1 f1 g1 => ?_)))
  have e0 : m1.1 0 = m.1 0 := f1.i (by omega)
  refine wp_aload_n mb_232 rfl dL_law_1081 ?_
  refine lw_rd (j := 1) (q := m.1 0 (i + 1)) rfl dL_law_1082 dL_law_1083 dL_law_1084 dL_law_1085 dL_law_1086 (by omega) hn (by rw [e0]) ?_
  refine lw_rd (j := 2) (q := m.1 0 (i + 2)) rfl dL_law_1087 dL_law_1088 dL_law_1089 dL_law_1090 dL_law_1091 (by omega) hn (by rw [e0]) ?_
  refine lw_rd (j := 3) (q := m.1 0 (i + 3)) rfl dL_law_1092 dL_law_1093 dL_law_1094 dL_law_1095 dL_law_1096 (by omega) hn (by rw [e0]) ?_
  refine wp_callV mb_232 (k' := kX11_unlike) (r := [.int _]) rfl lm_15_133 rfl m0_82 (by decide) (Nat.le_of_ble_eq_true rfl) dL_law_1097 (sp_cI (m_unlike hX (mI_class hX f1 hM) (fun m2 f2 g2 => ?_)))
  refine wp_icmp_eq mb_232 (t := 1489) ⟨rfl, rfl⟩ dL_law_1100 ⟨fun _ => ?_, fun c => absurd rfl c⟩
  exact hk _ m2 (hX) (cI_model (hX) f2 g1) g2
set_option maxRecDepth 100000 in
theorem lw_case_29 {d sn i : Nat} {X : GS} {m : mm_Mem} {Q : Option Value → mm_Mem → Prop} (hn : sn ≤ 3072) (hi : i + 6 ≤ sn) (hX : okX X) (hC : cI X m) (hM : mI X m) (hk : lwK (d + 40) sn i Q) : mm_wp (d + 40) sn 232 1105 (lwL i) [] m Q := by
  refine wp_aload_n mb_232 rfl dL_law_1105 ?_
  refine lw_rd (j := 1) (q := m.1 0 (i + 1)) rfl dL_law_1106 dL_law_1107 dL_law_1108 dL_law_1109 dL_law_1110 (by omega) hn rfl ?_
  refine lw_rd (j := 2) (q := m.1 0 (i + 2)) rfl dL_law_1111 dL_law_1112 dL_law_1113 dL_law_1114 dL_law_1115 (by omega) hn rfl ?_
  refine lw_rd (j := 3) (q := m.1 0 (i + 3)) rfl dL_law_1116 dL_law_1117 dL_law_1118 dL_law_1119 dL_law_1120 (by omega) hn rfl ?_
  refine lw_rd (j := 4) (q := m.1 0 (i + 4)) rfl dL_law_1121 dL_law_1122 dL_law_1123 dL_law_1124 dL_law_1125 (by omega) hn rfl ?_
  refine wp_callV mb_232 (k' := kX10_lots) (r := []) rfl lm_15_134 rfl m0_1 (by decide) (Nat.le_of_ble_eq_true rfl) dL_law_1126 (sp_cI (c_lots hX hC (fun m1 f1 g1 => ?_)))
  have e0 : m1.1 0 = m.1 0 := f1.i (by omega)
  refine wp_aload_n mb_232 rfl dL_law_1129 ?_
  refine lw_rd (j := 1) (q := m.1 0 (i + 1)) rfl dL_law_1130 dL_law_1131 dL_law_1132 dL_law_1133 dL_law_1134 (by omega) hn (by rw [e0]) ?_
  refine lw_rd (j := 2) (q := m.1 0 (i + 2)) rfl dL_law_1135 dL_law_1136 dL_law_1137 dL_law_1138 dL_law_1139 (by omega) hn (by rw [e0]) ?_
  refine lw_rd (j := 3) (q := m.1 0 (i + 3)) rfl dL_law_1140 dL_law_1141 dL_law_1142 dL_law_1143 dL_law_1144 (by omega) hn (by rw [e0]) ?_
  refine lw_rd (j := 4) (q := m.1 0 (i + 4)) rfl dL_law_1145 dL_law_1146 dL_law_1147 dL_law_1148 dL_law_1149 (by omega) hn (by rw [e0]) ?_
  refine wp_callV mb_232 (k' := kX11_lots) (r := [.int _]) rfl lm_15_137 rfl m0_82 (by decide) (Nat.le_of_ble_eq_true rfl) dL_law_1150 (sp_cI (m_lots hX (mI_class hX f1 hM) (fun m2 f2 g2 => ?_)))
  refine wp_icmp_eq mb_232 (t := 1489) ⟨rfl, rfl⟩ dL_law_1153 ⟨fun _ => ?_, fun c => absurd rfl c⟩
  exact hk _ m2 (hX) (cI_model (hX) f2 g1) g2
set_option maxRecDepth 100000 in
theorem lw_case_30 {d sn i : Nat} {X : GS} {m : mm_Mem} {Q : Option Value → mm_Mem → Prop} (hn : sn ≤ 3072) (hi : i + 6 ≤ sn) (hX : okX X) (hC : cI X m) (hM : mI X m) (hk : lwK (d + 40) sn i Q) : mm_wp (d + 40) sn 232 1158 (lwL i) [] m Q := by
  refine wp_aload_n mb_232 rfl dL_law_1158 ?_
  refine lw_rd (j := 1) (q := m.1 0 (i + 1)) rfl dL_law_1159 dL_law_1160 dL_law_1161 dL_law_1162 dL_law_1163 (by omega) hn rfl ?_
  refine wp_callV mb_232 (k' := kX10_feed) (r := []) rfl lm_15_138 rfl m0_1 (by decide) (Nat.le_of_ble_eq_true rfl) dL_law_1164 (sp_cI (c_feed hX hC (fun m1 f1 g1 => ?_)))
  have e0 : m1.1 0 = m.1 0 := f1.i (by omega)
  refine wp_aload_n mb_232 rfl dL_law_1167 ?_
  refine lw_rd (j := 1) (q := m.1 0 (i + 1)) rfl dL_law_1168 dL_law_1169 dL_law_1170 dL_law_1171 dL_law_1172 (by omega) hn (by rw [e0]) ?_
  refine wp_callV mb_232 (k' := kX11_feed) (r := [.int _]) rfl lm_15_141 rfl m0_82 (by decide) (Nat.le_of_ble_eq_true rfl) dL_law_1173 (sp_cI (m_feed hX (mI_class hX f1 hM) (fun m2 f2 g2 => ?_)))
  refine wp_icmp_eq mb_232 (t := 1489) ⟨rfl, rfl⟩ dL_law_1176 ⟨fun _ => ?_, fun c => absurd rfl c⟩
  exact hk _ m2 (okX_feed hX) (cI_model (okX_feed hX) f2 g1) g2
set_option maxRecDepth 100000 in
theorem lw_case_31 {d sn i : Nat} {X : GS} {m : mm_Mem} {Q : Option Value → mm_Mem → Prop} (hn : sn ≤ 3072) (hi : i + 6 ≤ sn) (hX : okX X) (hC : cI X m) (hM : mI X m) (hk : lwK (d + 40) sn i Q) : mm_wp (d + 40) sn 232 1181 (lwL i) [] m Q := by
  refine wp_aload_n mb_232 rfl dL_law_1181 ?_
  refine wp_callV mb_232 (k' := kX10_read) (r := []) rfl lm_15_142 rfl m0_1 (by decide) (Nat.le_of_ble_eq_true rfl) dL_law_1182 (sp_cI (c_read hX hC (fun m1 f1 g1 => ?_)))
  have e0 : m1.1 0 = m.1 0 := f1.i (by omega)
  refine wp_aload_n mb_232 rfl dL_law_1185 ?_
  refine wp_callV mb_232 (k' := kX11_read) (r := [.int _]) rfl lm_15_145 rfl m0_82 (by decide) (Nat.le_of_ble_eq_true rfl) dL_law_1186 (sp_cI (m_read hX (mI_class hX f1 hM) (fun m2 f2 g2 => ?_)))
  refine wp_icmp_eq mb_232 (t := 1489) ⟨rfl, rfl⟩ dL_law_1189 ⟨fun _ => ?_, fun c => absurd rfl c⟩
  exact hk _ m2 (okX_read hX) (cI_model (okX_read hX) f2 g1) g2
set_option maxRecDepth 100000 in
theorem lw_case_32 {d sn i : Nat} {X : GS} {m : mm_Mem} {Q : Option Value → mm_Mem → Prop} (hn : sn ≤ 3072) (hi : i + 6 ≤ sn) (hX : okX X) (hC : cI X m) (hM : mI X m) (hk : lwK (d + 40) sn i Q) : mm_wp (d + 40) sn 232 1194 (lwL i) [] m Q := by
  refine wp_aload_n mb_232 rfl dL_law_1194 ?_
  refine lw_rd (j := 1) (q := m.1 0 (i + 1)) rfl dL_law_1195 dL_law_1196 dL_law_1197 dL_law_1198 dL_law_1199 (by omega) hn rfl ?_
  refine lw_rd (j := 2) (q := m.1 0 (i + 2)) rfl dL_law_1200 dL_law_1201 dL_law_1202 dL_law_1203 dL_law_1204 (by omega) hn rfl ?_
  refine wp_callV mb_232 (k' := kX10_judge) (r := []) rfl lm_15_146 rfl m0_1 (by decide) (Nat.le_of_ble_eq_true rfl) dL_law_1205 (sp_cI (c_judge hX hC (fun m1 f1 g1 => ?_)))
  have e0 : m1.1 0 = m.1 0 := f1.i (by omega)
  refine wp_aload_n mb_232 rfl dL_law_1208 ?_
  refine lw_rd (j := 1) (q := m.1 0 (i + 1)) rfl dL_law_1209 dL_law_1210 dL_law_1211 dL_law_1212 dL_law_1213 (by omega) hn (by rw [e0]) ?_
  refine lw_rd (j := 2) (q := m.1 0 (i + 2)) rfl dL_law_1214 dL_law_1215 dL_law_1216 dL_law_1217 dL_law_1218 (by omega) hn (by rw [e0]) ?_
  refine wp_callV mb_232 (k' := kX11_judge) (r := [.int _]) rfl lm_15_149 rfl m0_82 (by decide) (Nat.le_of_ble_eq_true rfl) dL_law_1219 (sp_cI (m_judge hX (mI_class hX f1 hM) (fun m2 f2 g2 => ?_)))
  refine wp_icmp_eq mb_232 (t := 1489) ⟨rfl, rfl⟩ dL_law_1222 ⟨fun _ => ?_, fun c => absurd rfl c⟩
  exact hk _ m2 (hX) (cI_model (hX) f2 g1) g2
set_option maxRecDepth 100000 in
theorem lw_case_33 {d sn i : Nat} {X : GS} {m : mm_Mem} {Q : Option Value → mm_Mem → Prop} (hn : sn ≤ 3072) (hi : i + 6 ≤ sn) (hX : okX X) (hC : cI X m) (hM : mI X m) (hk : lwK (d + 40) sn i Q) : mm_wp (d + 40) sn 232 1227 (lwL i) [] m Q := by
  refine wp_aload_n mb_232 rfl dL_law_1227 ?_
  refine wp_callV mb_232 (k' := kX10_image) (r := []) rfl lm_15_150 rfl m0_1 (by decide) (Nat.le_of_ble_eq_true rfl) dL_law_1228 (sp_cI (c_image hX hC (fun m1 f1 g1 => ?_)))
  have e0 : m1.1 0 = m.1 0 := f1.i (by omega)
  refine wp_aload_n mb_232 rfl dL_law_1231 ?_
  refine wp_callV mb_232 (k' := kX11_image) (r := [.int _]) rfl lm_15_153 rfl m0_82 (by decide) (Nat.le_of_ble_eq_true rfl) dL_law_1232 (sp_cI (m_image hX (mI_class hX f1 hM) (fun m2 f2 g2 => ?_)))
  refine wp_icmp_eq mb_232 (t := 1489) ⟨rfl, rfl⟩ dL_law_1235 ⟨fun _ => ?_, fun c => absurd rfl c⟩
  exact hk _ m2 (okX_image hX) (cI_model (okX_image hX) f2 g1) g2
set_option maxRecDepth 100000 in
theorem lw_case_34 {d sn i : Nat} {X : GS} {m : mm_Mem} {Q : Option Value → mm_Mem → Prop} (hn : sn ≤ 3072) (hi : i + 6 ≤ sn) (hX : okX X) (hC : cI X m) (hM : mI X m) (hk : lwK (d + 40) sn i Q) : mm_wp (d + 40) sn 232 1240 (lwL i) [] m Q := by
  refine wp_aload_n mb_232 rfl dL_law_1240 ?_
  refine wp_callV mb_232 (k' := kX10_undo) (r := []) rfl lm_15_154 rfl m0_1 (by decide) (Nat.le_of_ble_eq_true rfl) dL_law_1241 (sp_cI (c_undo hX hC (fun m1 f1 g1 => ?_)))
  have e0 : m1.1 0 = m.1 0 := f1.i (by omega)
  refine wp_aload_n mb_232 rfl dL_law_1244 ?_
  refine wp_callV mb_232 (k' := kX11_undo) (r := [.int _]) rfl lm_15_157 rfl m0_82 (by decide) (Nat.le_of_ble_eq_true rfl) dL_law_1245 (sp_cI (m_undo hX (mI_class hX f1 hM) (fun m2 f2 g2 => ?_)))
  refine wp_icmp_eq mb_232 (t := 1489) ⟨rfl, rfl⟩ dL_law_1248 ⟨fun _ => ?_, fun c => absurd rfl c⟩
  exact hk _ m2 (okX_S hX (okS_undo hX)) (cI_model (okX_S hX (okS_undo hX)) f2 g1) g2
set_option maxRecDepth 100000 in
theorem lw_case_35 {d sn i : Nat} {X : GS} {m : mm_Mem} {Q : Option Value → mm_Mem → Prop} (hn : sn ≤ 3072) (hi : i + 6 ≤ sn) (hX : okX X) (hC : cI X m) (hM : mI X m) (hk : lwK (d + 40) sn i Q) : mm_wp (d + 40) sn 232 1253 (lwL i) [] m Q := by
  refine wp_aload_n mb_232 rfl dL_law_1253 ?_
  refine lw_rd (j := 1) (q := m.1 0 (i + 1)) rfl dL_law_1254 dL_law_1255 dL_law_1256 dL_law_1257 dL_law_1258 (by omega) hn rfl ?_
  refine wp_callV mb_232 (k' := kX10_count) (r := []) rfl lm_15_158 rfl m0_1 (by decide) (Nat.le_of_ble_eq_true rfl) dL_law_1259 (sp_cI (c_count hC (fun m1 f1 g1 => ?_)))
  have e0 : m1.1 0 = m.1 0 := f1.i (by omega)
  refine wp_aload_n mb_232 rfl dL_law_1262 ?_
  refine lw_rd (j := 1) (q := m.1 0 (i + 1)) rfl dL_law_1263 dL_law_1264 dL_law_1265 dL_law_1266 dL_law_1267 (by omega) hn (by rw [e0]) ?_
  refine wp_callV mb_232 (k' := kX11_count) (r := [.int _]) rfl lm_15_161 rfl m0_82 (by decide) (Nat.le_of_ble_eq_true rfl) dL_law_1268 (sp_cI (m_count (mI_class hX f1 hM) (fun m2 f2 g2 => ?_)))
  refine wp_icmp_eq mb_232 (t := 1489) ⟨rfl, rfl⟩ dL_law_1271 ⟨fun _ => ?_, fun c => absurd rfl c⟩
  exact hk _ m2 (hX) (cI_model (hX) f2 g1) g2
set_option maxRecDepth 100000 in
theorem lw_case_36 {d sn i : Nat} {X : GS} {m : mm_Mem} {Q : Option Value → mm_Mem → Prop} (hn : sn ≤ 3072) (hi : i + 6 ≤ sn) (hX : okX X) (hC : cI X m) (hM : mI X m) (hk : lwK (d + 40) sn i Q) : mm_wp (d + 40) sn 232 1276 (lwL i) [] m Q := by
  refine wp_aload_n mb_232 rfl dL_law_1276 ?_
  refine lw_rd (j := 1) (q := m.1 0 (i + 1)) rfl dL_law_1277 dL_law_1278 dL_law_1279 dL_law_1280 dL_law_1281 (by omega) hn rfl ?_
  refine lw_rd (j := 2) (q := m.1 0 (i + 2)) rfl dL_law_1282 dL_law_1283 dL_law_1284 dL_law_1285 dL_law_1286 (by omega) hn rfl ?_
  refine lw_rd (j := 3) (q := m.1 0 (i + 3)) rfl dL_law_1287 dL_law_1288 dL_law_1289 dL_law_1290 dL_law_1291 (by omega) hn rfl ?_
  refine wp_callV mb_232 (k' := kX10_tape) (r := []) rfl lm_15_162 rfl m0_1 (by decide) (Nat.le_of_ble_eq_true rfl) dL_law_1292 (sp_cI (c_tape hX hC (fun m1 f1 g1 => ?_)))
  have e0 : m1.1 0 = m.1 0 := f1.i (by omega)
  refine wp_aload_n mb_232 rfl dL_law_1295 ?_
  refine lw_rd (j := 1) (q := m.1 0 (i + 1)) rfl dL_law_1296 dL_law_1297 dL_law_1298 dL_law_1299 dL_law_1300 (by omega) hn (by rw [e0]) ?_
  refine lw_rd (j := 2) (q := m.1 0 (i + 2)) rfl dL_law_1301 dL_law_1302 dL_law_1303 dL_law_1304 dL_law_1305 (by omega) hn (by rw [e0]) ?_
  refine lw_rd (j := 3) (q := m.1 0 (i + 3)) rfl dL_law_1306 dL_law_1307 dL_law_1308 dL_law_1309 dL_law_1310 (by omega) hn (by rw [e0]) ?_
  refine wp_callV mb_232 (k' := kX11_tape) (r := [.int _]) rfl lm_15_165 rfl m0_82 (by decide) (Nat.le_of_ble_eq_true rfl) dL_law_1311 (sp_cI (m_tape hX (mI_class hX f1 hM) (fun m2 f2 g2 => ?_)))
  refine wp_icmp_eq mb_232 (t := 1489) ⟨rfl, rfl⟩ dL_law_1314 ⟨fun _ => ?_, fun c => absurd rfl c⟩
  exact hk _ m2 (okX_tape hX) (cI_model (okX_tape hX) f2 g1) g2
set_option maxRecDepth 100000 in
theorem lw_case_37 {d sn i : Nat} {X : GS} {m : mm_Mem} {Q : Option Value → mm_Mem → Prop} (hn : sn ≤ 3072) (hi : i + 6 ≤ sn) (hX : okX X) (hC : cI X m) (hM : mI X m) (hk : lwK (d + 40) sn i Q) : mm_wp (d + 40) sn 232 1319 (lwL i) [] m Q := by
  refine wp_aload_n mb_232 rfl dL_law_1319 ?_
  refine lw_rd (j := 1) (q := m.1 0 (i + 1)) rfl dL_law_1320 dL_law_1321 dL_law_1322 dL_law_1323 dL_law_1324 (by omega) hn rfl ?_
  refine lw_rd (j := 2) (q := m.1 0 (i + 2)) rfl dL_law_1325 dL_law_1326 dL_law_1327 dL_law_1328 dL_law_1329 (by omega) hn rfl ?_
  refine lw_rd (j := 3) (q := m.1 0 (i + 3)) rfl dL_law_1330 dL_law_1331 dL_law_1332 dL_law_1333 dL_law_1334 (by omega) hn rfl ?_
  refine wp_i2l mb_232 dL_law_1335 ?_
  refine wp_bipush mb_232 (x := 32) rfl dL_law_1336 ?_
  refine wp_lshl mb_232 dL_law_1338 ?_
  refine lw_rd (j := 4) (q := m.1 0 (i + 4)) rfl dL_law_1339 dL_law_1340 dL_law_1341 dL_law_1342 dL_law_1343 (by omega) hn rfl ?_
  refine wp_i2l mb_232 dL_law_1344 ?_
  refine wp_ldc2 mb_232 rfl kl_15_166 dL_law_1345 ?_
  refine wp_land mb_232 dL_law_1348 ?_
  refine wp_lor mb_232 dL_law_1349 ?_
  refine wp_callV mb_232 (k' := kX10_item) (r := []) rfl lm_15_168 rfl m0_1 (by decide) (Nat.le_of_ble_eq_true rfl) dL_law_1350 (sp_cI (c_item hX hC (fun m1 f1 g1 => ?_)))
  have e0 : m1.1 0 = m.1 0 := f1.i (by omega)
  refine wp_aload_n mb_232 rfl dL_law_1353 ?_
  refine lw_rd (j := 1) (q := m.1 0 (i + 1)) rfl dL_law_1354 dL_law_1355 dL_law_1356 dL_law_1357 dL_law_1358 (by omega) hn (by rw [e0]) ?_
  refine lw_rd (j := 2) (q := m.1 0 (i + 2)) rfl dL_law_1359 dL_law_1360 dL_law_1361 dL_law_1362 dL_law_1363 (by omega) hn (by rw [e0]) ?_
  refine lw_rd (j := 3) (q := m.1 0 (i + 3)) rfl dL_law_1364 dL_law_1365 dL_law_1366 dL_law_1367 dL_law_1368 (by omega) hn (by rw [e0]) ?_
  refine wp_i2l mb_232 dL_law_1369 ?_
  refine wp_bipush mb_232 (x := 32) rfl dL_law_1370 ?_
  refine wp_lshl mb_232 dL_law_1372 ?_
  refine lw_rd (j := 4) (q := m.1 0 (i + 4)) rfl dL_law_1373 dL_law_1374 dL_law_1375 dL_law_1376 dL_law_1377 (by omega) hn (by rw [e0]) ?_
  refine wp_i2l mb_232 dL_law_1378 ?_
  refine wp_ldc2 mb_232 rfl kl_15_166 dL_law_1379 ?_
  refine wp_land mb_232 dL_law_1382 ?_
  refine wp_lor mb_232 dL_law_1383 ?_
  refine wp_callV mb_232 (k' := kX11_item) (r := [.int _]) rfl lm_15_172 rfl m0_82 (by decide) (Nat.le_of_ble_eq_true rfl) dL_law_1384 (sp_cI (m_item hX (mI_class hX f1 hM) (fun m2 f2 g2 => ?_)))
  refine wp_icmp_eq mb_232 (t := 1489) ⟨rfl, rfl⟩ dL_law_1387 ⟨fun _ => ?_, fun c => absurd rfl c⟩
  exact hk _ m2 (okX_item hX) (cI_model (okX_item hX) f2 g1) g2
set_option maxRecDepth 100000 in
theorem lw_case_38 {d sn i : Nat} {X : GS} {m : mm_Mem} {Q : Option Value → mm_Mem → Prop} (hn : sn ≤ 3072) (hi : i + 6 ≤ sn) (hX : okX X) (hC : cI X m) (hM : mI X m) (hk : lwK (d + 40) sn i Q) : mm_wp (d + 40) sn 232 1392 (lwL i) [] m Q := by
  refine wp_aload_n mb_232 rfl dL_law_1392 ?_
  refine lw_rd (j := 1) (q := m.1 0 (i + 1)) rfl dL_law_1393 dL_law_1394 dL_law_1395 dL_law_1396 dL_law_1397 (by omega) hn rfl ?_
  refine lw_rd (j := 2) (q := m.1 0 (i + 2)) rfl dL_law_1398 dL_law_1399 dL_law_1400 dL_law_1401 dL_law_1402 (by omega) hn rfl ?_
  refine wp_callV mb_232 (k' := kX10_peek) (r := []) rfl lm_15_173 rfl m0_1 (by decide) (Nat.le_of_ble_eq_true rfl) dL_law_1403 (sp_cL (c_peek hX hC (fun m1 f1 g1 => ?_)))
  have e0 : m1.1 0 = m.1 0 := f1.i (by omega)
  refine wp_aload_n mb_232 rfl dL_law_1406 ?_
  refine lw_rd (j := 1) (q := m.1 0 (i + 1)) rfl dL_law_1407 dL_law_1408 dL_law_1409 dL_law_1410 dL_law_1411 (by omega) hn (by rw [e0]) ?_
  refine lw_rd (j := 2) (q := m.1 0 (i + 2)) rfl dL_law_1412 dL_law_1413 dL_law_1414 dL_law_1415 dL_law_1416 (by omega) hn (by rw [e0]) ?_
  refine wp_callV mb_232 (k' := kX11_peek) (r := [.long _]) rfl lm_15_177 rfl m0_82 (by decide) (Nat.le_of_ble_eq_true rfl) dL_law_1417 (sp_cL (m_peek hX (mI_class hX f1 hM) (fun m2 f2 g2 => ?_)))
  refine wp_lcmp mb_232 dL_law_1420 ?_
  refine wp_if_eq mb_232 (y := 0) (t := 1489) ⟨rfl, rfl⟩ dL_law_1421 ⟨fun _ => ?_, fun c => absurd (lw_cmp _) c⟩
  exact hk _ m2 (hX) (cI_model (hX) f2 g1) g2
set_option maxRecDepth 100000 in
theorem lw_case_39 {d sn i : Nat} {X : GS} {m : mm_Mem} {Q : Option Value → mm_Mem → Prop} (hn : sn ≤ 3072) (hi : i + 6 ≤ sn) (hX : okX X) (hC : cI X m) (hM : mI X m) (hk : lwK (d + 40) sn i Q) : mm_wp (d + 40) sn 232 1426 (lwL i) [] m Q := by
  refine wp_aload_n mb_232 rfl dL_law_1426 ?_
  refine lw_rd (j := 1) (q := m.1 0 (i + 1)) rfl dL_law_1427 dL_law_1428 dL_law_1429 dL_law_1430 dL_law_1431 (by omega) hn rfl ?_
  refine lw_rd (j := 2) (q := m.1 0 (i + 2)) rfl dL_law_1432 dL_law_1433 dL_law_1434 dL_law_1435 dL_law_1436 (by omega) hn rfl ?_
  refine lw_rd (j := 3) (q := m.1 0 (i + 3)) rfl dL_law_1437 dL_law_1438 dL_law_1439 dL_law_1440 dL_law_1441 (by omega) hn rfl ?_
  refine lw_rd (j := 4) (q := m.1 0 (i + 4)) rfl dL_law_1442 dL_law_1443 dL_law_1444 dL_law_1445 dL_law_1446 (by omega) hn rfl ?_
  refine lw_rd (j := 5) (q := m.1 0 (i + 5)) rfl dL_law_1447 dL_law_1448 dL_law_1449 dL_law_1450 dL_law_1451 (by omega) hn rfl ?_
  refine wp_callV mb_232 (k' := kX10_shift) (r := []) rfl lm_15_178 rfl m0_1 (by decide) (Nat.le_of_ble_eq_true rfl) dL_law_1452 (sp_cI (c_shift hX hC (fun m1 f1 g1 => ?_)))
  have e0 : m1.1 0 = m.1 0 := f1.i (by omega)
  refine wp_aload_n mb_232 rfl dL_law_1455 ?_
  refine lw_rd (j := 1) (q := m.1 0 (i + 1)) rfl dL_law_1456 dL_law_1457 dL_law_1458 dL_law_1459 dL_law_1460 (by omega) hn (by rw [e0]) ?_
  refine lw_rd (j := 2) (q := m.1 0 (i + 2)) rfl dL_law_1461 dL_law_1462 dL_law_1463 dL_law_1464 dL_law_1465 (by omega) hn (by rw [e0]) ?_
  refine lw_rd (j := 3) (q := m.1 0 (i + 3)) rfl dL_law_1466 dL_law_1467 dL_law_1468 dL_law_1469 dL_law_1470 (by omega) hn (by rw [e0]) ?_
  refine lw_rd (j := 4) (q := m.1 0 (i + 4)) rfl dL_law_1471 dL_law_1472 dL_law_1473 dL_law_1474 dL_law_1475 (by omega) hn (by rw [e0]) ?_
  refine lw_rd (j := 5) (q := m.1 0 (i + 5)) rfl dL_law_1476 dL_law_1477 dL_law_1478 dL_law_1479 dL_law_1480 (by omega) hn (by rw [e0]) ?_
  refine wp_callV mb_232 (k' := kX11_shift) (r := [.int _]) rfl lm_15_182 rfl m0_82 (by decide) (Nat.le_of_ble_eq_true rfl) dL_law_1481 (sp_cI (m_shift hX (mI_class hX f1 hM) (fun m2 f2 g2 => ?_)))
  refine wp_icmp_eq mb_232 (t := 1489) ⟨rfl, rfl⟩ dL_law_1484 ⟨fun _ => ?_, fun c => absurd rfl c⟩
  exact hk _ m2 (okX_shift hX) (cI_model (okX_shift hX) f2 g1) g2
