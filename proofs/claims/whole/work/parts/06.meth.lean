-- methods and their links: the words of each
set_option maxRecDepth 100000 in
theorem mm_code_all : (List.range 232).map (fun k => some (Cond.code (mm_y k) (mm_b k) (mm_nL k) (mm_rt k))) = (mm_mw.take 232).map (fun e => lw_tbl[e.1]?) := by rfl
theorem mm_code_in {k : Nat} (h : k < 232) : Cond.code (mm_y k) (mm_b k) (mm_nL k) (mm_rt k) ∈ mm_T := by
  have h1 : some (Cond.code (mm_y k) (mm_b k) (mm_nL k) (mm_rt k)) ∈ (List.range 232).map (fun k => some (Cond.code (mm_y k) (mm_b k) (mm_nL k) (mm_rt k))) := List.mem_map.mpr ⟨k, List.mem_range.mpr h, rfl⟩
  rw [mm_code_all] at h1
  obtain ⟨e, -, he⟩ := List.mem_map.mp h1
  exact mm_T_l he rfl
def mm_mwk (k : Nat) : Nat × Nat × Nat × Nat := mm_mw.getD k (0, 0, 0, 0)
def mm_mck (k : Nat) : Bool :=
  decide (mm_kd k = 8) || ((if mm_kd k = 0 then mm_cl2 (.instanceMethod (mm_y k)) (mm_mwk k).2.1 && mm_cl2 (.selects (mm_cn (mm_o k)) (mm_y k) (mm_y k)) (mm_mwk k).2.2.1
   else if mm_kd k = 1 then mm_cl2 (.static (mm_y k)) (mm_mwk k).2.1
   else decide (mm_kd k = 2) && mm_cl2 (.instanceMethod (mm_y k)) (mm_mwk k).2.1 && decide ((mm_y k).name = "<init>") && decide (mm_rt k = none))
  && mm_cl2 (.initialized (mm_cn (mm_o k))) (mm_mwk k).2.2.2 && decide ((mm_y k).cls = mm_cn (mm_o k)) && decide ((mm_y k).cls ≠ "java/lang/invoke/MethodHandle" ∧ (mm_y k).cls ≠ "java/lang/invoke/VarHandle" ∧ (parseMethodDescriptor (mm_y k).desc).map (fun d => d.parameters.length) = some (mm_np k)) && plainName (mm_y k).cls && decide (mm_nL k ≤ 20))
set_option maxRecDepth 100000 in
theorem mm_mck_all : (List.range 232).all mm_mck = true := by decide +kernel
theorem mm_mck_ok {k : Nat} (h : k < 232) (h8 : mm_kd k < 3) : (mm_kd k = 0 → Cond.instanceMethod (mm_y k) ∈ mm_T ∧ Cond.selects (mm_cn (mm_o k)) (mm_y k) (mm_y k) ∈ mm_T) ∧ (mm_kd k = 1 → Cond.static (mm_y k) ∈ mm_T) ∧ (mm_kd k = 2 → Cond.instanceMethod (mm_y k) ∈ mm_T ∧ (mm_y k).name = "<init>" ∧ mm_rt k = none) ∧ Cond.initialized (mm_cn (mm_o k)) ∈ mm_T ∧ (mm_y k).cls = mm_cn (mm_o k) ∧ ((mm_y k).cls ≠ "java/lang/invoke/MethodHandle" ∧ (mm_y k).cls ≠ "java/lang/invoke/VarHandle" ∧ (parseMethodDescriptor (mm_y k).desc).map (fun d => d.parameters.length) = some (mm_np k)) ∧ plainName (mm_y k).cls = true ∧ mm_nL k ≤ 20 := by
  have h1 := List.all_eq_true.mp mm_mck_all k (List.mem_range.mpr h)
  unfold mm_mck at h1
  simp only [Bool.or_eq_true, Bool.and_eq_true, decide_eq_true_eq] at h1
  have h1 := h1.resolve_left (by omega)
  obtain ⟨⟨⟨⟨⟨h2, h3⟩, h4⟩, h5⟩, h6⟩, h7⟩ := h1
  refine ⟨fun e => ?_, fun e => ?_, fun e => ?_, mm_cl2_in h3, h4, h5, h6, h7⟩
  · rw [if_pos e] at h2
    simp only [Bool.and_eq_true] at h2
    exact ⟨mm_cl2_in h2.1, mm_cl2_in h2.2⟩
  · rw [if_neg (by omega), if_pos e] at h2
    exact mm_cl2_in h2
  · rw [if_neg (by omega), if_neg (by omega)] at h2
    simp only [Bool.and_eq_true, decide_eq_true_eq] at h2
    exact ⟨mm_cl2_in h2.1.1.2, h2.1.2, h2.2⟩
def mm_lck (e : Nat × Nat × Nat × Nat × Nat) : Bool := match e with
  | (o, i, k, 0, p) => decide (k < 232 ∧ mm_kd k = 0) && mm_ck (.methodLink (mm_cn o) i (mm_y k)) p
  | (o, i, k, 1, p) => decide (k < 232 ∧ mm_kd k = 1) && mm_ck (.methodLink (mm_cn o) i (mm_y k)) p
  | (o, i, k, 2, p) => decide (k < 232 ∧ mm_kd k = 2) && mm_ck (.methodLink (mm_cn o) i (mm_y k)) p
  | (o, i, k, 3, _) => decide (k = 150 ∧ mm_kd k = 1 ∧ o = 9 ∧ i = 32)
  | (o, i, _, 4, p) => mm_ck (.methodLink (mm_cn o) i arraycopyName) p
  | (o, i, _, 5, p) => mm_ck (.methodLink (mm_cn o) i objectInit) p
  | (o, i, _, 6, p) => mm_ck (.methodLink (mm_cn o) i Lib.Math.max.name) p
  | (o, i, _, 7, p) => mm_ck (.methodLink (mm_cn o) i Lib.Math.min.name) p
  | _ => false
theorem mm_mlk_all : mm_mlk.all mm_lck = true := by decide +kernel
theorem mm_lm_ok {o i k kd : Nat} (h : mm_lm o i = some (k, kd)) : ∃ p, mm_lck (o, i, k, kd, p) = true := by
  unfold mm_lm at h
  cases hf : mm_mlk.find? (fun e => e.1 == o && e.2.1 == i) with
  | none => rw [hf] at h; cases h
  | some e =>
    rw [hf] at h
    obtain ⟨e1, e2, e3, e4, e5⟩ := e
    have hm := List.mem_of_find?_eq_some hf
    have hp := List.find?_some hf
    simp only [Bool.and_eq_true, beq_iff_eq] at hp
    obtain ⟨rfl, rfl⟩ := hp
    cases h
    exact ⟨e5, List.all_eq_true.mp mm_mlk_all _ hm⟩
theorem mm_lm_0 {o i k : Nat} (h : mm_lm o i = some (k, 0)) : k < 232 ∧ mm_kd k = 0 ∧ Cond.methodLink (mm_cn o) i (mm_y k) ∈ mm_T := by
  obtain ⟨p, hp⟩ := mm_lm_ok h
  simp only [mm_lck, Bool.and_eq_true, decide_eq_true_eq] at hp
  exact ⟨hp.1.1, hp.1.2, mm_ck_in hp.2⟩
theorem mm_lm_1 {o i k : Nat} (h : mm_lm o i = some (k, 1)) : k < 232 ∧ mm_kd k = 1 ∧ Cond.methodLink (mm_cn o) i (mm_y k) ∈ mm_T := by
  obtain ⟨p, hp⟩ := mm_lm_ok h
  simp only [mm_lck, Bool.and_eq_true, decide_eq_true_eq] at hp
  exact ⟨hp.1.1, hp.1.2, mm_ck_in hp.2⟩
theorem mm_lm_2 {o i k : Nat} (h : mm_lm o i = some (k, 2)) : k < 232 ∧ mm_kd k = 2 ∧ Cond.methodLink (mm_cn o) i (mm_y k) ∈ mm_T := by
  obtain ⟨p, hp⟩ := mm_lm_ok h
  simp only [mm_lck, Bool.and_eq_true, decide_eq_true_eq] at hp
  exact ⟨hp.1.1, hp.1.2, mm_ck_in hp.2⟩
theorem mm_lm_3 {o i k : Nat} (h : mm_lm o i = some (k, 3)) : k = 150 ∧ mm_kd k = 1 ∧ o = 9 ∧ i = 32 := by
  obtain ⟨p, hp⟩ := mm_lm_ok h
  simpa only [mm_lck, decide_eq_true_eq] using hp
theorem mm_lm_4 {o i k : Nat} (h : mm_lm o i = some (k, 4)) : Cond.methodLink (mm_cn o) i arraycopyName ∈ mm_T := by
  obtain ⟨p, hp⟩ := mm_lm_ok h
  exact mm_ck_in hp
theorem mm_lm_5 {o i k : Nat} (h : mm_lm o i = some (k, 5)) : Cond.methodLink (mm_cn o) i objectInit ∈ mm_T := by
  obtain ⟨p, hp⟩ := mm_lm_ok h
  exact mm_ck_in hp
theorem mm_lm_6 {o i k : Nat} (h : mm_lm o i = some (k, 6)) : Cond.methodLink (mm_cn o) i Lib.Math.max.name ∈ mm_T := by
  obtain ⟨p, hp⟩ := mm_lm_ok h
  exact mm_ck_in hp
theorem mm_lm_7 {o i k : Nat} (h : mm_lm o i = some (k, 7)) : Cond.methodLink (mm_cn o) i Lib.Math.min.name ∈ mm_T := by
  obtain ⟨p, hp⟩ := mm_lm_ok h
  exact mm_ck_in hp
theorem mm_math_w : Cond.static Lib.Math.max.name ∈ mm_T ∧ Cond.static Lib.Math.min.name ∈ mm_T ∧ Cond.initialized "java/lang/Math" ∈ mm_T := ⟨mm_T_t (i := 867) (by decide +kernel) (by decide +kernel), mm_T_t (i := 530) (by decide +kernel) (by decide +kernel), mm_T_t (i := 16) (by decide +kernel) (by decide +kernel)⟩
set_option maxRecDepth 100000 in
theorem mm_max_code : Cond.code Lib.Math.max.name Lib.Math.max.code 2 (some .int) ∈ mm_T := mm_T_t (i := 868) rfl (by decide +kernel)
set_option maxRecDepth 100000 in
theorem mm_min_code : Cond.code Lib.Math.min.name Lib.Math.min.code 2 (some .int) ∈ mm_T := mm_T_t (i := 531) rfl (by decide +kernel)
theorem mm_copy_w : Cond.native arraycopyName ∈ mm_T ∧ Cond.static arraycopyName ∈ mm_T ∧ Cond.initialized "java/lang/System" ∈ mm_T := ⟨mm_T_t (i := 354) (by decide +kernel) (by decide +kernel), mm_T_t (i := 353) (by decide +kernel) (by decide +kernel), mm_T_t (i := 14) (by decide +kernel) (by decide +kernel)⟩
theorem mm_obj_w : Cond.instanceMethod objectInit ∈ mm_T := mm_T_t (i := 23) (by decide +kernel) (by decide +kernel)
set_option maxRecDepth 100000 in
theorem mm_obj_code : Cond.code objectInit ⟨#[0xb1]⟩ 1 none ∈ mm_T := mm_T_t (i := 24) rfl (by decide +kernel)
theorem mm_arr_w : Cond.arrayClass .int ∈ mm_T ∧ Cond.arrayClass .boolean ∈ mm_T ∧ Cond.arrayClass .long ∈ mm_T := ⟨mm_T_t (i := 69) (by decide +kernel) (by decide +kernel), mm_T_t (i := 49) (by decide +kernel) (by decide +kernel), mm_T_t (i := 129) (by decide +kernel) (by decide +kernel)⟩
theorem mm_ao_w : Cond.arrayOver (.object RX9) ∈ lw_tbl ∧ Cond.arrayOver (.object RX0) ∈ lw_tbl ∧ Cond.arrayOver (.object RX7) ∈ lw_tbl ∧ Cond.arrayOver (.array .boolean) ∈ lw_tbl ∧ Cond.arrayOver (.array .int) ∈ lw_tbl ∧ Cond.arrayOver (.array .long) ∈ lw_tbl := ⟨List.mem_append_right _ (List.mem_of_getElem? (i := 51) (by decide +kernel)), List.mem_append_right _ (List.mem_of_getElem? (i := 70) (by decide +kernel)), List.mem_append_right _ (List.mem_of_getElem? (i := 111) (by decide +kernel)), List.mem_append_right _ (List.mem_of_getElem? (i := 910) (by decide +kernel)), List.mem_append_right _ (List.mem_of_getElem? (i := 912) (by decide +kernel)), List.mem_append_right _ (List.mem_of_getElem? (i := 914) (by decide +kernel))⟩
theorem mm_nest_w : Cond.methodLinkNest RX9 32 (mm_y 150) "OrbitDesigns" ∈ lw_tbl := List.mem_append_right _ (List.mem_of_getElem? (i := 312) (by decide +kernel))
