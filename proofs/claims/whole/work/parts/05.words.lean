-- THE WORDS that every method asks for (those of the tables that stay), and what the tables of 03 say of them
def mm_T : List Jvm.Cond := lw_tbl.filter goodWord
theorem mm_T_of {w : Jvm.Cond} (h : w ∈ lw_tbl) (hg : goodWord w = true) : w ∈ mm_T := List.mem_filter.mpr ⟨h, hg⟩
theorem mm_T_t {w : Jvm.Cond} {i : Nat} (h : tables_1[i]? = some w) (hg : goodWord w = true) : w ∈ mm_T := mm_T_of (List.mem_append_right _ (List.mem_of_getElem? h)) hg
theorem mm_T_l {w : Jvm.Cond} {i : Nat} (h : lw_tbl[i]? = some w) (hg : goodWord w = true) : w ∈ mm_T := mm_T_of (List.mem_of_getElem? h) hg
theorem mm_T_good : GoodIn mm_T mm_T := fun w h => ⟨h, good_of_word (List.mem_filter.mp h).2⟩
def mm_ck (w : Jvm.Cond) (i : Nat) : Bool := decide (tables_1[i]? = some w) && goodWord w
theorem mm_ck_in {w : Jvm.Cond} {i : Nat} (h : mm_ck w i = true) : w ∈ mm_T := by
  simp only [mm_ck, Bool.and_eq_true, decide_eq_true_eq] at h
  exact mm_T_t h.1 h.2
/-- a class' names, fields, number of them -/
def mm_c (c : Nat) : vw_C := vwCl.getD c ("", fun _ => ("", "", "", false), 0)
theorem mm_c_at {c : Nat} (h : c < 12) : vwCl[c]? = some (mm_c c) := by
  have e : c < vwCl.length := h
  unfold mm_c
  rw [List.getD_eq_getElem?_getD, List.getElem?_eq_getElem e]
  rfl
theorem mm_c_all : (List.range 12).all (fun c => decide ((mm_c c).1 = mm_cn c) && decide ((mm_c c).2.2 = mm_fn c) && (u_ws (mm_c c).1 (mm_c c).2.1 (mm_c c).2.2).all (fun w => decide (w ∈ lw_tbl) && goodWord w)) = true := by decide +kernel
theorem mm_c_ok {c : Nat} (h : c < 12) : (mm_c c).1 = mm_cn c ∧ (mm_c c).2.2 = mm_fn c ∧ ∀ w ∈ u_ws (mm_c c).1 (mm_c c).2.1 (mm_c c).2.2, w ∈ mm_T := by
  have h1 := List.all_eq_true.mp mm_c_all c (List.mem_range.mpr h)
  simp only [Bool.and_eq_true, decide_eq_true_eq, List.all_eq_true] at h1
  exact ⟨h1.1.1, h1.1.2, fun w hw => mm_T_of (h1.2 w hw).1 (h1.2 w hw).2⟩
/-- a field's type -/
def mm_ty (c k : Nat) : FieldType := (parseFieldDescriptor ((mm_c c).2.1 k).2.2.1).getD .int
theorem mm_ty_all : (List.range 12).all (fun c => (List.range (mm_fn c)).all (fun k => decide (parseFieldDescriptor ((mm_c c).2.1 k).2.2.1 = some (mm_ty c k)) && decide (((mm_c c).2.1 k).1 = mm_cn c) && decide (((mm_c c).2.1 k).2.2.2 = mm_ff c k) && decide (if mm_fk c k = 2 then (defaultValue (mm_ty c k) = .null ∧ (mm_ty c k).isReference = true) else if mm_fk c k = 1 then mm_ty c k = .boolean else mm_fk c k = 0 ∧ mm_ty c k = .int) && (List.range (mm_fn c)).all (fun j => decide (k = j ∨ ((mm_c c).2.1 k).2.1 ≠ ((mm_c c).2.1 j).2.1)))) = true := by decide +kernel
theorem mm_ty_ok {c k : Nat} (h : c < 12) (hk : k < mm_fn c) : parseFieldDescriptor ((mm_c c).2.1 k).2.2.1 = some (mm_ty c k) ∧ ((mm_c c).2.1 k).1 = mm_cn c ∧ ((mm_c c).2.1 k).2.2.2 = mm_ff c k ∧ (if mm_fk c k = 2 then (defaultValue (mm_ty c k) = .null ∧ (mm_ty c k).isReference = true) else if mm_fk c k = 1 then mm_ty c k = .boolean else mm_fk c k = 0 ∧ mm_ty c k = .int) := by
  have h1 := List.all_eq_true.mp (List.all_eq_true.mp mm_ty_all c (List.mem_range.mpr h)) k (List.mem_range.mpr hk)
  simp only [Bool.and_eq_true, decide_eq_true_eq] at h1
  exact ⟨h1.1.1.1.1, h1.1.1.1.2, h1.1.1.2, h1.1.2⟩
theorem mm_nm_ok {c : Nat} (h : c < 12) : ∀ a, a < mm_fn c → ∀ b, b < mm_fn c → a ≠ b → ((mm_c c).2.1 a).2.1 ≠ ((mm_c c).2.1 b).2.1 := by
  intro a ha b hb hne
  have h1 := List.all_eq_true.mp (List.all_eq_true.mp mm_ty_all c (List.mem_range.mpr h)) a (List.mem_range.mpr ha)
  simp only [Bool.and_eq_true, decide_eq_true_eq] at h1
  have h2 := List.all_eq_true.mp h1.2 b (List.mem_range.mpr hb)
  simp only [decide_eq_true_eq] at h2
  exact h2.resolve_left hne
theorem mm_fl_all : mm_fl.all (fun e => decide (e.1 < 12) && decide (e.2.2.1 < 12) && decide (e.2.2.2.1 < mm_fn e.2.2.1) && mm_ck (.fieldLink (mm_cn e.1) e.2.1 (mm_cn e.2.2.1) ((mm_c e.2.2.1).2.1 e.2.2.2.1).2.1 ((mm_c e.2.2.1).2.1 e.2.2.2.1).2.2.1) e.2.2.2.2) = true := by decide +kernel
theorem mm_lf_ok {o i c k : Nat} (h : mm_lf o i = some (c, k)) : c < 12 ∧ k < mm_fn c ∧ Cond.fieldLink (mm_cn o) i (mm_cn c) ((mm_c c).2.1 k).2.1 ((mm_c c).2.1 k).2.2.1 ∈ mm_T := by
  unfold mm_lf at h
  cases hf : mm_fl.find? (fun e => e.1 == o && e.2.1 == i) with
  | none => rw [hf] at h; cases h
  | some e =>
    rw [hf] at h
    obtain ⟨e1, e2, e3, e4, e5⟩ := e
    have hm := List.mem_of_find?_eq_some hf
    have hp := List.find?_some hf
    simp only [Bool.and_eq_true, beq_iff_eq] at hp
    obtain ⟨rfl, rfl⟩ := hp
    cases h
    have h1 := List.all_eq_true.mp mm_fl_all _ hm
    simp only [Bool.and_eq_true, decide_eq_true_eq] at h1
    exact ⟨h1.1.1.2, h1.1.2, mm_ck_in h1.2⟩
theorem mm_kil_all : mm_kil.all (fun e => mm_ck (.constant (mm_cn e.1) e.2.1 (Int32.ofInt e.2.2.1)) e.2.2.2) = true := by decide +kernel
theorem mm_kll_all : mm_kll.all (fun e => mm_ck (.constantLong (mm_cn e.1) e.2.1 (Int64.ofInt e.2.2.1)) e.2.2.2) = true := by decide +kernel
theorem mm_ki_ok {o i : Nat} {v : Int32} (h : mm_ki o i = some v) : Cond.constant (mm_cn o) i v ∈ mm_T := by
  unfold mm_ki at h
  cases hf : mm_kil.find? (fun e => e.1 == o && e.2.1 == i) with
  | none => rw [hf] at h; cases h
  | some e =>
    rw [hf] at h
    obtain ⟨e1, e2, e3, e4⟩ := e
    have hm := List.mem_of_find?_eq_some hf
    have hp := List.find?_some hf
    simp only [Bool.and_eq_true, beq_iff_eq] at hp
    obtain ⟨rfl, rfl⟩ := hp
    cases h
    exact mm_ck_in (List.all_eq_true.mp mm_kil_all _ hm)
theorem mm_kl_ok {o i : Nat} {v : Int64} (h : mm_kl o i = some v) : Cond.constantLong (mm_cn o) i v ∈ mm_T := by
  unfold mm_kl at h
  cases hf : mm_kll.find? (fun e => e.1 == o && e.2.1 == i) with
  | none => rw [hf] at h; cases h
  | some e =>
    rw [hf] at h
    obtain ⟨e1, e2, e3, e4⟩ := e
    have hm := List.mem_of_find?_eq_some hf
    have hp := List.find?_some hf
    simp only [Bool.and_eq_true, beq_iff_eq] at hp
    obtain ⟨rfl, rfl⟩ := hp
    cases h
    exact mm_ck_in (List.all_eq_true.mp mm_kll_all _ hm)
def mm_aty (t : Nat) : FieldType := match t with
  | 100 => .int
  | 101 => .boolean
  | 102 => .long
  | 103 => .object RX9
  | 104 => .object RX0
  | 105 => .object RX7
  | 106 => .array .int
  | 107 => .array .boolean
  | _ => .array .long
theorem mm_cll_all : mm_cll.all (fun e => if e.2.2.1 < 12 then mm_ck (.classLink (mm_cn e.1) e.2.1 (mm_cn e.2.2.1)) e.2.2.2 else decide (106 ≤ e.2.2.1 ∧ e.2.2.1 ≤ 108) && mm_ck (.classLink (mm_cn e.1) e.2.1 ("[" ++ (mm_aty e.2.2.1).toString)) e.2.2.2) = true := by decide +kernel
theorem mm_lc_ok {o i c : Nat} (h : mm_lc o i = some c) : (c < 12 ∧ Cond.classLink (mm_cn o) i (mm_cn c) ∈ mm_T) ∨ (106 ≤ c ∧ c ≤ 108 ∧ Cond.classLink (mm_cn o) i ("[" ++ (mm_aty c).toString) ∈ mm_T) := by
  unfold mm_lc at h
  cases hf : mm_cll.find? (fun e => e.1 == o && e.2.1 == i) with
  | none => rw [hf] at h; cases h
  | some e =>
    rw [hf] at h
    obtain ⟨e1, e2, e3, e4⟩ := e
    have hm := List.mem_of_find?_eq_some hf
    have hp := List.find?_some hf
    simp only [Bool.and_eq_true, beq_iff_eq] at hp
    obtain ⟨rfl, rfl⟩ := hp
    cases h
    have h1 := List.all_eq_true.mp mm_cll_all _ hm
    dsimp only at h1 ⊢
    by_cases hc : e3 < 12
    · rw [if_pos hc] at h1
      exact Or.inl ⟨hc, mm_ck_in h1⟩
    · rw [if_neg hc] at h1
      simp only [Bool.and_eq_true, decide_eq_true_eq] at h1
      exact Or.inr ⟨h1.1.1, h1.1.2, mm_ck_in h1.2⟩
def mm_cl2 (w : Jvm.Cond) (i : Nat) : Bool := decide (lw_tbl[i]? = some w) && goodWord w
theorem mm_cl2_in {w : Jvm.Cond} {i : Nat} (h : mm_cl2 w i = true) : w ∈ mm_T := by
  simp only [mm_cl2, Bool.and_eq_true, decide_eq_true_eq] at h
  exact mm_T_l h.1 h.2
theorem mm_in_all : mm_in.all (fun e => decide (e.2.1 = mm_fn e.1) && mm_cl2 (.instantiable (mm_cn e.1) e.2.1) e.2.2.1 && mm_cl2 (.initialized (mm_cn e.1)) e.2.2.2) = true ∧ mm_in.map (fun e => e.1) = List.range 12 := by decide +kernel
theorem mm_in_ok {c : Nat} (h : c < 12) : Cond.instantiable (mm_cn c) (mm_fn c) ∈ mm_T ∧ Cond.initialized (mm_cn c) ∈ mm_T := by
  have hm : c ∈ mm_in.map (fun e => e.1) := by rw [mm_in_all.2]; exact List.mem_range.mpr h
  obtain ⟨e, he, rfl⟩ := List.mem_map.mp hm
  have h1 := List.all_eq_true.mp mm_in_all.1 _ he
  simp only [Bool.and_eq_true, decide_eq_true_eq] at h1
  obtain ⟨⟨h2, h3⟩, h4⟩ := h1
  rw [h2] at h3
  exact ⟨mm_cl2_in h3, mm_cl2_in h4⟩
