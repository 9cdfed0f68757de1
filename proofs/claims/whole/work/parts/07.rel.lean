-- THE RELATION between the abstract heap and the machine's
def mm_ad (b z : Nat) : Nat → Nat
  | 0 => b
  | i + 1 => z + i
def mm_v (b z : Nat) : Value → Value
  | .ref i => .ref (mm_ad b z i)
  | v => v
theorem mm_v_cat (b z : Nat) (v : Value) : (mm_v b z v).category = v.category := by cases v <;> rfl
theorem mm_v_cats (b z : Nat) (st : List Value) : ((st.map (mm_v b z)).map fun v => v.category).sum = mm_cat st := by
  unfold mm_cat
  rw [List.map_map]
  congr 1
  exact List.map_congr_left fun v _ => mm_v_cat b z v
theorem mm_v_rf (b z : Nat) (r : Option Nat) : mm_v b z (va_rf r) = va_rf (r.map (mm_ad b z)) := by cases r <;> rfl
/-- what a cell holds, in the kit's words -/
def mm_fv (b z : Nat) (h : mm_H) (i c k : Nat) : Value := if mm_fk c k = 2 then va_rf ((h.2.1 i k).map (mm_ad b z)) else .int (h.2.2.1 i k)
def mm_en (b z : Nat) (h : mm_H) (cA : Nat → ClassId) (i : Nat) (q : Nat × Nat) : va_E :=
  if q.1 < 100 then .inr (q.1, (List.range (mm_fn q.1)).map (fun k => mm_fv b z h i q.1 k))
  else if q.1 ≤ 101 then .inl (cA i, q.2, .inl (h.2.2.1 i))
  else if q.1 = 102 then .inl (cA i, q.2, .inr (.inl (h.2.2.2 i)))
  else .inl (cA i, q.2, .inr (.inr (.inr (.inr (fun j => (h.2.1 i j).map (mm_ad b z))))))
def mm_tag (q : Nat × Nat) : Prop := (q.1 < 12 ∧ q.2 = mm_fn q.1) ∨ (100 ≤ q.1 ∧ q.1 ≤ 108)
def mm_R1 (D : va_G) (b z : Nat) (h : mm_H) (H : Heap) (U : State) (cA : Nat → ClassId) : Prop :=
  b < z ∧ H.size + 1 = z + h.1.length ∧ (∃ n, h.1[0]? = some (100, n) ∧ va_X b n (h.2.2.1 0) U H) ∧
  ∀ i q, h.1[i + 1]? = some q → mm_tag q ∧ va_at D vwCl (z + i, mm_en b z h cA (i + 1) q) H ∧ (100 ≤ q.1 → ArrOfT U (cA (i + 1)) (mm_aty q.1) ∧ va_RA U (cA (i + 1)) (mm_aty q.1))
def mm_R (D : va_G) (b z : Nat) (h : mm_H) (H : Heap) (U : State) : Prop := ∃ cA, mm_R1 D b z h H U cA
/-- what stays: the classes, the words that aren't the tables' -/
def mm_AO (U : State) : Prop := va_AO RX9 U ∧ va_AO RX0 U ∧ va_AO RX7 U ∧ (∀ t, (t = .int ∨ t = .boolean ∨ t = .long) → (Cond.arrayOver (.array t)).before #[] U = true)
def mm_F (D : va_G) (U : State) : Prop := va_K D vwCl [] U ∧ mm_AO U ∧ va_Nw (.methodLinkNest RX9 32 (mm_y 150) "OrbitDesigns") U
theorem mm_aoA_moved {t : FieldType} {u U : State} (hvm : u.vm.Alike U.vm) (h : (Cond.arrayOver (.array t)).before #[] u = true) : (Cond.arrayOver (.array t)).before #[] U = true := by
  obtain ⟨comp, c, k, h1, h2, h3, h4, h5⟩ := arrayOverA_spec h
  obtain ⟨k', hk', he⟩ := hvm.2.2 _ _ h3
  have e1 := va_idx_bare U.vm comp
  have e2 := va_idx_bare u.vm comp
  have hb : u.vm.bare = U.vm.bare := by first | exact hvm.bare_eq | exact hvm.bare_eq.symm
  rw [hb] at e2
  have hi : (U.vm.classes.findIdx? fun (x : Class) => match x.kind with | .array component _ => component == comp | _ => false) = some c := e1.symm.trans (e2.trans h2)
  have hkind : k'.kind = .array comp (.array t) := by rw [he]; exact h4
  have f1 : U.vm.findClass (FieldType.array t).toString = some comp := by rw [hvm.findClass]; exact h1
  have f2 : U.vm.findClass ("[" ++ (FieldType.array t).toString) = some c := by rw [hvm.findClass]; exact h5
  unfold Cond.before Cond.holds
  simp only [Cond.value]
  rw [f1, Option.bind_some]
  refine (congrArg (fun o : Option Nat => (o.bind (fun c => (U.vm.classes[c]?).map fun (k : Class) => match k.kind with | .array _ ty => decide (ty = FieldType.array t) && decide (U.vm.findClass ("[" ++ (FieldType.array t).toString) = some c) | _ => false) == some true)) hi).trans ?_
  simp [hk', hkind, f2]
theorem mm_F.moved {D : va_G} {s U : State} (hW : s.WarmedH U.vm) (h : mm_F D s) : mm_F D U := by
  obtain ⟨h1, ⟨a1, a2, a3, a4⟩, h3⟩ := h
  have hvm := hW.alike
  exact ⟨va_K.moved hvm h1, ⟨a1.moved hvm, a2.moved hvm, a3.moved hvm, fun t ht => mm_aoA_moved hvm (a4 t ht)⟩, va_Nw.warmM hW h3⟩
theorem mm_F.same {D : va_G} {s U : State} (hvm : s.vm = U.vm) (h : mm_F D s) : mm_F D U := by
  obtain ⟨h1, ⟨a1, a2, a3, a4⟩, h3⟩ := h
  have e : s.vm.Alike U.vm := by rw [hvm]; exact Vm.Alike.refl _
  exact ⟨va_K.moved e h1, ⟨a1.moved e, a2.moved e, a3.moved e, fun t ht => mm_aoA_moved e (a4 t ht)⟩, va_Nw.same rfl hvm h3⟩
theorem mm_R.moved {D : va_G} {b z : Nat} {h : mm_H} {H : Heap} {s U : State} (hvm : s.vm.Alike U.vm) (hR : mm_R D b z h H s) : mm_R D b z h H U := by
  obtain ⟨cA, h1, h2, ⟨n, h3, h4⟩, h5⟩ := hR
  exact ⟨cA, h1, h2, ⟨n, h3, h4.moved hvm⟩, fun i q hq => ⟨(h5 i q hq).1, (h5 i q hq).2.1, fun e => ⟨arrOfT_moved hvm ((h5 i q hq).2.2 e).1, ((h5 i q hq).2.2 e).2.moved hvm⟩⟩⟩
/-- locals -/
def mm_al (b z : Nat) : Nat → mm_L → List (Nat × Value)
  | _, [] => []
  | i, none :: t => mm_al b z (i + 1) t
  | i, some v :: t => (i, mm_v b z v) :: mm_al b z (i + 1) t
def mm_LR (b z n : Nat) (l : mm_L) (ls : Array Slot) : Prop := l.length = n ∧ lv_has ls n (mm_al b z 0 l)
theorem mm_al_ge (b z : Nat) : ∀ (l : mm_L) (i : Nat), ∀ q ∈ mm_al b z i l, i ≤ q.1
  | [], _, q, h => by cases h
  | none :: t, i, q, h => by
    have := mm_al_ge b z t (i + 1) q h
    omega
  | some v :: t, i, q, h => by
    rcases List.mem_cons.mp h with rfl | h
    · exact Nat.le_refl _
    · have := mm_al_ge b z t (i + 1) q h
      omega
theorem mm_al_get (b z : Nat) : ∀ (l : mm_L) (i k : Nat) (v : Value), mm_get l k = some v → (i + k, mm_v b z v) ∈ mm_al b z i l
  | [], _, _, _, h => by cases h
  | a :: t, i, 0, v, h => by
    have e : a = some v := h
    subst e
    exact List.mem_cons_self
  | none :: t, i, k + 1, v, h => by
    have := mm_al_get b z t (i + 1) k v h
    rw [Nat.add_right_comm] at this
    exact this
  | some w :: t, i, k + 1, v, h => by
    have := mm_al_get b z t (i + 1) k v h
    rw [Nat.add_right_comm] at this
    exact List.mem_cons_of_mem _ this
theorem mm_LR.get {b z n : Nat} {l : mm_L} {ls : Array Slot} (h : mm_LR b z n l ls) {k : Nat} {v : Value} (hk : mm_get l k = some v) : ls[k]? = some (.val (mm_v b z v)) := by
  have := h.2.2.2 _ (mm_al_get b z l 0 k v hk)
  rwa [Nat.zero_add] at this
theorem mm_set_len : ∀ (l : mm_L) (k : Nat) (v : Value), (mm_set l k v).length = l.length
  | [], _, _ => rfl
  | _ :: _, 0, _ => rfl
  | a :: t, 1, v => by show (mm_set t 0 v).length + 1 = _; rw [mm_set_len t 0 v]; rfl
  | a :: t, n + 2, v => by show (mm_set t (n + 1) v).length + 1 = _; rw [mm_set_len t (n + 1) v]; rfl
theorem mm_clr_some {a : Option Value} {w : Value} (h : mm_clr a = some w) : a = some w ∧ w.category = 1 := by
  cases a with
  | none => cases h
  | some x => cases x <;> first | (cases h; done) | (cases h; exact ⟨rfl, rfl⟩)
theorem mm_al_set (b z : Nat) (v : Value) : ∀ (l : mm_L) (k i : Nat), ∀ q ∈ mm_al b z i (mm_set l k v), q ∈ ((i + k, mm_v b z v) :: (mm_al b z i l).filter (fun q => !(q.1 == i + k) && !(q.1 + 1 == i + k && q.2.category == 2)))
  | [], _, _, q, h => by cases h
  | a :: t, 0, i, q, h => by
    rcases List.mem_cons.mp (show q ∈ (i, mm_v b z v) :: mm_al b z (i + 1) t from h) with h3 | h3
    · exact List.mem_cons.mpr (Or.inl h3)
    · refine List.mem_cons_of_mem _ (List.mem_filter.mpr ⟨?_, ?_⟩)
      · cases a with
        | none => exact h3
        | some w => exact List.mem_cons_of_mem _ h3
      · have := mm_al_ge b z t (i + 1) q h3
        simp
        omega
  | a :: t, 1, i, q, h => by
    have h : q ∈ mm_al b z i (mm_clr a :: mm_set t 0 v) := h
    have go : q ∈ mm_al b z (i + 1) (mm_set t 0 v) → q ∈ ((i + 1, mm_v b z v) :: (mm_al b z i (a :: t)).filter (fun q => !(q.1 == i + 1) && !(q.1 + 1 == i + 1 && q.2.category == 2))) := by
      intro h
      have h2 := mm_al_set b z v t 0 (i + 1) q h
      rcases List.mem_cons.mp h2 with h2 | h2
      · exact List.mem_cons.mpr (Or.inl h2)
      · obtain ⟨g1, g2⟩ := List.mem_filter.mp h2
        refine List.mem_cons_of_mem _ (List.mem_filter.mpr ⟨?_, g2⟩)
        cases a with
        | none => exact g1
        | some w => exact List.mem_cons_of_mem _ g1
    cases hc : mm_clr a with
    | none =>
      rw [hc] at h
      exact go h
    | some w =>
      rw [hc] at h
      obtain ⟨ea, hcat⟩ := mm_clr_some hc
      rcases List.mem_cons.mp (show q ∈ (i, mm_v b z w) :: mm_al b z (i + 1) (mm_set t 0 v) from h) with h3 | h3
      · refine List.mem_cons_of_mem _ (List.mem_filter.mpr ⟨?_, ?_⟩)
        · rw [h3, ea]; exact List.mem_cons_self
        · rw [h3]
          simp [mm_v_cat, hcat]
      · exact go h3
  | a :: t, k + 2, i, q, h => by
    have h : q ∈ mm_al b z i (a :: mm_set t (k + 1) v) := h
    have go : q ∈ mm_al b z (i + 1) (mm_set t (k + 1) v) → q ∈ ((i + (k + 2), mm_v b z v) :: (mm_al b z i (a :: t)).filter (fun q => !(q.1 == i + (k + 2)) && !(q.1 + 1 == i + (k + 2) && q.2.category == 2))) := by
      intro h
      have h2 := mm_al_set b z v t (k + 1) (i + 1) q h
      have e : i + 1 + (k + 1) = i + (k + 2) := by omega
      rw [e] at h2
      rcases List.mem_cons.mp h2 with h2 | h2
      · exact List.mem_cons.mpr (Or.inl h2)
      · obtain ⟨g1, g2⟩ := List.mem_filter.mp h2
        refine List.mem_cons_of_mem _ (List.mem_filter.mpr ⟨?_, g2⟩)
        cases a with
        | none => exact g1
        | some w => exact List.mem_cons_of_mem _ g1
    cases a with
    | none => exact go h
    | some w =>
      rcases List.mem_cons.mp (show q ∈ (i, mm_v b z w) :: mm_al b z (i + 1) (mm_set t (k + 1) v) from h) with h | h
      · refine List.mem_cons_of_mem _ (List.mem_filter.mpr ⟨?_, ?_⟩)
        · rw [h]; exact List.mem_cons_self
        · rw [h]
          simp
          try omega
      · exact go h
theorem mm_LR.put {b z n k : Nat} {l l' : mm_L} {ls' : Array Slot} {v : Value} (hl : l.length = n) (hp : mm_put l k v = some l')
    (h : lv_has ls' n ((k, mm_v b z v) :: (mm_al b z 0 l).filter (fun q => !(q.1 == k) && !(q.1 + 1 == k && q.2.category == 2)))) : mm_LR b z n l' ls' := by
  unfold mm_put at hp
  split at hp
  · cases hp
    refine ⟨(mm_set_len l k v).trans hl, h.1, h.2.1, fun q hq => ?_⟩
    have := mm_al_set b z v l k 0 q hq
    rw [Nat.zero_add] at this
    exact h.2.2 q this
  · cases hp
theorem mm_put_lt {l l' : mm_L} {k : Nat} {v : Value} (hp : mm_put l k v = some l') : k < l.length := by
  unfold mm_put at hp
  split at hp
  · assumption
  · cases hp
theorem mm_ex_len (b z : Nat) : ∀ (as : List Value), (mm_ex as).length = (lg_sl (as.map (mm_v b z))).length
  | [] => rfl
  | a :: t => by
    have ih := mm_ex_len b z t
    cases a <;> simp_all [mm_ex, lg_sl, mm_v, Value.category]
theorem mm_al_ex (b z : Nat) : ∀ (as : List Value) (i n : Nat), ∀ q ∈ mm_al b z i (mm_pad n (mm_ex as)), q ∈ lv_args i (as.map (mm_v b z))
  | as, i, 0, q, h => by cases as <;> cases h
  | [], i, n + 1, q, h => by
    have h : q ∈ mm_al b z (i + 1) (mm_pad n (mm_ex [])) := h
    have := mm_al_ex b z [] (i + 1) n q h
    cases this
  | a :: t, i, n + 1, q, h => by
    by_cases hc : a.category = 2
    · have e : mm_ex (a :: t) = some a :: none :: mm_ex t := by cases a <;> first | rfl | (simp [Value.category] at hc)
      rw [e] at h
      rw [List.map_cons, lv_args, mm_v_cat, if_pos hc]
      rcases List.mem_cons.mp (show q ∈ (i, mm_v b z a) :: mm_al b z (i + 1) (mm_pad n (none :: mm_ex t)) from h) with h | h
      · exact List.mem_cons.mpr (Or.inl h)
      · refine List.mem_cons_of_mem _ ?_
        cases n with
        | zero => cases h
        | succ n => exact mm_al_ex b z t (i + 2) n q h
    · have e : mm_ex (a :: t) = some a :: mm_ex t := by cases a <;> first | rfl | (simp [Value.category] at hc)
      rw [e] at h
      rw [List.map_cons, lv_args, mm_v_cat, if_neg hc]
      rcases List.mem_cons.mp (show q ∈ (i, mm_v b z a) :: mm_al b z (i + 1) (mm_pad n (mm_ex t)) from h) with h | h
      · exact List.mem_cons.mpr (Or.inl h)
      · exact List.mem_cons_of_mem _ (mm_al_ex b z t (i + 1) n q h)
theorem mm_pad_len : ∀ (n : Nat) (l : mm_L), (mm_pad n l).length = n
  | 0, _ => rfl
  | n + 1, [] => by show (mm_pad n []).length + 1 = _; rw [mm_pad_len n []]
  | n + 1, a :: t => by show (mm_pad n t).length + 1 = _; rw [mm_pad_len n t]
theorem mm_LR_entry (b z n : Nat) (as : List Value) (h : (mm_ex as).length ≤ n) : mm_LR b z n (mm_pad n (mm_ex as)) ((lg_sl (as.map (mm_v b z)) ++ List.replicate (n - (lg_sl (as.map (mm_v b z))).length) Slot.unset).toArray) := by
  rw [mm_ex_len b z] at h
  have hl := lv_entry (as.map (mm_v b z)) (n := n) h
  exact ⟨mm_pad_len n _, hl.1, hl.2.1, fun q hq => hl.2.2 q (mm_al_ex b z as 0 n q hq)⟩
