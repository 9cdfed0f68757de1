-- SIMULATION, instructions that don't touch the heap
def mm_W (p : Program) (l : Launch) (e : Env) (R : Room) (s : State) (m : MethodId) (args : Array Value) (below : List Frame) (meth : Method) (c : Code) (Q : State → Prop) (D : va_G) (b z k N0 S0 : Nat) (pc : Nat) (la : mm_L) (st : List Value) (h : mm_H) : Prop :=
  ∀ (H : Heap) (locs : List Loc) (ls : Array Slot), mm_R D b z h H s → mm_LR b z (mm_nL k) la ls → va_S (fun q => z ≤ q) s.heap H locs → W p l e R s m args below meth c H locs (h.1.length - N0) (mm_sl h.1 - S0) Q (F0 m pc ls (st.map (mm_v b z)))
def mm_Cx (p : Program) (s : State) (m : MethodId) (args : Array Value) (meth : Method) (c : Code) (k : Nat) : Prop :=
  p.tables.exec = Jvm.exec ∧ c.code = mm_b k ∧ c.maxLocals = mm_nL k ∧ s.vm.findClass (mm_cn (mm_o k)) = some m.cls ∧ (∀ w ∈ mm_T, w.before args s = true) ∧ (mm_kd k = 2 → meth.name = "<init>")
theorem mm_tg_ok {pc : Nat} {off : Int} (h : mm_ok pc off = true) : (pc : Int) + off = (mm_tg pc off : Int) := by
  have h1 : 0 ≤ (pc : Int) + off := of_decide_eq_true h
  exact (Int.toNat_of_nonneg h1).symm
section MS1
variable {p : Program} {l : Launch} {e : Env} {R : Room} {s : State} {m : MethodId} {args : Array Value} {below : List Frame} {meth : Method} {c : Code} {Q : State → Prop} {D : va_G} {b z k N0 S0 : Nat} {i : Instr} {n pc pc' : Nat} {la la' : mm_L} {st st' : List Value} {h h' : mm_H}
set_option maxHeartbeats 4000000 in
theorem mm_s1 (X : mm_Cx p s m args meth c k) (hd : decode (mm_b k) pc = .ok (i, n)) (hn : mm_ln i n = true) (hx : mm_x1 (mm_o k) i n pc la st h = some (pc', la', st', h')) (kk : mm_W p l e R s m args below meth c Q D b z k N0 S0 pc' la' st' h') : mm_W p l e R s m args below meth c Q D b z k N0 S0 pc la st h := by
  obtain ⟨hexec, hb, hml, hown, hts, -⟩ := X
  cases i with
  | iconst v =>
    have hn : n = 1 := by simpa [mm_ln] using hn
    subst hn
    cases hx
    intro H locs ls hR hL hS
    exact lv_iconst hexec hb hd rfl (kk H locs ls hR hL hS)
  | bipush v =>
    have hn : n = 2 := by simpa [mm_ln] using hn
    subst hn
    cases hx
    intro H locs ls hR hL hS
    exact lv_bipush hexec hb hd rfl (kk H locs ls hR hL hS)
  | sipush v =>
    have hn : n = 3 := by simpa [mm_ln] using hn
    subst hn
    cases hx
    intro H locs ls hR hL hS
    exact lv_sipush hexec hb hd rfl (kk H locs ls hR hL hS)
  | lconst v =>
    have hn : n = 1 := by simpa [mm_ln] using hn
    subst hn
    cases hx
    intro H locs ls hR hL hS
    exact lv_lconst hexec hb hd rfl (kk H locs ls hR hL hS)
  | aconst_null =>
    have hn : n = 1 := by simpa [mm_ln] using hn
    subst hn
    cases hx
    intro H locs ls hR hL hS
    exact lv_null hexec hb hd (kk H locs ls hR hL hS)
  | ldc j =>
    have hn : n = 2 := by simpa [mm_ln] using hn
    subst hn
    simp only [mm_x1] at hx
    split at hx
    · next v hv =>
      cases hx
      intro H locs ls hR hL hS
      exact lv_ldc hexec hb hown (hts _ (mm_ki_ok hv)) hd (kk H locs ls hR hL hS)
    · cases hx
  | ldc_w j =>
    have hn : n = 3 := by simpa [mm_ln] using hn
    subst hn
    simp only [mm_x1] at hx
    split at hx
    · next v hv =>
      cases hx
      intro H locs ls hR hL hS
      exact lv_ldcw hexec hb hown (hts _ (mm_ki_ok hv)) hd (kk H locs ls hR hL hS)
    · cases hx
  | ldc2_w j =>
    have hn : n = 3 := by simpa [mm_ln] using hn
    subst hn
    simp only [mm_x1] at hx
    split at hx
    · next v hv =>
      cases hx
      intro H locs ls hR hL hS
      exact lv_ldc2 hexec hb hown (hts _ (mm_kl_ok hv)) hd (kk H locs ls hR hL hS)
    · cases hx
  | iload_n v =>
    have hn : n = 1 := by simpa [mm_ln] using hn
    subst hn
    simp only [mm_x1] at hx
    split at hx
    · next x hg =>
      cases hx
      intro H locs ls hR hL hS
      exact lv_iload_n hexec hb hd rfl (hL.get hg) (kk H locs ls hR hL hS)
    · cases hx
  | iload v =>
    have hn : n = 2 := by simpa [mm_ln] using hn
    subst hn
    simp only [mm_x1] at hx
    split at hx
    · next x hg =>
      cases hx
      intro H locs ls hR hL hS
      exact lv_iload hexec hb hd (hL.get hg) (kk H locs ls hR hL hS)
    · cases hx
  | lload_n v =>
    have hn : n = 1 := by simpa [mm_ln] using hn
    subst hn
    simp only [mm_x1] at hx
    split at hx
    · next x hg =>
      cases hx
      intro H locs ls hR hL hS
      exact lv_lload_n hexec hb hd rfl (hL.get hg) (kk H locs ls hR hL hS)
    · cases hx
  | lload v =>
    have hn : n = 2 := by simpa [mm_ln] using hn
    subst hn
    simp only [mm_x1] at hx
    split at hx
    · next x hg =>
      cases hx
      intro H locs ls hR hL hS
      exact lv_lload hexec hb hd (hL.get hg) (kk H locs ls hR hL hS)
    · cases hx
  | aload_n v =>
    have hn : n = 1 := by simpa [mm_ln] using hn
    subst hn
    simp only [mm_x1] at hx
    split at hx
    · next hg =>
      cases hx
      intro H locs ls hR hL hS
      exact lv_aload_n hexec hb hd rfl (hL.get hg) (kk H locs ls hR hL hS)
    · next hg =>
      cases hx
      intro H locs ls hR hL hS
      exact lv_aload_nN hexec hb hd rfl (hL.get hg) (kk H locs ls hR hL hS)
    · cases hx
  | aload v =>
    have hn : n = 2 := by simpa [mm_ln] using hn
    subst hn
    simp only [mm_x1] at hx
    split at hx
    · next hg =>
      cases hx
      intro H locs ls hR hL hS
      exact lv_aload hexec hb hd (hL.get hg) (kk H locs ls hR hL hS)
    · next hg =>
      cases hx
      intro H locs ls hR hL hS
      exact lv_aloadN hexec hb hd (hL.get hg) (kk H locs ls hR hL hS)
    · cases hx
  | astore_n v =>
    have hn : n = 1 := by simpa [mm_ln] using hn
    subst hn
    simp only [mm_x1] at hx
    split at hx
    · split at hx
      · next l9 hp =>
        cases hx
        intro H locs ls hR hL hS
        exact lv_astore_n hexec hb hd rfl hL.2 (by rw [← hL.1]; exact mm_put_lt hp) rfl (fun ls2 h2 => kk H locs ls2 hR (mm_LR.put hL.1 hp h2) hS)
      · cases hx
    · split at hx
      · next l9 hp =>
        cases hx
        intro H locs ls hR hL hS
        exact lv_astore_nN hexec hb hd rfl hL.2 (by rw [← hL.1]; exact mm_put_lt hp) rfl (fun ls2 h2 => kk H locs ls2 hR (mm_LR.put hL.1 hp h2) hS)
      · cases hx
    · cases hx
  | astore v =>
    have hn : n = 2 := by simpa [mm_ln] using hn
    subst hn
    simp only [mm_x1] at hx
    split at hx
    · split at hx
      · next l9 hp =>
        cases hx
        intro H locs ls hR hL hS
        exact lv_astore hexec hb hd hL.2 (by rw [← hL.1]; exact mm_put_lt hp) rfl (fun ls2 h2 => kk H locs ls2 hR (mm_LR.put hL.1 hp h2) hS)
      · cases hx
    · split at hx
      · next l9 hp =>
        cases hx
        intro H locs ls hR hL hS
        exact lv_astoreN hexec hb hd hL.2 (by rw [← hL.1]; exact mm_put_lt hp) rfl (fun ls2 h2 => kk H locs ls2 hR (mm_LR.put hL.1 hp h2) hS)
      · cases hx
    · cases hx
  | istore_n v =>
    have hn : n = 1 := by simpa [mm_ln] using hn
    subst hn
    simp only [mm_x1] at hx
    split at hx
    · next x r =>
      split at hx
      · next l9 hp =>
        cases hx
        intro H locs ls hR hL hS
        exact lv_istore_n hexec hb hd rfl hL.2 (by rw [← hL.1]; exact mm_put_lt hp) rfl (fun ls2 h2 => kk H locs ls2 hR (mm_LR.put hL.1 hp h2) hS)
      · cases hx
    · cases hx
  | istore v =>
    have hn : n = 2 := by simpa [mm_ln] using hn
    subst hn
    simp only [mm_x1] at hx
    split at hx
    · next x r =>
      split at hx
      · next l9 hp =>
        cases hx
        intro H locs ls hR hL hS
        exact lv_istore hexec hb hd hL.2 (by rw [← hL.1]; exact mm_put_lt hp) rfl (fun ls2 h2 => kk H locs ls2 hR (mm_LR.put hL.1 hp h2) hS)
      · cases hx
    · cases hx
  | iinc j v =>
    have hn : n = 3 := by simpa [mm_ln] using hn
    subst hn
    simp only [mm_x1] at hx
    split at hx
    · next x hg =>
      split at hx
      · next l9 hp =>
        cases hx
        intro H locs ls hR hL hS
        have hm := mm_al_get b z la 0 j _ hg
        rw [Nat.zero_add] at hm
        obtain ⟨k0, hk0⟩ := List.getElem?_of_mem hm
        exact lv_iinc hexec hb hd hL.2 hk0 rfl (by rw [← hL.1]; exact mm_put_lt hp) rfl (fun ls2 h2 => kk H locs ls2 hR (mm_LR.put hL.1 hp h2) hS)
      · cases hx
    · cases hx
  | dup =>
    have hn : n = 1 := by simpa [mm_ln] using hn
    subst hn
    simp only [mm_x1] at hx
    split at hx
    · cases hx
      intro H locs ls hR hL hS
      exact lv_dup hexec hb hd rfl (kk H locs ls hR hL hS)
    · cases hx
      intro H locs ls hR hL hS
      exact lv_dup hexec hb hd rfl (kk H locs ls hR hL hS)
    · cases hx
  | dup2 =>
    have hn : n = 1 := by simpa [mm_ln] using hn
    subst hn
    simp only [mm_x1] at hx
    split at hx
    · cases hx
      intro H locs ls hR hL hS
      exact lv_dup2_11 hexec hb hd rfl rfl (kk H locs ls hR hL hS)
    · cases hx
  | dup_x1 =>
    have hn : n = 1 := by simpa [mm_ln] using hn
    subst hn
    simp only [mm_x1] at hx
    split at hx
    · cases hx
      intro H locs ls hR hL hS
      exact lv_dup_x1 hexec hb hd rfl rfl (kk H locs ls hR hL hS)
    · cases hx
  | pop =>
    have hn : n = 1 := by simpa [mm_ln] using hn
    subst hn
    simp only [mm_x1] at hx
    split at hx
    · cases hx
      intro H locs ls hR hL hS
      exact lv_pop hexec hb hd rfl (kk H locs ls hR hL hS)
    · cases hx
  | _ => exact absurd hx (by simp [mm_x1])
set_option maxHeartbeats 4000000 in
theorem mm_s2 (X : mm_Cx p s m args meth c k) (hd : decode (mm_b k) pc = .ok (i, n)) (hn : mm_ln i n = true) (hx : mm_x2 i n pc la st h = some (pc', la', st', h')) (kk : mm_W p l e R s m args below meth c Q D b z k N0 S0 pc' la' st' h') : mm_W p l e R s m args below meth c Q D b z k N0 S0 pc la st h := by
  obtain ⟨hexec, hb, hml, hown, hts, -⟩ := X
  cases i with
  | iadd =>
    have hn : n = 1 := by simpa [mm_ln] using hn
    subst hn
    simp only [mm_x2] at hx
    split at hx
    · cases hx
      intro H locs ls hR hL hS
      exact lv_iadd hexec hb hd (kk H locs ls hR hL hS)
    · cases hx
  | isub =>
    have hn : n = 1 := by simpa [mm_ln] using hn
    subst hn
    simp only [mm_x2] at hx
    split at hx
    · cases hx
      intro H locs ls hR hL hS
      exact lv_isub hexec hb hd (kk H locs ls hR hL hS)
    · cases hx
  | imul =>
    have hn : n = 1 := by simpa [mm_ln] using hn
    subst hn
    simp only [mm_x2] at hx
    split at hx
    · cases hx
      intro H locs ls hR hL hS
      exact lv_imul hexec hb hd (kk H locs ls hR hL hS)
    · cases hx
  | iand =>
    have hn : n = 1 := by simpa [mm_ln] using hn
    subst hn
    simp only [mm_x2] at hx
    split at hx
    · cases hx
      intro H locs ls hR hL hS
      exact lv_iand hexec hb hd (kk H locs ls hR hL hS)
    · cases hx
  | ior =>
    have hn : n = 1 := by simpa [mm_ln] using hn
    subst hn
    simp only [mm_x2] at hx
    split at hx
    · cases hx
      intro H locs ls hR hL hS
      exact lv_ior hexec hb hd (kk H locs ls hR hL hS)
    · cases hx
  | ixor =>
    have hn : n = 1 := by simpa [mm_ln] using hn
    subst hn
    simp only [mm_x2] at hx
    split at hx
    · cases hx
      intro H locs ls hR hL hS
      exact lv_ixor hexec hb hd (kk H locs ls hR hL hS)
    · cases hx
  | ishl =>
    have hn : n = 1 := by simpa [mm_ln] using hn
    subst hn
    simp only [mm_x2] at hx
    split at hx
    · cases hx
      intro H locs ls hR hL hS
      exact lv_ishl hexec hb hd (kk H locs ls hR hL hS)
    · cases hx
  | ishr =>
    have hn : n = 1 := by simpa [mm_ln] using hn
    subst hn
    simp only [mm_x2] at hx
    split at hx
    · cases hx
      intro H locs ls hR hL hS
      exact lv_ishr hexec hb hd (kk H locs ls hR hL hS)
    · cases hx
  | land =>
    have hn : n = 1 := by simpa [mm_ln] using hn
    subst hn
    simp only [mm_x2] at hx
    split at hx
    · cases hx
      intro H locs ls hR hL hS
      exact lv_land hexec hb hd (kk H locs ls hR hL hS)
    · cases hx
  | lor =>
    have hn : n = 1 := by simpa [mm_ln] using hn
    subst hn
    simp only [mm_x2] at hx
    split at hx
    · cases hx
      intro H locs ls hR hL hS
      exact lv_lor hexec hb hd (kk H locs ls hR hL hS)
    · cases hx
  | iushr =>
    have hn : n = 1 := by simpa [mm_ln] using hn
    subst hn
    simp only [mm_x2] at hx
    split at hx
    · cases hx
      intro H locs ls hR hL hS
      exact lv_iushr hexec hb hd rfl (kk H locs ls hR hL hS)
    · cases hx
  | lshl =>
    have hn : n = 1 := by simpa [mm_ln] using hn
    subst hn
    simp only [mm_x2] at hx
    split at hx
    · cases hx
      intro H locs ls hR hL hS
      exact lv_lshl hexec hb hd rfl (kk H locs ls hR hL hS)
    · cases hx
  | i2l =>
    have hn : n = 1 := by simpa [mm_ln] using hn
    subst hn
    simp only [mm_x2] at hx
    split at hx
    · cases hx
      intro H locs ls hR hL hS
      exact lv_i2l hexec hb hd rfl (kk H locs ls hR hL hS)
    · cases hx
  | l2i =>
    have hn : n = 1 := by simpa [mm_ln] using hn
    subst hn
    simp only [mm_x2] at hx
    split at hx
    · cases hx
      intro H locs ls hR hL hS
      exact lv_l2i hexec hb hd rfl (kk H locs ls hR hL hS)
    · cases hx
  | i2b =>
    have hn : n = 1 := by simpa [mm_ln] using hn
    subst hn
    simp only [mm_x2] at hx
    split at hx
    · cases hx
      intro H locs ls hR hL hS
      exact lv_i2b hexec hb hd rfl (kk H locs ls hR hL hS)
    · cases hx
  | i2s =>
    have hn : n = 1 := by simpa [mm_ln] using hn
    subst hn
    simp only [mm_x2] at hx
    split at hx
    · cases hx
      intro H locs ls hR hL hS
      exact lv_i2s hexec hb hd rfl (kk H locs ls hR hL hS)
    · cases hx
  | lcmp =>
    have hn : n = 1 := by simpa [mm_ln] using hn
    subst hn
    simp only [mm_x2] at hx
    split at hx
    · cases hx
      intro H locs ls hR hL hS
      exact W.lcmp hexec hb hd (kk H locs ls hR hL hS)
    · cases hx
  | idiv =>
    have hn : n = 1 := by simpa [mm_ln] using hn
    subst hn
    simp only [mm_x2] at hx
    split at hx
    · split at hx
      · cases hx
      · next hne =>
        cases hx
        intro H locs ls hR hL hS
        exact lv_idiv hexec hb hd hne (kk H locs ls hR hL hS)
    · cases hx
  | irem =>
    have hn : n = 1 := by simpa [mm_ln] using hn
    subst hn
    simp only [mm_x2] at hx
    split at hx
    · split at hx
      · cases hx
      · next hne =>
        cases hx
        intro H locs ls hR hL hS
        exact lv_irem hexec hb hd hne (kk H locs ls hR hL hS)
    · cases hx
  | _ => exact absurd hx (by simp [mm_x2])
set_option maxHeartbeats 4000000 in
theorem mm_s3 (X : mm_Cx p s m args meth c k) (hd : decode (mm_b k) pc = .ok (i, n)) (hn : mm_ln i n = true) (hx : mm_x3 i n pc la st h = some (pc', la', st', h')) (kk : mm_W p l e R s m args below meth c Q D b z k N0 S0 pc' la' st' h') : mm_W p l e R s m args below meth c Q D b z k N0 S0 pc la st h := by
  obtain ⟨hexec, hb, hml, hown, hts, -⟩ := X
  cases i with
  | goto off =>
    have hn : n = 3 := by simpa [mm_ln] using hn
    subst hn
    simp only [mm_x3] at hx
    split at hx
    · next ho =>
      cases hx
      intro H locs ls hR hL hS
      exact lv_goto hexec hb hd (mm_tg_ok ho) (kk H locs ls hR hL hS)
    · cases hx
  | ifCond cn off =>
    have hn : n = 3 := by simpa [mm_ln] using hn
    subst hn
    simp only [mm_x3] at hx
    split at hx
    · split at hx
      · next ho =>
        cases hx
        intro H locs ls hR hL hS
        have k1 := kk H locs ls hR hL hS
        cases cn
        · exact lv_if_eq hexec hb hd (mm_tg_ok ho) (fun q => by rw [if_pos (by simpa [mm_cmp] using q)] at k1; exact k1) (fun q => by rw [if_neg (by simpa [mm_cmp] using q)] at k1; exact k1)
        · exact lv_if_ne hexec hb hd (mm_tg_ok ho) (fun q => by rw [if_pos (by simpa [mm_cmp] using q)] at k1; exact k1) (fun q => by rw [if_neg (by simpa [mm_cmp] using q)] at k1; exact k1)
        · exact lv_if_lt hexec hb hd (mm_tg_ok ho) (fun q => by rw [if_pos (by simpa [mm_cmp] using q)] at k1; exact k1) (fun q => by rw [if_neg (by simpa [mm_cmp] using q)] at k1; exact k1)
        · exact lv_if_ge hexec hb hd (mm_tg_ok ho) (fun q => by rw [if_pos (by simpa [mm_cmp] using q)] at k1; exact k1) (fun q => by rw [if_neg (by simpa [mm_cmp] using q)] at k1; exact k1)
        · exact lv_if_gt hexec hb hd (mm_tg_ok ho) (fun q => by rw [if_pos (by simpa [mm_cmp] using q)] at k1; exact k1) (fun q => by rw [if_neg (by simpa [mm_cmp] using q)] at k1; exact k1)
        · exact lv_if_le hexec hb hd (mm_tg_ok ho) (fun q => by rw [if_pos (by simpa [mm_cmp] using q)] at k1; exact k1) (fun q => by rw [if_neg (by simpa [mm_cmp] using q)] at k1; exact k1)
      · cases hx
    · cases hx
  | if_icmp cn off =>
    have hn : n = 3 := by simpa [mm_ln] using hn
    subst hn
    simp only [mm_x3] at hx
    split at hx
    · split at hx
      · next ho =>
        cases hx
        intro H locs ls hR hL hS
        have k1 := kk H locs ls hR hL hS
        cases cn
        · exact lv_icmp_eq hexec hb hd (mm_tg_ok ho) (fun q => by rw [if_pos (by simpa [mm_cmp] using q)] at k1; exact k1) (fun q => by rw [if_neg (by simpa [mm_cmp] using q)] at k1; exact k1)
        · exact lv_icmp_ne hexec hb hd (mm_tg_ok ho) (fun q => by rw [if_pos (by simpa [mm_cmp] using q)] at k1; exact k1) (fun q => by rw [if_neg (by simpa [mm_cmp] using q)] at k1; exact k1)
        · exact lv_icmp_lt hexec hb hd (mm_tg_ok ho) (fun q => by rw [if_pos (by simpa [mm_cmp] using q)] at k1; exact k1) (fun q => by rw [if_neg (by simpa [mm_cmp] using q)] at k1; exact k1)
        · exact lv_icmp_ge hexec hb hd (mm_tg_ok ho) (fun q => by rw [if_pos (by simpa [mm_cmp] using q)] at k1; exact k1) (fun q => by rw [if_neg (by simpa [mm_cmp] using q)] at k1; exact k1)
        · exact lv_icmp_gt hexec hb hd (mm_tg_ok ho) (fun q => by rw [if_pos (by simpa [mm_cmp] using q)] at k1; exact k1) (fun q => by rw [if_neg (by simpa [mm_cmp] using q)] at k1; exact k1)
        · exact lv_icmp_le hexec hb hd (mm_tg_ok ho) (fun q => by rw [if_pos (by simpa [mm_cmp] using q)] at k1; exact k1) (fun q => by rw [if_neg (by simpa [mm_cmp] using q)] at k1; exact k1)
      · cases hx
    · cases hx
  | ifnull off =>
    have hn : n = 3 := by simpa [mm_ln] using hn
    subst hn
    simp only [mm_x3] at hx
    split at hx
    · split at hx
      · next ho =>
        cases hx
        intro H locs ls hR hL hS
        exact lv_ifnullN hexec hb hd (mm_tg_ok ho) (kk H locs ls hR hL hS)
      · cases hx
    · cases hx
      intro H locs ls hR hL hS
      exact lv_ifnull hexec hb hd (kk H locs ls hR hL hS)
    · cases hx
  | ifnonnull off =>
    have hn : n = 3 := by simpa [mm_ln] using hn
    subst hn
    simp only [mm_x3] at hx
    split at hx
    · split at hx
      · next ho =>
        cases hx
        intro H locs ls hR hL hS
        exact lv_ifnonnull hexec hb hd (mm_tg_ok ho) (kk H locs ls hR hL hS)
      · cases hx
    · cases hx
      intro H locs ls hR hL hS
      exact lv_ifnonnullN hexec hb hd (kk H locs ls hR hL hS)
    · cases hx
  | tableswitch dflt lo hi offs =>
    simp only [mm_x3] at hx
    split at hx
    · split at hx
      · next hc =>
        split at hx
        · next ho =>
          cases hx
          intro H locs ls hR hL hS
          exact lv_tableOut hexec hb hd hc (mm_tg_ok ho) (kk H locs ls hR hL hS)
        · cases hx
      · next hc =>
        split at hx
        · next off hof =>
          split at hx
          · next ho =>
            cases hx
            intro H locs ls hR hL hS
            exact lv_tableIn hexec hb hd (fun q => hc (Or.inl q)) (fun q => hc (Or.inr q)) hof (mm_tg_ok ho) (kk H locs ls hR hL hS)
          · cases hx
        · cases hx
    · cases hx
  | lookupswitch dflt ps =>
    simp only [mm_x3] at hx
    split at hx
    · split at hx
      · next hc =>
        cases hx
        intro H locs ls hR hL hS
        exact lv_lookup hexec hb hd hc.1 rfl (mm_tg_ok hc.2) (kk H locs ls hR hL hS)
      · cases hx
    · cases hx
  | _ => exact absurd hx (by simp [mm_x3])
end MS1
