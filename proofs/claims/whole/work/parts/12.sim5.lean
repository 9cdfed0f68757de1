-- SIMULATION, calls; whole runs
def mm_rm (d mc ms : Nat) : Room := { frames := d, cells := mc, slots := ms, locals := 64 * d }
def mm_ws (k : Nat) : List Jvm.Cond := .code (mm_y k) (mm_b k) (mm_nL k) (mm_rt k) :: mm_T
def mm_Pc (D : va_G) (b z : Nat) (h : mm_H) (as : List Value) : Array Value → State → Prop := fun a U => a = (as.map (mm_v b z)).toArray ∧ z ≤ U.heap.size ∧ mm_F D U ∧ mm_R D b z h U.heap U
def mm_Qc (D : va_G) (b z : Nat) (h' : mm_H) (r : Option Value) : Array Value → State → Outcome → State → Prop := fun _ s o t => o = .returned (r.map (mm_v b z)) ∧ mm_R D b z h' t.heap t ∧ va_F (fun q => z ≤ q) s t
/-- a method's contract, at one heap before and one behind -/
def mm_Mt (l : Launch) (D : va_G) (b z d k : Nat) (as : List Value) (h : mm_H) (r : Option Value) (h' : mm_H) : Prop :=
  Met l (mm_y k) (mm_ws k) (mm_rm d (h'.1.length - h.1.length) (mm_sl h'.1 - mm_sl h.1)) (mm_Pc D b z h as) (mm_Qc D b z h' r) (h'.1.length - h.1.length) (mm_sl h'.1 - mm_sl h.1) (fun q => z ≤ q)
/-- all contracts of depth d -/
def mm_All (l : Launch) (D : va_G) (b z d : Nat) (C : mm_C) : Prop := ∀ k as h r h', C k as h = some (r, h') → h.1.length ≤ h'.1.length ∧ mm_sl h.1 ≤ mm_sl h'.1 ∧ k < 232 ∧ mm_kd k < 3 ∧ mm_Mt l D b z d k as h r h'
theorem mm_Pc_blind {D : va_G} {b z : Nat} {h : mm_H} {as : List Value} : FrameBlind (mm_Pc D b z h as) := fun _ U g mk q => ⟨q.1, q.2.1, mm_F.same (s := U) (U := U.calling g mk _) rfl q.2.2.1, mm_R.moved (s := U) (U := U.calling g mk _) (Vm.Alike.refl U.vm) q.2.2.2⟩
theorem mm_goodT (k : Nat) (h : k < 232) : GoodIn mm_T (mm_ws k) := fun w hw => by
  rcases List.mem_cons.mp hw with rfl | hw
  · exact mm_T_good _ (mm_code_in h)
  · exact mm_T_good _ hw
section MS5
variable {p : Program} {l : Launch} {e : Env} {R : Room} {s : State} {m : MethodId} {args : Array Value} {below : List Frame} {meth : Method} {c : Code} {Q : State → Prop} {D : va_G} {b z k N0 S0 : Nat} {i : Instr} {n pc pc' : Nat} {la la' : mm_L} {st st' : List Value} {h h' : mm_H}
theorem mm_room {R : Room} {d k mc ms : Nat} (hk : k < 232) (h8 : mm_kd k < 3) (h1 : d + 1 ≤ R.frames) (h2 : 64 * (d + 1) ≤ R.locals) : (mm_rm d mc ms).frames + 1 ≤ R.frames ∧ 8 + (mm_nL k + 11) + (mm_rm d mc ms).locals ≤ R.locals := by
  have := (mm_mck_ok hk h8).2.2.2.2.2.2.2
  refine ⟨h1, ?_⟩
  show 8 + (mm_nL k + 11) + 64 * d ≤ R.locals
  omega
/-- behind a call -/
theorem mm_after {H : Heap} {locs : List Loc} {ls : Array Slot} {rest : List Value} {v : Option Value} {a : Array Value} {h1 : mm_H} {st0 : List Value} (hX : c.maxLocals = mm_nL k) (hN : N0 ≤ h.1.length) (hS0 : S0 ≤ mm_sl h.1) (hl : h.1.length ≤ h1.1.length) (hs : mm_sl h.1 ≤ mm_sl h1.1)
    (hr : va_Run p l e R s m args below meth c H locs (h.1.length - N0) (mm_sl h.1 - S0) (h1.1.length - h.1.length) (mm_sl h1.1 - mm_sl h.1) (F0 m pc ls st0) (rest.map (mm_v b z)) (mm_Qc D b z h1 v a) (fun q => z ≤ q))
    (hL : mm_LR b z (mm_nL k) la ls) (hS : va_S (fun q => z ≤ q) s.heap H locs) (kk : mm_W p l e R s m args below meth c Q D b z k N0 S0 (pc + 3) la (v.toList ++ rest) h1) : W p l e R s m args below meth c H locs (h.1.length - N0) (mm_sl h.1 - S0) Q (F0 m pc ls st0) := by
  intro T hT X
  obtain ⟨v9, st₀, t, T', L, h0, X', hLf, e1, e2, ⟨hv, hR', hz, hk⟩, st9⟩ := hr T hT X
  cases hv
  rw [h0] at hz hk
  have hvm : s.vm.Alike t.vm := by rw [← e2]; exact X'.warmed.alike
  have k1 := kk T'.heap (locs ++ L) ls (by rw [e1]; exact mm_R.moved hvm.symm hR') hL ⟨Nat.le_trans hS.1 (by rw [e1]; exact hz), fun q g1 g2 => by rw [e1, hk q (Nat.lt_of_lt_of_le g1 hS.1) g2]; exact hS.2.1 q g1 g2, fun q hq => by
    rcases List.mem_append.mp hq with g | g
    · exact hS.2.2 q g
    · exact hLf q g⟩
  have ec : h.1.length - N0 + (h1.1.length - h.1.length) = h1.1.length - N0 := by omega
  have es : mm_sl h.1 - S0 + (mm_sl h1.1 - mm_sl h.1) = mm_sl h1.1 - S0 := by omega
  rw [ec, es] at X'
  obtain ⟨t2, a1, b1⟩ := k1 T' rfl X'
  refine ⟨t2, st9 t2 ?_, b1⟩
  have ev : (Option.map (mm_v b z) v).toList ++ rest.map (mm_v b z) = (v.toList ++ rest).map (mm_v b z) := by cases v <;> rfl
  show Steps p.tables e below (T'.setTop { (F0 m pc ls st0) with pc := pc + 3, stack := (Option.map (mm_v b z) v).toList ++ rest.map (mm_v b z) }) t2
  rw [ev]
  exact a1
theorem mm_pop_ok {n : Nat} {st as r : List Value} (h : mm_pop n st = some (as, r)) : as.length = n ∧ st = as.reverse ++ r := by
  unfold mm_pop at h
  split at h
  · next hn =>
    cases h
    refine ⟨by rw [List.length_reverse, List.length_take]; omega, ?_⟩
    rw [List.reverse_reverse, List.take_append_drop]
  · cases h
theorem mm_bk_ok {n pc : Nat} {ls : mm_L} {r : List Value} {x : Option (Option Value × mm_H)} (h9 : mm_bk n pc ls r x = some (pc', la', st', h')) : ∃ v, x = some (v, h') ∧ pc' = pc + n ∧ la' = ls ∧ st' = v.toList ++ r := by
  unfold mm_bk at h9
  split at h9
  · next v h =>
    cases h9
    exact ⟨v, rfl, rfl, rfl, rfl⟩
  · cases h9
theorem mm_kA_ok {a c1 : Nat} (h9 : mm_kA h a = c1) (h12 : mm_kA h a < 12) : ∃ n, h.1[a]? = some (c1, n) := by
  unfold mm_kA at h9 h12
  split at h9
  · next c2 n hM => subst h9; exact ⟨n, hM⟩
  · next hM => rw [hM] at h12; exact absurd h12 (by decide)
set_option maxHeartbeats 4000000 in
/-- System.arraycopy -/
theorem mm_copyS {j a b9 n0 n1 t0 : Nat} {q dp sp : Int32} {r : List Value} {cA : Nat → ClassId} {H : Heap} {locs : List Loc} {ls : Array Slot} (X : mm_Cx p s m args meth c k) (hF : mm_F D s) (hd : decode (mm_b k) pc = .ok (.invokestatic j, 3)) (hw : Cond.methodLink (mm_cn (mm_o k)) j arraycopyName ∈ mm_T) (hR1 : mm_R1 D b z h H s cA) (hL : mm_LR b z (mm_nL k) la ls) (hS : va_S (fun q => z ≤ q) s.heap H locs)
    (hM0 : h.1[b9 + 1]? = some (t0, n0)) (hM1 : h.1[a + 1]? = some (t0, n1)) (ht0 : t0 = 100 ∨ t0 = 102) (g1 : ¬ sp < 0) (g2 : ¬ dp < 0) (g3 : ¬ q < 0) (g4 : sp.toNatClampNeg + q.toNatClampNeg ≤ n0) (g5 : dp.toNatClampNeg + q.toNatClampNeg ≤ n1) (hf : 1 ≤ R.frames) (hlc : mm_cat r + (nativeFrameWords "java/lang/System" "arraycopy" 5 + 11) ≤ R.locals)
    (hx : (if t0 = 100 then some (pc + 3, la, r, (h.1, h.2.1, mm_row h.2.2.1 (a + 1) (va_cpy (h.2.2.1 (b9 + 1)) (h.2.2.1 (a + 1)) sp.toNatClampNeg dp.toNatClampNeg q.toNatClampNeg), h.2.2.2)) else some (pc + 3, la, r, (h.1, h.2.1, h.2.2.1, mm_row h.2.2.2 (a + 1) (va_cpy (h.2.2.2 (b9 + 1)) (h.2.2.2 (a + 1)) sp.toNatClampNeg dp.toNatClampNeg q.toNatClampNeg)))) = some (pc', la', st', h'))
    (kk : mm_W p l e R s m args below meth c Q D b z k N0 S0 pc' la' st' h') : W p l e R s m args below meth c H locs (h.1.length - N0) (mm_sl h.1 - S0) Q (F0 m pc ls ((.int q :: .int dp :: .ref (a + 1) :: .int sp :: .ref (b9 + 1) :: r).map (mm_v b z))) := by
  obtain ⟨hexec, hb, hml, hown, hts, hinit⟩ := X
  obtain ⟨h1, h2, ⟨nn, h3, h4⟩, h5⟩ := id hR1
  obtain ⟨-, u1, u2⟩ := h5 b9 _ hM0
  obtain ⟨-, w1, w2⟩ := h5 a _ hM1
  obtain ⟨c1, c2, c3⟩ := mm_copy_w
  have nnz : ∀ x : Int32, ¬ x < 0 → x.toInt = (x.toNatClampNeg : Int) := by
    intro x hx
    have hx0 : (0 : Int) ≤ x.toInt := by
      have := Int32.not_lt.mp hx
      simpa using Int32.le_iff_toInt_le.mp this
    show x.toInt = ((x.toInt.toNat : Nat) : Int)
    omega
  have fin : ∀ (h9 : mm_H) (H9 : Heap) (locs9 : List Loc), some (pc + 3, la, r, h9) = some (pc', la', st', h') → h9.1 = h.1 → mm_R1 D b z h9 H9 s cA → va_S (fun q => z ≤ q) s.heap H9 locs9 → W p l e R s m args below meth c H9 locs9 (h.1.length - N0) (mm_sl h.1 - S0) Q (F0 m (pc + 3) ls (r.map (mm_v b z))) := by
    intro h9 H9 locs9 e9 e8 r9 s9
    cases e9
    have := kk H9 locs9 ls ⟨cA, r9⟩ hL s9
    rw [e8] at this
    exact this
  rcases ht0 with rfl | rfl
  · rw [if_pos rfl] at hx
    rw [mm_en_i (by decide) (by decide)] at u1 w1
    intro T hT Xs
    obtain ⟨-, k0, hk0, cm0, hkk0⟩ := (u2 (Nat.le_of_ble_eq_true rfl)).1 n0 (fun j => .int (h.2.2.1 (b9 + 1) j))
    obtain ⟨-, k1, hk1, cm1, hkk1⟩ := (w2 (Nat.le_of_ble_eq_true rfl)).1 n1 (fun j => .int (h.2.2.1 (a + 1) j))
    obtain ⟨vm', X', step⟩ := Xs.arraycopy hexec hown (hts _ hw) (hts _ c1) (hts _ c2) (hts _ c3) (src := z + b9) (dst := z + a) (cs := vp_cell (cA (b9 + 1)) (n0, .inl (h.2.2.1 (b9 + 1)))) (cd := vp_cell (cA (a + 1)) (n1, .inl (h.2.2.1 (a + 1)))) (srcPos := sp) (destPos := dp) (n := q) (by rw [hT]; exact u1) (by rw [hT]; exact w1)
      (fun _ h => by cases h) (fun _ h => by cases h) (fun h => by cases h) (fun h => by cases h) hk0 hk1 hkk0 hkk1 rfl g1 g2 g3
      (by rw [nnz sp g1, nnz q g3]; show ¬ _ > ((arrV _ n0 (fun j => .int (h.2.2.1 (b9 + 1) j))).slots.size : Int); rw [arrV_size]; omega)
      (by rw [nnz dp g2, nnz q g3]; show ¬ _ > ((arrV _ n1 (fun j => .int (h.2.2.1 (a + 1) j))).slots.size : Int); rw [arrV_size]; omega)
      (fun vm₁ _ i hi => by
        have e : (vp_cell (cA (b9 + 1)) (n0, .inl (h.2.2.1 (b9 + 1)))).slots.getD (sp.toNatClampNeg + i) .null = .int (h.2.2.1 (b9 + 1) (sp.toNatClampNeg + i)) := by
          show (arrV (cA (b9 + 1)) n0 (fun j => .int (h.2.2.1 (b9 + 1) j))).slots.getD _ _ = _
          rw [Array.getD_eq_getD_getElem?, arrV_read _ _ (by omega)]
          rfl
        rw [e]
        exact ⟨rfl, trivial⟩)
      (g := F0 m pc ls ((.int q :: .int dp :: .ref (a + 1) :: .int sp :: .ref (b9 + 1) :: r).map (mm_v b z))) rfl (by rw [hml]; exact hL.2.1) (rest := r.map (mm_v b z)) rfl (by rw [hb]; exact hd) hf (by rw [mm_v_cats]; show 2 * 0 + _ + _ ≤ _; omega)
    have e1 : copied (vp_cell (cA (b9 + 1)) (n0, .inl (h.2.2.1 (b9 + 1)))) (vp_cell (cA (a + 1)) (n1, .inl (h.2.2.1 (a + 1)))) sp dp q = vp_cell (cA (a + 1)) (n1, .inl (va_cpy (h.2.2.1 (b9 + 1)) (h.2.2.1 (a + 1)) sp.toNatClampNeg dp.toNatClampNeg q.toNatClampNeg)) := va_copied (fun z => .int z) _ _ _ _ g4
    rw [e1] at X' step
    have hl : z + a < H.size := (Array.getElem?_eq_some_iff.mp w1).1
    generalize hH9 : H.setIfInBounds (z + a) (vp_cell (cA (a + 1)) (n1, .inl (va_cpy (h.2.2.1 (b9 + 1)) (h.2.2.1 (a + 1)) sp.toNatClampNeg dp.toNatClampNeg q.toNatClampNeg))) = H9
    have hheap : ((T.setVm vm').setCell (z + a) (vp_cell (cA (a + 1)) (n1, .inl (va_cpy (h.2.2.1 (b9 + 1)) (h.2.2.1 (a + 1)) sp.toNatClampNeg dp.toNatClampNeg q.toNatClampNeg)))).heap = H9 := by rw [← hH9, ← hT]; rfl
    have oq : ∀ q : Nat, q ≠ z + a → H9[q]? = H[q]? := fun q hq => by rw [← hH9]; simp [Array.getElem?_setIfInBounds, Ne.symm hq]
    have zq : H9.size = H.size := by rw [← hH9]; simp
    have nq : H9[z + a]? = some (vp_cell (cA (a + 1)) (n1, .inl (va_cpy (h.2.2.1 (b9 + 1)) (h.2.2.1 (a + 1)) sp.toNatClampNeg dp.toNatClampNeg q.toNatClampNeg))) := by rw [← hH9]; simp [Array.getElem?_setIfInBounds, hl]
    obtain ⟨t, a1, b1⟩ := fin _ H9 _ hx rfl (hR1.wr (a := a) ⟨rfl, fun y hy => ⟨rfl, mm_row_ne _ _ _ hy, rfl⟩⟩ zq oq (fun q9 hq => by
      have hq2 := Option.some.inj (hq.symm.trans hM1)
      subst hq2
      rw [mm_en_i (by decide) (by decide)]
      show H9[z + a]? = some (vp_cell _ _)
      rw [nq]
      congr 2
      show _ = (n1, Sum.inl (mm_row h.2.2.1 (a + 1) _ (a + 1)))
      rw [mm_row_at])) ⟨by rw [zq]; exact hS.1, fun q g1 g2 => by rw [oq q (fun e => g2 (by rw [e]; exact Nat.le_add_right z a))]; exact hS.2.1 q g1 g2, fun q hq => by
        rcases List.mem_append.mp hq with g | g
        · exact hS.2.2 q g
        · obtain ⟨x, -, hx⟩ := List.mem_map.mp g
          rw [← hx]
          exact Nat.le_add_right z a⟩ _ hheap X'
    exact ⟨t, step t a1, b1⟩
  · rw [if_neg (by decide)] at hx
    rw [mm_en_l] at u1 w1
    intro T hT Xs
    obtain ⟨-, k0, hk0, cm0, hkk0⟩ := (u2 (Nat.le_of_ble_eq_true rfl)).1 n0 (fun j => .long (h.2.2.2 (b9 + 1) j))
    obtain ⟨-, k1, hk1, cm1, hkk1⟩ := (w2 (Nat.le_of_ble_eq_true rfl)).1 n1 (fun j => .long (h.2.2.2 (a + 1) j))
    obtain ⟨vm', X', step⟩ := Xs.arraycopy hexec hown (hts _ hw) (hts _ c1) (hts _ c2) (hts _ c3) (src := z + b9) (dst := z + a) (cs := vp_cell (cA (b9 + 1)) (n0, .inr (.inl (h.2.2.2 (b9 + 1))))) (cd := vp_cell (cA (a + 1)) (n1, .inr (.inl (h.2.2.2 (a + 1))))) (srcPos := sp) (destPos := dp) (n := q) (by rw [hT]; exact u1) (by rw [hT]; exact w1)
      (fun _ h => by cases h) (fun _ h => by cases h) (fun h => by cases h) (fun h => by cases h) hk0 hk1 hkk0 hkk1 rfl g1 g2 g3
      (by rw [nnz sp g1, nnz q g3]; show ¬ _ > ((arrV _ n0 (fun j => .long (h.2.2.2 (b9 + 1) j))).slots.size : Int); rw [arrV_size]; omega)
      (by rw [nnz dp g2, nnz q g3]; show ¬ _ > ((arrV _ n1 (fun j => .long (h.2.2.2 (a + 1) j))).slots.size : Int); rw [arrV_size]; omega)
      (fun vm₁ _ i hi => by
        have e : (vp_cell (cA (b9 + 1)) (n0, .inr (.inl (h.2.2.2 (b9 + 1))))).slots.getD (sp.toNatClampNeg + i) .null = .long (h.2.2.2 (b9 + 1) (sp.toNatClampNeg + i)) := by
          show (arrV (cA (b9 + 1)) n0 (fun j => .long (h.2.2.2 (b9 + 1) j))).slots.getD _ _ = _
          rw [Array.getD_eq_getD_getElem?, arrV_read _ _ (by omega)]
          rfl
        rw [e]
        exact ⟨rfl, trivial⟩)
      (g := F0 m pc ls ((.int q :: .int dp :: .ref (a + 1) :: .int sp :: .ref (b9 + 1) :: r).map (mm_v b z))) rfl (by rw [hml]; exact hL.2.1) (rest := r.map (mm_v b z)) rfl (by rw [hb]; exact hd) hf (by rw [mm_v_cats]; show 2 * 0 + _ + _ ≤ _; omega)
    have e1 : copied (vp_cell (cA (b9 + 1)) (n0, .inr (.inl (h.2.2.2 (b9 + 1))))) (vp_cell (cA (a + 1)) (n1, .inr (.inl (h.2.2.2 (a + 1))))) sp dp q = vp_cell (cA (a + 1)) (n1, .inr (.inl (va_cpy (h.2.2.2 (b9 + 1)) (h.2.2.2 (a + 1)) sp.toNatClampNeg dp.toNatClampNeg q.toNatClampNeg))) := va_copied (fun z => .long z) _ _ _ _ g4
    rw [e1] at X' step
    have hl : z + a < H.size := (Array.getElem?_eq_some_iff.mp w1).1
    generalize hH9 : H.setIfInBounds (z + a) (vp_cell (cA (a + 1)) (n1, .inr (.inl (va_cpy (h.2.2.2 (b9 + 1)) (h.2.2.2 (a + 1)) sp.toNatClampNeg dp.toNatClampNeg q.toNatClampNeg)))) = H9
    have hheap : ((T.setVm vm').setCell (z + a) (vp_cell (cA (a + 1)) (n1, .inr (.inl (va_cpy (h.2.2.2 (b9 + 1)) (h.2.2.2 (a + 1)) sp.toNatClampNeg dp.toNatClampNeg q.toNatClampNeg))))).heap = H9 := by rw [← hH9, ← hT]; rfl
    have oq : ∀ q : Nat, q ≠ z + a → H9[q]? = H[q]? := fun q hq => by rw [← hH9]; simp [Array.getElem?_setIfInBounds, Ne.symm hq]
    have zq : H9.size = H.size := by rw [← hH9]; simp
    have nq : H9[z + a]? = some (vp_cell (cA (a + 1)) (n1, .inr (.inl (va_cpy (h.2.2.2 (b9 + 1)) (h.2.2.2 (a + 1)) sp.toNatClampNeg dp.toNatClampNeg q.toNatClampNeg)))) := by rw [← hH9]; simp [Array.getElem?_setIfInBounds, hl]
    obtain ⟨t, a1, b1⟩ := fin _ H9 _ hx rfl (hR1.wr (a := a) ⟨rfl, fun y hy => ⟨rfl, rfl, mm_row_ne _ _ _ hy⟩⟩ zq oq (fun q9 hq => by
      have hq2 := Option.some.inj (hq.symm.trans hM1)
      subst hq2
      rw [mm_en_l]
      show H9[z + a]? = some (vp_cell _ _)
      rw [nq]
      congr 2
      show _ = (n1, Sum.inr (Sum.inl (mm_row h.2.2.2 (a + 1) _ (a + 1))))
      rw [mm_row_at])) ⟨by rw [zq]; exact hS.1, fun q g1 g2 => by rw [oq q (fun e => g2 (by rw [e]; exact Nat.le_add_right z a))]; exact hS.2.1 q g1 g2, fun q hq => by
        rcases List.mem_append.mp hq with g | g
        · exact hS.2.2 q g
        · obtain ⟨x, -, hx⟩ := List.mem_map.mp g
          rw [← hx]
          exact Nat.le_add_right z a⟩ _ hheap X'
    exact ⟨t, step t a1, b1⟩
set_option maxHeartbeats 4000000 in
theorem mm_s7 {d : Nat} {C : mm_C} (X : mm_Cx p s m args meth c k) (hF : mm_F D s) (hz : z ≤ s.heap.size) (hC : ∀ d', d = d' + 1 → mm_All l D b z d' C) (hd : decode (mm_b k) pc = .ok (i, n)) (hn : mm_ln i n = true) (hx : mm_x7 d C (mm_o k) i n pc la st h = some (pc', la', st', h')) (hN : N0 ≤ h.1.length) (hS0 : S0 ≤ mm_sl h.1) (hRc : h'.1.length - N0 ≤ R.cells) (hRs : mm_sl h'.1 - S0 ≤ R.slots) (hRf : d ≤ R.frames) (hRl : 64 * d ≤ R.locals) (kk : mm_W p l e R s m args below meth c Q D b z k N0 S0 pc' la' st' h') : mm_W p l e R s m args below meth c Q D b z k N0 S0 pc la st h := by
  have X0 := X
  obtain ⟨hexec, hb, hml, hown, hts, hinit⟩ := X
  have fix : CallFix p m c (mm_b k) (mm_nL k) s args mm_T (mm_cn (mm_o k)) := ⟨hexec, hb, hml, hown, hts⟩
  have hpc : ∀ {H : Heap} {as : List Value}, mm_R D b z h H s → z ≤ H.size → ∀ U : State, U.heap = H → s.WarmedH U.vm → mm_Pc D b z h as (as.map (mm_v b z)).toArray U := fun hR hzH U hU hW => ⟨rfl, by rw [hU]; exact hzH, hF.moved hW, by rw [hU]; exact mm_R.moved hW.alike hR⟩
  cases i with
  | invokevirtual j =>
    have hn : n = 3 := by simpa [mm_ln] using hn
    subst hn
    simp only [mm_x7] at hx
    split at hx
    · next k1 kd hlm =>
      split at hx
      · next hc =>
        obtain ⟨rfl, hd0⟩ := hc
        obtain ⟨d', rfl⟩ : ∃ d', d = d' + 1 := ⟨d - 1, by omega⟩
        split at hx
        · next as a r hp =>
          split at hx
          · next hc =>
            obtain ⟨hka, hka2, hcat⟩ := hc
            obtain ⟨v, hCv, rfl, rfl, rfl⟩ := mm_bk_ok hx
            obtain ⟨hlen, hsl, hk1, hkd3, hM⟩ := hC d' rfl k1 _ h v h' hCv
            obtain ⟨-, hk0, hw⟩ := mm_lm_0 hlm
            obtain ⟨m0, -, -, mi, mc9, md, mp, -⟩ := mm_mck_ok hk1 hkd3
            obtain ⟨m0a, m0b⟩ := m0 hk0
            obtain ⟨hal, rfl⟩ := mm_pop_ok hp
            obtain ⟨n9, hMa⟩ := mm_kA_ok hka hka2
            have h12 : mm_o k1 < 12 := by rw [← hka]; exact hka2
            intro H locs ls hR hL hS
            have hzH : z ≤ H.size := Nat.le_trans hz hS.1
            obtain ⟨cA, hR1⟩ := id hR
            obtain ⟨h1, h2, ⟨nn, h3, h4⟩, h5⟩ := id hR1
            cases a with
            | zero =>
              have e9 : 100 = mm_o k1 := congrArg Prod.fst (Option.some.inj (h3.symm.trans hMa))
              omega
            | succ a =>
              obtain ⟨-, g2, -⟩ := h5 a _ hMa
              rw [mm_en_obj h12] at g2
              have hrc := va_recv (q0 := 0) hF.1 (mm_one g2) (mm_c_at h12) rfl
              rw [(mm_c_ok h12).1] at hrc
              have cw : CallW R s args (mm_cn (mm_o k)) (mm_cn (mm_o k1)) j (mm_y k1) (mm_b k1) (mm_nL k1) (mm_rt k1) (mm_ws k1) (mm_rm d' (h'.1.length - h.1.length) (mm_sl h'.1 - mm_sl h.1)) (h'.1.length - h.1.length) (mm_sl h'.1 - mm_sl h.1) (mm_np k1) :=
                ⟨callB_of (mm_np k1) hts (mm_goodT k1 hk1) rfl rfl rfl (by rw [mc9]; exact hts _ mi) (hts _ hw) md (mm_room hk1 hkd3 hRf hRl), hts _ m0a, hts _ m0b⟩
              have hrun := va_runV (b := z + a) (As := as.map (mm_v b z)) (rest := r.map (mm_v b z)) (g := F0 m pc ls (((as.reverse ++ Value.ref (a + 1) :: r)).map (mm_v b z))) (cells := h.1.length - N0) (slots := mm_sl h.1 - S0) (locs := locs) (below := below) (e := e) (meth := meth) fix hM cw ⟨mm_Pc_blind, hrc, hpc (as := Value.ref (a + 1) :: as) hR hzH⟩ rfl (by rw [List.length_map]; exact hal) hL.2.1 (by rw [List.map_append, List.map_reverse]; rfl) (lv_room (by rw [mm_v_cats]; exact hcat)) hd ⟨by omega, by omega⟩
              exact mm_after hml hN hS0 hlen hsl hrun hL hS kk
          · cases hx
        · cases hx
      · cases hx
    · cases hx
  | invokestatic j =>
    have hn : n = 3 := by simpa [mm_ln] using hn
    subst hn
    simp only [mm_x7] at hx
    split at hx
    · next k1 kd hlm =>
      split at hx
      · next hd0 =>
        obtain ⟨d', rfl⟩ : ∃ d', d = d' + 1 := ⟨d - 1, by omega⟩
        split at hx
        · next hkd =>
          split at hx
          · next as r hp =>
            split at hx
            · next hcat =>
              obtain ⟨v, hCv, rfl, rfl, rfl⟩ := mm_bk_ok hx
              obtain ⟨hlen, hsl, hk1, hkd3, hM⟩ := hC d' rfl k1 _ h v h' hCv
              obtain ⟨-, m1, -, mi, mc9, md, mp, -⟩ := mm_mck_ok hk1 hkd3
              obtain ⟨hal, rfl⟩ := mm_pop_ok hp
              intro H locs ls hR hL hS
              have hzH : z ≤ H.size := Nat.le_trans hz hS.1
              rcases hkd with rfl | rfl
              · obtain ⟨-, hk0, hw⟩ := mm_lm_1 hlm
                have cw : CallB R s args (mm_cn (mm_o k)) j (mm_y k1) (mm_b k1) (mm_nL k1) (mm_rt k1) (mm_ws k1) (mm_rm d' (h'.1.length - h.1.length) (mm_sl h'.1 - mm_sl h.1)) (h'.1.length - h.1.length) (mm_sl h'.1 - mm_sl h.1) (mm_np k1) ∧ (Cond.static (mm_y k1)).before args s = true :=
                  ⟨callB_of (mm_np k1) hts (mm_goodT k1 hk1) rfl rfl rfl (by rw [mc9]; exact hts _ mi) (hts _ hw) md (mm_room hk1 hkd3 hRf hRl), hts _ (m1 hk0)⟩
                have hrun := va_runS (As := as.map (mm_v b z)) (rest := r.map (mm_v b z)) (H := H) (g := F0 m pc ls (((as.reverse ++ r)).map (mm_v b z))) (cells := h.1.length - N0) (slots := mm_sl h.1 - S0) (locs := locs) (below := below) (e := e) (meth := meth) fix hM cw ⟨mm_Pc_blind, hpc (as := as) hR hzH⟩ rfl (by rw [List.length_map]; exact hal) hL.2.1 (by rw [List.map_append, List.map_reverse]) (lv_room (by rw [mm_v_cats]; exact hcat)) hd ⟨by omega, by omega⟩
                exact mm_after hml hN hS0 hlen hsl hrun hL hS kk
              · obtain ⟨rfl, hk0, ho9, rfl⟩ := mm_lm_3 hlm
                have hnest : va_Nw (.methodLinkNest (mm_cn (mm_o k)) 32 (mm_y 150) "OrbitDesigns") s := by rw [ho9]; exact hF.2.2
                have cw : va_CN R s args (mm_cn (mm_o k)) 32 (mm_y 150) "OrbitDesigns" (mm_b 150) (mm_nL 150) (mm_rt 150) (mm_ws 150) (mm_rm d' (h'.1.length - h.1.length) (mm_sl h'.1 - mm_sl h.1)) (h'.1.length - h.1.length) (mm_sl h'.1 - mm_sl h.1) (mm_np 150) ∧ (Cond.static (mm_y 150)).before args s = true ∧ True :=
                  ⟨va_cnB (mm_np 150) hts (mm_goodT 150 hk1) rfl rfl rfl hnest (by rw [mc9]; exact hts _ mi) md (mm_room hk1 hkd3 hRf hRl), hts _ (m1 hk0), trivial⟩
                have hrun := va_runSN (As := as.map (mm_v b z)) (rest := r.map (mm_v b z)) (H := H) (g := F0 m pc ls (((as.reverse ++ r)).map (mm_v b z))) (cells := h.1.length - N0) (slots := mm_sl h.1 - S0) (locs := locs) (below := below) (e := e) (meth := meth) fix hM cw ⟨mm_Pc_blind, hpc (as := as) hR hzH⟩ rfl (by rw [List.length_map]; exact hal) hL.2.1 (by rw [List.map_append, List.map_reverse]) (lv_room (by rw [mm_v_cats]; exact hcat)) hd ⟨by omega, by omega⟩
                exact mm_after hml hN hS0 hlen hsl hrun hL hS kk
            · cases hx
          · cases hx
        · split at hx
          · next hkd =>
            subst hkd
            have hw := mm_lm_4 hlm
            obtain ⟨c1, c2, c3⟩ := mm_copy_w
            unfold mm_ac at hx
            split at hx
            · next q dp a sp b9 r =>
              split at hx
              · next t0 n0 t1 n1 hM0 hM1 =>
                split at hx
                · next hc =>
                  obtain ⟨ht0, rfl, ha0, hb0, g1, g2, g3, g4, g5, hcat⟩ := hc
                  intro H locs ls hR hL hS
                  obtain ⟨cA, hR1⟩ := id hR
                  obtain ⟨h1, h2, ⟨nn, h3, h4⟩, h5⟩ := id hR1
                  cases a with
                  | zero => exact absurd rfl ha0
                  | succ a =>
                    cases b9 with
                    | zero => exact absurd rfl hb0
                    | succ b9 =>
                      obtain ⟨-, u1, u2⟩ := h5 b9 _ hM0
                      obtain ⟨-, w1, w2⟩ := h5 a _ hM1
                      have mc9 : mm_cat r + (nativeFrameWords "java/lang/System" "arraycopy" 5 + 11) ≤ R.locals := by
                        have : nativeFrameWords "java/lang/System" "arraycopy" 5 = 7 := by decide +kernel
                        omega
                      exact mm_copyS X0 hF hd hw hR1 hL hS hM0 hM1 ht0 g1 g2 g3 g4 g5 (by omega) mc9 hx kk
                · cases hx
              · cases hx
            · cases hx
          · split at hx
            · next hkd =>
              subst hkd
              have hw := mm_lm_6 hlm
              obtain ⟨c1, c2, c3⟩ := mm_math_w
              split at hx
              · next y x r =>
                split at hx
                · next hcat =>
                  cases hx
                  intro H locs ls hR hL hS
                  exact va_mmax hexec hb (by rw [hml]; exact hL.2.1.symm) hown (hts _ hw) (hts _ c1) (hts _ c3) (hts _ mm_max_code) (by omega) (by rw [mm_v_cats]; omega) hRc hRs hd (kk H locs ls hR hL hS)
                · cases hx
              · cases hx
            · split at hx
              · next hkd =>
                subst hkd
                have hw := mm_lm_7 hlm
                obtain ⟨c1, c2, c3⟩ := mm_math_w
                split at hx
                · next y x r =>
                  split at hx
                  · next hcat =>
                    cases hx
                    intro H locs ls hR hL hS
                    exact va_mmin hexec hb (by rw [hml]; exact hL.2.1.symm) hown (hts _ hw) (hts _ c2) (hts _ c3) (hts _ mm_min_code) (by omega) (by rw [mm_v_cats]; omega) hRc hRs hd (kk H locs ls hR hL hS)
                  · cases hx
                · cases hx
              · cases hx
      · cases hx
    · cases hx
  | invokespecial j =>
    have hn : n = 3 := by simpa [mm_ln] using hn
    subst hn
    simp only [mm_x7] at hx
    split at hx
    · next k1 kd hlm =>
      split at hx
      · next hd0 =>
        obtain ⟨d', rfl⟩ : ∃ d', d = d' + 1 := ⟨d - 1, by omega⟩
        split at hx
        · next hkd =>
          subst hkd
          split at hx
          · next as a r hp =>
            split at hx
            · next hcat =>
              obtain ⟨v, hCv, rfl, rfl, rfl⟩ := mm_bk_ok hx
              obtain ⟨hlen, hsl, hk1, hkd3, hM⟩ := hC d' rfl k1 _ h v h' hCv
              obtain ⟨-, hk0, hw⟩ := mm_lm_2 hlm
              obtain ⟨-, -, m2, mi, mc9, md, mp, -⟩ := mm_mck_ok hk1 hkd3
              obtain ⟨m2a, m2b, m2c⟩ := m2 hk0
              obtain ⟨hal, rfl⟩ := mm_pop_ok hp
              intro H locs ls hR hL hS
              have hzH : z ≤ H.size := Nat.le_trans hz hS.1
              have cw : CallB R s args (mm_cn (mm_o k)) j (mm_y k1) (mm_b k1) (mm_nL k1) none (mm_ws k1) (mm_rm d' (h'.1.length - h.1.length) (mm_sl h'.1 - mm_sl h.1)) (h'.1.length - h.1.length) (mm_sl h'.1 - mm_sl h.1) (mm_np k1) ∧ (mm_y k1).name = "<init>" ∧ (Cond.instanceMethod (mm_y k1)).before args s = true :=
                ⟨callB_of (mm_np k1) hts (mm_goodT k1 hk1) (by rw [← m2c]; rfl) rfl rfl (by rw [mc9]; exact hts _ mi) (hts _ hw) md (mm_room hk1 hkd3 hRf hRl), m2b, hts _ m2a⟩
              have hrun := va_runI (b := mm_ad b z a) (As := as.map (mm_v b z)) (rest := r.map (mm_v b z)) (H := H) (g := F0 m pc ls (((as.reverse ++ Value.ref a :: r)).map (mm_v b z))) (cells := h.1.length - N0) (slots := mm_sl h.1 - S0) (locs := locs) (below := below) (e := e) (meth := meth) fix hM cw ⟨mm_Pc_blind, hpc (as := Value.ref a :: as) hR hzH⟩ rfl (by rw [List.length_map]; exact hal) hL.2.1 (by rw [List.map_append, List.map_reverse]; rfl) (lv_room (by rw [mm_v_cats]; exact hcat)) hd ⟨by omega, by omega⟩
              exact mm_after hml hN hS0 hlen hsl hrun hL hS kk
            · cases hx
          · cases hx
        · split at hx
          · next hkd =>
            subst hkd
            have hw := mm_lm_5 hlm
            split at hx
            · next a r =>
              split at hx
              · next hcat =>
                cases hx
                intro H locs ls hR hL hS
                exact W.objInit hexec hb hown (hts _ hw) (hts _ mm_obj_w) (hts _ mm_obj_code) rfl (by rw [hml]; exact hL.2.1) rfl hd (by omega) (by rw [mm_v_cats]; show 2 * 0 + mm_cat _ + 12 ≤ R.locals; omega) (kk H locs ls hR hL hS)
              · cases hx
            · cases hx
          · cases hx
      · cases hx
    · cases hx
  | _ => exact absurd hx (by simp [mm_x7])
end MS5
