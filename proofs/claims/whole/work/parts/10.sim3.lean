-- SIMULATION, writes of the heap
def mm_same (h h' : mm_H) (i : Nat) : Prop := h'.1 = h.1 ∧ ∀ x, x ≠ i → h'.2.1 x = h.2.1 x ∧ h'.2.2.1 x = h.2.2.1 x ∧ h'.2.2.2 x = h.2.2.2 x
theorem mm_en_same {b z : Nat} {h h' : mm_H} {cA : Nat → ClassId} {x : Nat} {q : Nat × Nat} (h1 : h'.2.1 x = h.2.1 x ∧ h'.2.2.1 x = h.2.2.1 x ∧ h'.2.2.2 x = h.2.2.2 x) : mm_en b z h' cA x q = mm_en b z h cA x q := by
  obtain ⟨e1, e2, e3⟩ := h1
  unfold mm_en mm_fv
  rw [e1, e2, e3]
theorem mm_R1.wr {D : va_G} {b z a : Nat} {h h' : mm_H} {H H' : Heap} {s : State} {cA : Nat → ClassId} (hR : mm_R1 D b z h H s cA) (hs : mm_same h h' (a + 1)) (hz : H'.size = H.size) (ho : ∀ q : Nat, q ≠ z + a → H'[q]? = H[q]?) (hn : ∀ q, h.1[a + 1]? = some q → va_at D vwCl (z + a, mm_en b z h' cA (a + 1) q) H') : mm_R1 D b z h' H' s cA := by
  obtain ⟨h1, h2, ⟨n, h3, h4⟩, h5⟩ := hR
  obtain ⟨s1, s2⟩ := hs
  refine ⟨h1, by rw [hz, s1]; exact h2, ⟨n, by rw [s1]; exact h3, ?_⟩, fun i q hq => ?_⟩
  · rw [(s2 0 (by omega)).2.1]
    exact h4.kept (ho b (by omega))
  · rw [s1] at hq
    obtain ⟨g1, g2, g3⟩ := h5 i q hq
    refine ⟨g1, ?_, g3⟩
    by_cases hi : i = a
    · subst hi
      exact hn q hq
    · rw [mm_en_same (s2 (i + 1) (by omega))]
      exact g2.kept (ho (z + i) (by show z + i ≠ z + a; omega))
theorem mm_vpV {c j : Nat} {g : Nat → Value} (hj : j < mm_fn c) : vp_V ((List.range (mm_fn c)).map g) j = g j := by
  unfold vp_V
  rw [List.getD_eq_getElem?_getD, List.getElem?_map, List.getElem?_range hj]
  rfl
theorem mm_u2_row {α : Type} (f : Nat → Nat → α) (a k : Nat) (v : α) {x : Nat} (h : x ≠ a) : mm_u2 f a k v x = f x := by
  funext j
  simp [mm_u2, h]
theorem mm_u2_at {α : Type} (f : Nat → Nat → α) (a k : Nat) (v : α) (j : Nat) : mm_u2 f a k v a j = if j = k then v else f a j := by
  simp [mm_u2]
theorem mm_row_ne {α : Type} (f : Nat → Nat → α) (a : Nat) (g : Nat → α) {x : Nat} (h : x ≠ a) : mm_row f a g x = f x := by
  funext j
  simp [mm_row, h]
theorem mm_row_at {α : Type} (f : Nat → Nat → α) (a : Nat) (g : Nat → α) : mm_row f a g a = g := by
  funext j
  simp [mm_row]
section MS3
variable {p : Program} {l : Launch} {e : Env} {R : Room} {s : State} {m : MethodId} {args : Array Value} {below : List Frame} {meth : Method} {c : Code} {Q : State → Prop} {D : va_G} {b z k N0 S0 : Nat} {i : Instr} {n pc pc' : Nat} {la la' : mm_L} {st st' : List Value} {h h' : mm_H}
set_option maxHeartbeats 4000000 in
/-- a field is set -/
theorem mm_putf (X : mm_Cx p s m args meth c k) (hF : mm_F D s) {j c1 f a n1 : Nat} {r : List Value} {v : Value} (hd : decode (mm_b k) pc = .ok (.putfield j, 3)) (hlf : mm_lf (mm_o k) j = some (c1, f)) (hM : h.1[a]? = some (c1, n1)) (hs : mm_same h h' a) (hv : mm_fv b z h' a c1 f = mm_v b z v) (ho : ∀ x, x ≠ f → mm_fv b z h' a c1 x = mm_fv b z h a c1 x) (hna : narrow (mm_ty c1 f) (mm_v b z v) = mm_v b z v) (hfi : fits (mm_ty c1 f) (mm_v b z v) = true) (hfin : mm_ff c1 f = false ∨ mm_ff c1 f = true ∧ mm_o k = c1 ∧ mm_kd k = 2)
    (kk : mm_W p l e R s m args below meth c Q D b z k N0 S0 (pc + 3) la r h') : mm_W p l e R s m args below meth c Q D b z k N0 S0 pc la (v :: .ref a :: r) h := by
  obtain ⟨hexec, hb, hml, hown, hts, hinit⟩ := X
  obtain ⟨h12, hk, hw⟩ := mm_lf_ok hlf
  obtain ⟨c1n, c2n, cin⟩ := mm_c_ok h12
  obtain ⟨ty1, ty2, ty3, -⟩ := mm_ty_ok h12 hk
  intro H locs ls hR hL hS
  obtain ⟨cA, hR1⟩ := id hR
  obtain ⟨h1, h2, ⟨nn, h3, h4⟩, h5⟩ := id hR1
  cases a with
  | zero => rw [h3] at hM; cases hM; omega
  | succ a =>
    obtain ⟨-, g2, -⟩ := h5 a _ hM
    rw [mm_en_obj h12] at g2
    obtain ⟨r0, hr0, cell, q1, q2, q3, q4⟩ := g2
    have hr : r0 = mm_c c1 := Option.some.inj (hr0.symm.trans (mm_c_at h12))
    subst hr
    obtain ⟨hSl, hfc, kC, hkC, hkind⟩ := hF.1.1 c1 _ (mm_c_at h12)
    have hkN : f < (mm_c c1).2.2 := by rw [c2n]; exact hk
    obtain ⟨cf, kf, fi, fd, hi, hsl⟩ := hSl f hkN
    have hap := va_apart (own := mm_cn c1) (C := (mm_c c1).1) (T := (mm_c c1).2.1) (N := (mm_c c1).2.2) (ci := c1) (Ts := mm_T) hts cin (mm_ty c1) (fun k hk => (mm_ty_ok h12 (by rw [← c2n]; exact hk)).1) (by rw [c2n]; exact mm_nm_ok h12) hF.1 (mm_c_at h12)
    have hst := (u_facts hfc hkC (u_lays hts cin hkN) hi).1
    have hi2 : s.fieldFound? (mm_cn c1) ((mm_c c1).2.1 f).2.1 ((mm_c c1).2.1 f).2.2.1 = some (cf, kf, fi, fd) := by rw [← ty2]; exact hi
    have hlay := hts _ (cin _ (u_in_lay hkN))
    have fin : ∀ (H' : Heap), H'[z + a]? = some (cell.setSlot fd.slot (mm_v b z v)) → H'.size = H.size → (∀ q : Nat, q ≠ z + a → H'[q]? = H[q]?) → W p l e R s m args below meth c H' (locs ++ [⟨z + a, fd.slot⟩]) (h.1.length - N0) (mm_sl h.1 - S0) Q (F0 m (pc + 3) ls (r.map (mm_v b z))) := by
      intro H' e1 e2 e3
      rw [hsl] at e1
      have hR' : mm_R1 D b z h' H' s cA := hR1.wr hs e2 e3 (fun q hq => by
        have hq2 : q = (c1, n1) := Option.some.inj (hq.symm.trans hM)
        subst hq2
        rw [mm_en_obj h12]
        refine ⟨_, mm_c_at h12, t_OB.to (V := updV (vp_V ((List.range (mm_fn c1)).map (fun k => mm_fv b z h (a + 1) c1 k))) f (mm_v b z v)) ⟨_, e1, q2, q3, t_set q4 hap hkN (mm_v b z v)⟩ (fun j hj => ?_)⟩
        have hj : j < mm_fn c1 := by rw [← c2n]; exact hj
        rw [mm_vpV hj]
        unfold updV
        by_cases hjf : j = f
        · rw [if_pos hjf, hjf]
          exact hv.symm
        · rw [if_neg hjf, mm_vpV hj, ho j hjf])
      have k1 := kk H' (locs ++ [⟨z + a, fd.slot⟩]) ls ⟨cA, hR'⟩ hL (hS.put e2 e3 (Nat.le_add_right z a))
      rw [hs.1] at k1
      exact k1
    have hlt : fd.slot < cell.slots.size := by rw [hsl]; exact k2_hasslot (q4 f hkN)
    rcases hfin with hf | ⟨hf, hok, hkd⟩
    · unfold u_lay at hlay
      rw [if_neg (by rw [ty3, hf]; decide)] at hlay
      have h6 := u_store hfc hkC hkind hlay hi ty1 hna hfi
      exact W.putK hexec hb (f := fd) ⟨hown, hts _ hw, ⟨_, _, _, hi2⟩, hst⟩ (by rw [q2]; exact h6) q1 q3 hlt rfl rfl hd fin
    · unfold u_lay at hlay
      rw [if_pos (by rw [ty3]; exact hf)] at hlay
      have hcf : m.cls = cf := by
        obtain ⟨_, _, c', _, _, _, -, -, hf', -, -, -, hown2, -⟩ := Cond.laysFinal_spec hlay
        have e1 : c' = cf := by have := hi.symm.trans hf'; simp at this; exact this.1.symm
        rw [ty2, ← hok] at hown2
        rw [← e1]
        exact Option.some.inj (hown.symm.trans hown2)
      have h6 := u_fits hfc hkC hkind (Or.inr hlay) hi ty1 hna hfi
      exact W.putFinK hexec hb hown (hts _ hw) hi2 hst hcf (hinit hkd) (by rw [q2]; exact h6) q1 q3 hlt rfl rfl hd fin
set_option maxHeartbeats 4000000 in
theorem mm_s5 (X : mm_Cx p s m args meth c k) (hF : mm_F D s) (hd : decode (mm_b k) pc = .ok (i, n)) (hn : mm_ln i n = true) (hx : mm_x5 k i n pc la st h = some (pc', la', st', h')) (kk : mm_W p l e R s m args below meth c Q D b z k N0 S0 pc' la' st' h') : mm_W p l e R s m args below meth c Q D b z k N0 S0 pc la st h := by
  have X0 := X
  obtain ⟨hexec, hb, hml, hown, hts, hinit⟩ := X
  cases i with
  | putfield j =>
    have hn : n = 3 := by simpa [mm_ln] using hn
    subst hn
    simp only [mm_x5] at hx
    split at hx
    · next c1 f x a r hlf =>
      split at hx
      · next c2 n1 hM =>
        split at hx
        · next hc =>
          obtain ⟨rfl, hk2, hf⟩ := hc
          cases hx
          obtain ⟨h12, hk, hw⟩ := mm_lf_ok hlf
          obtain ⟨-, -, -, ty4⟩ := mm_ty_ok h12 hk
          have hne : ¬ mm_fk c2 f = 2 := by omega
          refine mm_putf X0 hF (h' := (h.1, h.2.1, mm_u2 h.2.2.1 a f x, h.2.2.2)) (v := .int x) hd hlf hM ⟨rfl, fun y hy => ⟨rfl, mm_u2_row _ _ _ _ hy, rfl⟩⟩ ?_ ?_ ?_ ?_ (Or.inl hf) kk
          · unfold mm_fv
            rw [if_neg hne]
            show Value.int (mm_u2 h.2.2.1 a f x a f) = _
            rw [mm_u2_at, if_pos rfl]
            rfl
          · intro y hy
            unfold mm_fv
            show (if mm_fk c2 y = 2 then _ else Value.int (mm_u2 h.2.2.1 a f x a y)) = _
            rw [mm_u2_at, if_neg hy]
          · rw [if_neg hne] at ty4
            rcases hk2 with hk2 | ⟨hk2, hx01⟩
            · rw [if_neg (by omega)] at ty4
              rw [ty4.2]
              rfl
            · rw [if_pos hk2] at ty4
              rw [ty4]
              rcases hx01 with rfl | rfl <;> rfl
          · rw [if_neg hne] at ty4
            rcases hk2 with hk2 | ⟨hk2, hx01⟩
            · rw [if_neg (by omega)] at ty4
              rw [ty4.2]
              rfl
            · rw [if_pos hk2] at ty4
              rw [ty4]
              rcases hx01 with rfl | rfl <;> rfl
        · cases hx
      · cases hx
    · next c1 f x a r hlf =>
      split at hx
      · next c2 n1 hM =>
        split at hx
        · next hc =>
          obtain ⟨rfl, hk2, hf, hok, hkd⟩ := hc
          cases hx
          obtain ⟨h12, hk, hw⟩ := mm_lf_ok hlf
          obtain ⟨-, -, -, ty4⟩ := mm_ty_ok h12 hk
          rw [if_pos hk2] at ty4
          refine mm_putf X0 hF (h' := (h.1, mm_u2 h.2.1 a f (some x), h.2.2.1, h.2.2.2)) (v := .ref x) hd hlf hM ⟨rfl, fun y hy => ⟨mm_u2_row _ _ _ _ hy, rfl, rfl⟩⟩ ?_ ?_ ?_ ?_ (Or.inr ⟨hf, hok, hkd⟩) kk
          · unfold mm_fv
            rw [if_pos hk2]
            show va_rf ((mm_u2 h.2.1 a f (some x) a f).map (mm_ad b z)) = _
            rw [mm_u2_at, if_pos rfl]
            rfl
          · intro y hy
            unfold mm_fv
            show (if mm_fk c2 y = 2 then va_rf ((mm_u2 h.2.1 a f (some x) a y).map (mm_ad b z)) else _) = _
            rw [mm_u2_at, if_neg hy]
          · have := ty4.2
            cases hty : mm_ty c2 f <;> first | rfl | (rw [hty] at this; cases this)
          · have := ty4.2
            cases hty : mm_ty c2 f <;> first | rfl | (rw [hty] at this; cases this)
        · cases hx
      · cases hx
    · cases hx
  | iastore =>
    have hn : n = 1 := by simpa [mm_ln] using hn
    subst hn
    simp only [mm_x5] at hx
    split at hx
    · next x j a r =>
      split at hx
      · next hc =>
        obtain ⟨n1, hM, hin⟩ := mm_in1_ok hc.1
        have ha := hc.2
        cases hx
        intro H locs ls hR hL hS
        obtain ⟨cA, hR1⟩ := id hR
        obtain ⟨h1, h2, ⟨nn, h3, h4⟩, h5⟩ := id hR1
        cases a with
        | zero => exact absurd rfl ha
        | succ a =>
          obtain ⟨-, g2, g3⟩ := h5 a _ hM
          rw [mm_en_i (by decide) (by decide)] at g2
          refine W.iast hexec hb g2 ((g3 (Nat.le_of_ble_eq_true rfl)).1 n1 (fun j => .int (h.2.2.1 (a + 1) j))) (fun q => by cases q) (by show ¬ (j < 0 ∨ (arrV _ _ _).slots.size ≤ _); rw [arrV_size]; exact hin) rfl rfl hd fun H' e1 e2 e3 => ?_
          refine kk H' _ ls ⟨cA, hR1.wr ⟨rfl, fun y hy => ⟨rfl, mm_u2_row _ _ _ _ hy, rfl⟩⟩ e2 e3 (fun q hq => ?_)⟩ hL (hS.put e2 e3 (Nat.le_add_right z a))
          have hq2 := Option.some.inj (hq.symm.trans hM)
          subst hq2
          rw [mm_en_i (by decide) (by decide)]
          show H'[z + a]? = some (vp_cell _ _)
          rw [e1, vp_cell_i, vp_cell_i, arrV_store]
          congr 2
          funext q
          by_cases hq : q = j.toNatClampNeg
          · subst hq; simp [updV, mm_u2]
          · simp [updV, mm_u2, hq]
      · cases hx
    · cases hx
  | bastore =>
    have hn : n = 1 := by simpa [mm_ln] using hn
    subst hn
    simp only [mm_x5] at hx
    split at hx
    · next x j a r =>
      split at hx
      · next hc =>
        obtain ⟨n1, hM, hin⟩ := mm_in1_ok hc.1
        have ha := hc.2
        cases hx
        intro H locs ls hR hL hS
        obtain ⟨cA, hR1⟩ := id hR
        obtain ⟨h1, h2, ⟨nn, h3, h4⟩, h5⟩ := id hR1
        cases a with
        | zero => exact absurd rfl ha
        | succ a =>
          obtain ⟨-, g2, g3⟩ := h5 a _ hM
          rw [mm_en_i (by decide) (by decide)] at g2
          refine W.zast hexec hb g2 ((g3 (Nat.le_of_ble_eq_true rfl)).1 n1 (fun j => .int (h.2.2.1 (a + 1) j))) (fun q => by cases q) (by show ¬ (j < 0 ∨ (arrV _ _ _).slots.size ≤ _); rw [arrV_size]; exact hin) rfl rfl hd fun H' e1 e2 e3 => ?_
          refine kk H' _ ls ⟨cA, hR1.wr ⟨rfl, fun y hy => ⟨rfl, mm_u2_row _ _ _ _ hy, rfl⟩⟩ e2 e3 (fun q hq => ?_)⟩ hL (hS.put e2 e3 (Nat.le_add_right z a))
          have hq2 := Option.some.inj (hq.symm.trans hM)
          subst hq2
          rw [mm_en_i (by decide) (by decide)]
          show H'[z + a]? = some (vp_cell _ _)
          rw [e1, vp_cell_i, vp_cell_i, arrV_store]
          congr 2
          funext q
          by_cases hq : q = j.toNatClampNeg
          · subst hq
            simp [updV, mm_u2, vp_nar]
            try rfl
          · simp [updV, mm_u2, hq]
      · cases hx
    · cases hx
  | lastore =>
    have hn : n = 1 := by simpa [mm_ln] using hn
    subst hn
    simp only [mm_x5] at hx
    split at hx
    · next x j a r =>
      split at hx
      · next hc =>
        obtain ⟨n1, hM, hin⟩ := mm_in1_ok hc.1
        have ha := hc.2
        cases hx
        intro H locs ls hR hL hS
        obtain ⟨cA, hR1⟩ := id hR
        obtain ⟨h1, h2, ⟨nn, h3, h4⟩, h5⟩ := id hR1
        cases a with
        | zero => exact absurd rfl ha
        | succ a =>
          obtain ⟨-, g2, g3⟩ := h5 a _ hM
          rw [mm_en_l] at g2
          refine W.last hexec hb g2 ((g3 (Nat.le_of_ble_eq_true rfl)).1 n1 (fun j => .long (h.2.2.2 (a + 1) j))) (fun q => by cases q) (by show ¬ (j < 0 ∨ (arrV _ _ _).slots.size ≤ _); rw [arrV_size]; exact hin) rfl rfl hd fun H' e1 e2 e3 => ?_
          refine kk H' _ ls ⟨cA, hR1.wr ⟨rfl, fun y hy => ⟨rfl, rfl, mm_u2_row _ _ _ _ hy⟩⟩ e2 e3 (fun q hq => ?_)⟩ hL (hS.put e2 e3 (Nat.le_add_right z a))
          have hq2 := Option.some.inj (hq.symm.trans hM)
          subst hq2
          rw [mm_en_l]
          show H'[z + a]? = some (vp_cell _ _)
          rw [e1, vp_cell_l, vp_cell_l, arrV_store]
          congr 2
          funext q
          by_cases hq : q = j.toNatClampNeg
          · subst hq; simp [updV, mm_u2]
          · simp [updV, mm_u2, hq]
      · cases hx
    · cases hx
  | aastore =>
    have hn : n = 1 := by simpa [mm_ln] using hn
    subst hn
    simp only [mm_x5] at hx
    split at hx
    · next x j a r =>
      split at hx
      · next t n1 c1 n2 hM hM2 =>
        split at hx
        · next hc =>
          obtain ⟨ht, hin⟩ := hc
          cases hx
          intro H locs ls hR hL hS
          obtain ⟨cA, hR1⟩ := id hR
          obtain ⟨h1, h2, ⟨nn, h3, h4⟩, h5⟩ := id hR1
          cases a with
          | zero => rw [h3] at hM; cases hM; omega
          | succ a =>
            cases x with
            | zero => rw [h3] at hM2; cases hM2; omega
            | succ x =>
              obtain ⟨-, g2, g3⟩ := h5 a _ hM
              obtain ⟨-, w2, -⟩ := h5 x _ hM2
              have ht3 : 103 ≤ t := by omega
              have h12 : c1 < 12 := by omega
              rw [mm_en_q ht3] at g2
              rw [mm_en_obj h12] at w2
              obtain ⟨r0, hr0, cellV, v1, v2, v3, -⟩ := w2
              have hcls := (hF.1.1 c1 _ hr0).2
              have hra : ∃ (kA : Class) (comp : ClassId), s.vm.classes[cA (a + 1)]? = some kA ∧ kA.kind = .array comp (mm_aty t) ∧ s.vm.findClass r0.1 = some comp := by
                have hr : r0 = mm_c c1 := Option.some.inj (hr0.symm.trans (mm_c_at h12))
                subst hr
                have g4 := (g3 (show 100 ≤ t by omega)).2
                rcases ht with ⟨rfl, rfl⟩ | ⟨rfl, rfl⟩ | ⟨rfl, rfl⟩ <;> (obtain ⟨kA, comp, k1, k2, k3, -⟩ := g4; exact ⟨kA, comp, k1, k2, k3⟩)
              obtain ⟨kA, comp, k1, k2, k3⟩ := hra
              have hcomp : comp = D.1 c1 := Option.some.inj (k3.symm.trans hcls.1)
              subst hcomp
              obtain ⟨kC, hkC, -⟩ := hcls.2
              have hlt : j.toNatClampNeg < n1 := Nat.not_le.mp fun q => hin (Or.inr q)
              have h0 : ¬ j < 0 := fun q => hin (Or.inl q)
              refine W.aast hexec hb g2 (fun q h => by cases h) (fun h => by cases h) k1 k2 (mm_aty_ref ht3 (by omega)) hkC ⟨h0, by show _ < (arrV _ _ _).slots.size; rw [arrV_size]; exact hlt⟩ v1 (fun q h => by rw [v3] at h; cases h) (by rw [v2]; exact hkC) (by rw [v2]; exact va_assign hcls) rfl rfl hd fun H' e1 e2 e3 => ?_
              refine kk H' _ ls ⟨cA, hR1.wr ⟨rfl, fun y hy => ⟨mm_u2_row _ _ _ _ hy, rfl, rfl⟩⟩ e2 e3 (fun q hq => ?_)⟩ hL (hS.put e2 e3 (Nat.le_add_right z a))
              have hq2 := Option.some.inj (hq.symm.trans hM)
              subst hq2
              rw [mm_en_q ht3]
              show H'[z + a]? = some (vp_cell _ _)
              rw [e1, vp_cell_q, vp_cell_q, arrV_store]
              congr 2
              funext q
              by_cases hq : q = j.toNatClampNeg
              · subst hq; simp [updV, mm_u2, va_rf, mm_ad]
              · simp [updV, mm_u2, hq]
        · cases hx
      · cases hx
    · cases hx
  | _ => exact absurd hx (by simp [mm_x5])
end MS3
