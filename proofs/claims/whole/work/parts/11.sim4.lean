-- SIMULATION, makings
/-- new cells behind the old ones -/
theorem mm_R1.app {D : va_G} {b z : Nat} {h h' : mm_H} {H H' : Heap} {s : State} {cA cA' : Nat → ClassId} {E : List (Nat × Nat)} (hR : mm_R1 D b z h H s cA) (hM : h'.1 = h.1 ++ E) (hrow : ∀ x, x < h.1.length → h'.2.1 x = h.2.1 x ∧ h'.2.2.1 x = h.2.2.1 x ∧ h'.2.2.2 x = h.2.2.2 x) (hcA : ∀ x, x < h.1.length → cA' x = cA x) (hz : H'.size = H.size + E.length) (ho : ∀ q : Nat, q < H.size → H'[q]? = H[q]?)
    (hE : ∀ j q, E[j]? = some q → mm_tag q ∧ va_at D vwCl (H.size + j, mm_en b z h' cA' (h.1.length + j) q) H' ∧ (100 ≤ q.1 → ArrOfT s (cA' (h.1.length + j)) (mm_aty q.1) ∧ va_RA s (cA' (h.1.length + j)) (mm_aty q.1))) : mm_R1 D b z h' H' s cA' := by
  obtain ⟨h1, h2, ⟨n, h3, h4⟩, h5⟩ := hR
  have hlen : 0 < h.1.length := (List.getElem?_eq_some_iff.mp h3).1
  refine ⟨h1, ?_, ⟨n, ?_, ?_⟩, fun i q hq => ?_⟩
  · rw [hz, hM, List.length_append]
    omega
  · rw [hM, List.getElem?_append_left hlen]
    exact h3
  · rw [(hrow 0 hlen).2.1]
    exact h4.kept (ho b (mm_va_X_lt h4))
  · rw [hM] at hq
    by_cases hi : i + 1 < h.1.length
    · rw [List.getElem?_append_left hi] at hq
      obtain ⟨g1, g2, g3⟩ := h5 i q hq
      rw [hcA (i + 1) hi]
      refine ⟨g1, ?_, g3⟩
      have e : mm_en b z h' cA' (i + 1) q = mm_en b z h cA (i + 1) q := by
        obtain ⟨e1, e2, e3⟩ := hrow (i + 1) hi
        unfold mm_en mm_fv
        rw [e1, e2, e3, hcA (i + 1) hi]
      rw [e]
      exact g2.kept (ho (z + i) (show z + i < H.size by omega))
    · rw [List.getElem?_append_right (by omega)] at hq
      have g := hE _ q hq
      have e1 : H.size + (i + 1 - h.1.length) = z + i := by omega
      have e2 : h.1.length + (i + 1 - h.1.length) = i + 1 := by omega
      rw [e1, e2] at g
      exact g
theorem mm_E1 {P : Nat → Nat × Nat → Prop} {q : Nat × Nat} (h : P 0 q) : ∀ j q', [q][j]? = some q' → P j q' := fun j q' hj => by
  cases j with
  | zero => cases hj; exact h
  | succ j => simp at hj
theorem mm_new_rows (h : mm_H) (t m : Nat) : ∀ x, x < h.1.length → (mm_new h t m).2.1 x = h.2.1 x ∧ (mm_new h t m).2.2.1 x = h.2.2.1 x ∧ (mm_new h t m).2.2.2 x = h.2.2.2 x := fun x hx => ⟨mm_row_ne _ _ _ (by omega), mm_row_ne _ _ _ (by omega), mm_row_ne _ _ _ (by omega)⟩
theorem mm_new_at (h : mm_H) (t m : Nat) : (mm_new h t m).2.1 h.1.length = (fun _ => none) ∧ (mm_new h t m).2.2.1 h.1.length = (fun _ => 0) ∧ (mm_new h t m).2.2.2 h.1.length = (fun _ => 0) := ⟨mm_row_at _ _ _, mm_row_at _ _ _, mm_row_at _ _ _⟩
theorem mm_sl_app (M E : List (Nat × Nat)) : mm_sl (M ++ E) = mm_sl M + mm_sl E := by
  unfold mm_sl
  rw [List.map_append, List.sum_append]
theorem mm_sl_1 (q : Nat × Nat) : mm_sl [q] = q.2 := by simp [mm_sl]
theorem mm_sl_rep (m t q : Nat) : mm_sl (List.replicate m (t, q)) = m * q := by
  unfold mm_sl
  rw [List.map_replicate, List.sum_replicate_nat]
theorem mm_ad_len {b z : Nat} {h : mm_H} {H : Heap} (hlen : 0 < h.1.length) (hz : H.size + 1 = z + h.1.length) : mm_v b z (.ref h.1.length) = .ref H.size := by
  cases hl : h.1.length with
  | zero => omega
  | succ n =>
    rw [hl] at hz
    have e9 : z + n = H.size := by omega
    exact congrArg Value.ref e9
theorem mm_outer (c : ClassId) (N h0 : Nat) : ∀ i : Nat, Jvm.Free.Multi.outerC c N h0 i = arrV c N (fun j => va_rf (if j < i then some (h0 + 1 + j) else none))
  | 0 => by
    show ({ cls := c, slots := Array.replicate N .null, vm := .none } : Cell) = _
    rw [arrV_new]
    refine congrArg (arrV c N) (funext fun j => ?_)
    simp [va_rf]
  | i + 1 => by
    show (Jvm.Free.Multi.outerC c N h0 i).setSlot i (.ref (h0 + 1 + i)) = _
    rw [mm_outer c N h0 i, arrV_store]
    refine congrArg (arrV c N) (funext fun j => ?_)
    by_cases e : j = i
    · subst e
      simp [updV, va_rf]
    · by_cases h : j < i
      · simp [updV, e, h, Nat.lt_succ_of_lt h]
      · simp [updV, e, h, show ¬ j < i + 1 by omega]
section MS4
variable {p : Program} {l : Launch} {e : Env} {R : Room} {s : State} {m : MethodId} {args : Array Value} {below : List Frame} {meth : Method} {c : Code} {Q : State → Prop} {D : va_G} {b z k N0 S0 : Nat} {i : Instr} {n pc pc' : Nat} {la la' : mm_L} {st st' : List Value} {h h' : mm_H}
set_option maxHeartbeats 4000000 in
theorem mm_s6 (X : mm_Cx p s m args meth c k) (hF : mm_F D s) (hd : decode (mm_b k) pc = .ok (i, n)) (hn : mm_ln i n = true) (hx : mm_x6 (mm_o k) i n pc la st h = some (pc', la', st', h')) (hN : N0 ≤ h.1.length) (hS0 : S0 ≤ mm_sl h.1) (hRc : h'.1.length - N0 ≤ R.cells) (hRs : mm_sl h'.1 - S0 ≤ R.slots) (kk : mm_W p l e R s m args below meth c Q D b z k N0 S0 pc' la' st' h') : mm_W p l e R s m args below meth c Q D b z k N0 S0 pc la st h := by
  have X0 := X
  obtain ⟨hexec, hb, hml, hown, hts, hinit⟩ := X
  cases i with
  | new j =>
    have hn : n = 3 := by simpa [mm_ln] using hn
    subst hn
    simp only [mm_x6] at hx
    split at hx
    · next c1 hlc =>
      split at hx
      · next h12 =>
        cases hx
        have hw : Cond.classLink (mm_cn (mm_o k)) j (mm_cn c1) ∈ mm_T := by
          rcases mm_lc_ok hlc with g | g
          · exact g.2
          · omega
        obtain ⟨c1n, c2n, cin⟩ := mm_c_ok h12
        obtain ⟨w1, w2⟩ := mm_in_ok h12
        intro H locs ls hR hL hS
        obtain ⟨cA, hR1⟩ := id hR
        obtain ⟨h1, h2, ⟨nn, h3, h4⟩, h5⟩ := id hR1
        have hlen : 0 < h.1.length := (List.getElem?_eq_some_iff.mp h3).1
        have hKn := hF.1.1 c1 _ (mm_c_at h12)
        have eM : (mm_new h c1 (mm_fn c1)).1 = h.1 ++ [(c1, mm_fn c1)] := rfl
        rw [eM, List.length_append] at hRc
        rw [eM, mm_sl_app, mm_sl_1] at hRs
        have l1 : ([(c1, mm_fn c1)] : List (Nat × Nat)).length = 1 := rfl
        rw [l1] at hRc
        dsimp only at hRs
        refine W.newcK hexec hb hown (hts _ hw) (hts _ w1) (hts _ w2) rfl hd (by omega) (by omega) (by rw [← c1n]; exact hKn.2.1) rfl fun H1 kC hkC e1 z1 o1 => ?_
        have hR' : mm_R1 D b z (mm_new h c1 (mm_fn c1)) H1 s cA := by
          refine hR1.app eM (mm_new_rows h _ _) (fun _ _ => rfl) z1 o1 (mm_E1 ⟨Or.inl ⟨h12, rfl⟩, ?_, fun q => absurd q (by show ¬ 100 ≤ c1; omega)⟩)
          rw [mm_en_obj h12]
          refine ⟨_, mm_c_at h12, (u_born (mm_ty c1) hts cin hKn hkC e1 (fun k hk => (mm_ty_ok h12 (by rw [← c2n]; exact hk)).1)).to (fun j hj => ?_)⟩
          have hj : j < mm_fn c1 := by rw [← c2n]; exact hj
          rw [mm_vpV hj]
          unfold mm_fv
          rw [Nat.add_zero, (mm_new_at h c1 (mm_fn c1)).1, (mm_new_at h c1 (mm_fn c1)).2.1]
          have g := (mm_ty_ok h12 hj).2.2.2
          split at g
          · next g2 => rw [if_pos g2]; exact g.1
          · next g2 =>
            rw [if_neg g2]
            split at g
            · rw [g]; rfl
            · rw [g.2]; rfl
        have k1 := kk H1 locs ls ⟨cA, hR'⟩ hL ⟨Nat.le_trans hS.1 (by omega), fun x g1 g2 => (o1 x (Nat.lt_of_lt_of_le g1 hS.1)).trans (hS.2.1 x g1 g2), hS.2.2⟩
        rw [List.map_cons, mm_ad_len hlen h2, eM, List.length_append, mm_sl_app, mm_sl_1, l1] at k1
        have ec : h.1.length - N0 + 1 = h.1.length + 1 - N0 := by omega
        have es : mm_sl h.1 - S0 + mm_fn c1 = mm_sl h.1 + mm_fn c1 - S0 := by omega
        rw [ec, es]
        exact k1
      · cases hx
    · cases hx
  | newarray t =>
    have hn : n = 2 := by simpa [mm_ln] using hn
    subst hn
    simp only [mm_x6] at hx
    split at hx
    · next x r =>
      split at hx
      · next hc =>
        obtain ⟨hx0, hx1, ht⟩ := hc
        cases hx
        intro H locs ls hR hL hS
        obtain ⟨cA, hR1⟩ := id hR
        obtain ⟨h1, h2, ⟨nn, h3, h4⟩, h5⟩ := id hR1
        have hlen : 0 < h.1.length := (List.getElem?_eq_some_iff.mp h3).1
        have eM : (mm_new h (mm_at t) x.toNatClampNeg).1 = h.1 ++ [(mm_at t, x.toNatClampNeg)] := rfl
        rw [eM, List.length_append] at hRc
        rw [eM, mm_sl_app, mm_sl_1] at hRs
        have l1 : ([(mm_at t, x.toNatClampNeg)] : List (Nat × Nat)).length = 1 := rfl
        rw [l1] at hRc
        dsimp only at hRs
        have harr : (Cond.arrayClass (newarray.typeOf t)).before args s = true ∧ newarray.typeOf t = mm_aty (mm_at t) ∧ 100 ≤ mm_at t ∧ mm_at t ≤ 102 ∧ x.toNatClampNeg * componentBytes (newarray.typeOf t) ≤ 536870912 := by
          cases t with
          | int => exact ⟨hts _ mm_arr_w.1, rfl, by decide, by decide, by show x.toNatClampNeg * 4 ≤ _; omega⟩
          | boolean => exact ⟨hts _ mm_arr_w.2.1, rfl, by decide, by decide, by show x.toNatClampNeg * 1 ≤ _; omega⟩
          | long => exact ⟨hts _ mm_arr_w.2.2, rfl, by decide, by decide, by show x.toNatClampNeg * 8 ≤ _; omega⟩
          | _ => exact absurd rfl ht
        obtain ⟨ha1, ha2, ha3, ha4, ha5⟩ := harr
        refine va_newaK hexec hb ha1 rfl hd rfl hx0 rfl ha5 (by omega) (by omega) rfl fun H1 cN e1 z1 o1 hAr hNm => ?_
        have hR' : mm_R1 D b z (mm_new h (mm_at t) x.toNatClampNeg) H1 s (fun i => if i = h.1.length then cN else cA i) := by
          refine hR1.app eM (mm_new_rows h _ _) (fun y hy => if_neg (by omega)) z1 o1 (mm_E1 ⟨Or.inr ⟨ha3, by show mm_at t ≤ 108; omega⟩, ?_, fun _ => ?_⟩)
          · by_cases h102 : mm_at t = 102
            · rw [h102, mm_en_l]
              show H1[H.size + 0]? = some (vp_cell _ _)
              rw [Nat.add_zero, e1, vp_cell_l, ha2, h102, Nat.add_zero, if_pos rfl, (mm_new_at h 102 x.toNatClampNeg).2.2]
              rfl
            · rw [mm_en_i ha3 (by omega)]
              show H1[H.size + 0]? = some (vp_cell _ _)
              rw [Nat.add_zero, e1, vp_cell_i, ha2, Nat.add_zero, if_pos rfl, (mm_new_at h (mm_at t) x.toNatClampNeg).2.1]
              have : mm_at t = 100 ∨ mm_at t = 101 := by omega
              rcases this with q | q <;> rw [q] <;> rfl
          · show ArrOfT s (if h.1.length + 0 = h.1.length then cN else cA (h.1.length + 0)) _ ∧ va_RA s (if h.1.length + 0 = h.1.length then cN else cA (h.1.length + 0)) _
            rw [Nat.add_zero, if_pos rfl, ← ha2]
            exact ⟨hAr, by cases t <;> exact hNm⟩
        have k1 := kk H1 locs ls ⟨_, hR'⟩ hL ⟨Nat.le_trans hS.1 (by omega), fun x g1 g2 => (o1 x (Nat.lt_of_lt_of_le g1 hS.1)).trans (hS.2.1 x g1 g2), hS.2.2⟩
        rw [List.map_cons, mm_ad_len hlen h2, eM, List.length_append, mm_sl_app, mm_sl_1, l1] at k1
        have ec : h.1.length - N0 + 1 = h.1.length + 1 - N0 := by omega
        have es : mm_sl h.1 - S0 + x.toNatClampNeg = mm_sl h.1 + x.toNatClampNeg - S0 := by omega
        rw [ec, es]
        exact k1
      · cases hx
    · cases hx
  | anewarray j =>
    have hn : n = 3 := by simpa [mm_ln] using hn
    subst hn
    simp only [mm_x6] at hx
    split at hx
    · next c1 x r hlc =>
      split at hx
      · next hc =>
        obtain ⟨hx0, hx1, ht⟩ := hc
        cases hx
        have h12 : c1 < 12 ∧ Cond.classLink (mm_cn (mm_o k)) j (mm_cn c1) ∈ mm_T ∧ 103 ≤ mm_oa c1 ∧ mm_oa c1 ≤ 108 ∧ mm_aty (mm_oa c1) = .object (mm_cn c1) ∧ (Cond.arrayOver (.object (mm_cn c1))).before args s = true := by
          unfold mm_oa at ht ⊢
          have hcc : c1 = 9 ∨ c1 = 0 ∨ c1 = 7 := by
            by_cases q1 : c1 = 9
            · exact Or.inl q1
            · by_cases q2 : c1 = 0
              · exact Or.inr (Or.inl q2)
              · by_cases q3 : c1 = 7
                · exact Or.inr (Or.inr q3)
                · rw [if_neg q1, if_neg q2, if_neg q3] at ht
                  exact absurd rfl ht
          have hw : Cond.classLink (mm_cn (mm_o k)) j (mm_cn c1) ∈ mm_T := by
            rcases mm_lc_ok hlc with g | g
            · exact g.2
            · omega
          obtain ⟨-, ⟨a1, a2, a3, -⟩, -⟩ := hF
          rcases hcc with rfl | rfl | rfl
          · exact ⟨by decide, hw, by decide, by decide, rfl, va_AO.use a1⟩
          · exact ⟨by decide, hw, by decide, by decide, rfl, va_AO.use a2⟩
          · exact ⟨by decide, hw, by decide, by decide, rfl, va_AO.use a3⟩
        obtain ⟨h12, hw, ha3, ha4, haty, hover⟩ := h12
        intro H locs ls hR hL hS
        obtain ⟨cA, hR1⟩ := id hR
        obtain ⟨h1, h2, ⟨nn, h3, h4⟩, h5⟩ := id hR1
        have hlen : 0 < h.1.length := (List.getElem?_eq_some_iff.mp h3).1
        have eM : (mm_new h (mm_oa c1) x.toNatClampNeg).1 = h.1 ++ [(mm_oa c1, x.toNatClampNeg)] := rfl
        rw [eM, List.length_append] at hRc
        rw [eM, mm_sl_app, mm_sl_1] at hRs
        have l1 : ([(mm_oa c1, x.toNatClampNeg)] : List (Nat × Nat)).length = 1 := rfl
        rw [l1] at hRc
        dsimp only at hRs
        refine W.anew hexec hb hown (hts _ hw) hover rfl hd rfl hx0 (by omega) (by omega) (by omega) fun cN kA comp f1 f2 f3 f4 => ?_
        generalize hH1 : H.push ({ cls := cN, slots := Array.replicate x.toNatClampNeg .null, vm := .none } : Cell) = H1
        have z1 : H1.size = H.size + 1 := by rw [← hH1, Array.size_push]
        have e1 : H1[H.size]? = some (arrV cN x.toNatClampNeg (fun _ => .null)) := by rw [← hH1, Array.getElem?_push_size, ← arrV_new]
        have o1 : ∀ q : Nat, q < H.size → H1[q]? = H[q]? := fun q hq => by rw [← hH1, Array.getElem?_push, if_neg (Nat.ne_of_lt hq)]
        have hR' : mm_R1 D b z (mm_new h (mm_oa c1) x.toNatClampNeg) H1 s (fun i => if i = h.1.length then cN else cA i) := by
          refine hR1.app eM (mm_new_rows h _ _) (fun y hy => if_neg (by omega)) z1 o1 (mm_E1 ⟨Or.inr ⟨by show 100 ≤ mm_oa c1; omega, ha4⟩, ?_, fun _ => ?_⟩)
          · rw [mm_en_q ha3]
            show H1[H.size + 0]? = some (vp_cell _ _)
            rw [Nat.add_zero, e1, vp_cell_q, Nat.add_zero, if_pos rfl, (mm_new_at h (mm_oa c1) x.toNatClampNeg).1]
            rfl
          · show ArrOfT s (if h.1.length + 0 = h.1.length then cN else cA (h.1.length + 0)) _ ∧ va_RA s (if h.1.length + 0 = h.1.length then cN else cA (h.1.length + 0)) _
            rw [Nat.add_zero, if_pos rfl]
            dsimp only
            rw [haty]
            exact ⟨fun N z => ⟨(fun k h => by cases h), kA, f2, comp, f3⟩, kA, comp, f2, f3, f4, f1⟩
        have k1 := kk H1 locs ls ⟨_, hR'⟩ hL ⟨Nat.le_trans hS.1 (by omega), fun x g1 g2 => (o1 x (Nat.lt_of_lt_of_le g1 hS.1)).trans (hS.2.1 x g1 g2), hS.2.2⟩
        rw [List.map_cons, mm_ad_len hlen h2, eM, List.length_append, mm_sl_app, mm_sl_1, l1] at k1
        have ec : h.1.length - N0 + 1 = h.1.length + 1 - N0 := by omega
        have es : mm_sl h.1 - S0 + x.toNatClampNeg = mm_sl h.1 + x.toNatClampNeg - S0 := by omega
        rw [ec, es]
        exact k1
      · cases hx
    · cases hx
  | multianewarray j dm =>
    have hn : n = 4 := by simpa [mm_ln] using hn
    subst hn
    simp only [mm_x6] at hx
    split at hx
    · next t y x r hlc =>
      split at hx
      · next hc =>
        obtain ⟨rfl, ht1, ht2, hx0, hy0, hx1, hy1⟩ := hc
        cases hx
        have hw : Cond.classLink (mm_cn (mm_o k)) j ("[" ++ (mm_aty t).toString) ∈ mm_T := by
          rcases mm_lc_ok hlc with g | g
          · omega
          · exact g.2.2
        have hty : ∃ ty, mm_aty t = .array ty ∧ mm_aty (t - 6) = ty ∧ (ty = .int ∨ ty = .boolean ∨ ty = .long) ∧ (Cond.arrayClass ty).before args s = true := by
          have : t = 106 ∨ t = 107 ∨ t = 108 := by omega
          rcases this with rfl | rfl | rfl
          · exact ⟨.int, rfl, rfl, Or.inl rfl, hts _ mm_arr_w.1⟩
          · exact ⟨.boolean, rfl, rfl, Or.inr (Or.inl rfl), hts _ mm_arr_w.2.1⟩
          · exact ⟨.long, rfl, rfl, Or.inr (Or.inr rfl), hts _ mm_arr_w.2.2⟩
        obtain ⟨ty, hty1, hty2, hty3, harr⟩ := hty
        have hover : (Cond.arrayOver (.array ty)).before args s = true := hF.2.1.2.2.2 ty hty3
        intro H locs ls hR hL hS
        obtain ⟨cA, hR1⟩ := id hR
        obtain ⟨h1, h2, ⟨nn, h3, h4⟩, h5⟩ := id hR1
        have hlen : 0 < h.1.length := (List.getElem?_eq_some_iff.mp h3).1
        have eM : (mm_new2 h t x.toNatClampNeg y.toNatClampNeg).1 = h.1 ++ ([(t, x.toNatClampNeg)] ++ List.replicate x.toNatClampNeg (t - 6, y.toNatClampNeg)) := List.append_assoc _ _ _
        rw [eM, List.length_append, List.length_append, List.length_replicate] at hRc
        rw [eM, mm_sl_app, mm_sl_app, mm_sl_1, mm_sl_rep] at hRs
        have l1 : ([(t, x.toNatClampNeg)] : List (Nat × Nat)).length = 1 := rfl
        rw [l1] at hRc
        dsimp only at hRs
        intro T hT Xs
        have hbts : y.toNatClampNeg * componentBytes ty ≤ 536870912 := by rcases hty3 with rfl | rfl | rfl <;> (show y.toNatClampNeg * _ ≤ _) <;> simp only [componentBytes] <;> omega
        obtain ⟨vm₁, cO, comp, -, fA, fC, hO, hI, X', step⟩ := Xs.multianewarray2F hexec hown (ty := ty) (by rw [← hty1]; exact hts _ hw) hover harr (g := F0 m pc ls (.int y :: .int x :: r.map (mm_v b z))) rfl (by rw [hb]; exact hd) rfl hx0 hy0 (by omega) hbts (by omega) (by rcases hty3 with rfl | rfl | rfl <;> rfl) (by rcases hty3 with rfl | rfl | rfl <;> rfl) (by omega) (by omega)
        generalize hFl : Jvm.Free.Multi.fill (T.setVm vm₁) cO comp x.toNatClampNeg y.toNatClampNeg (defaultValue ty) x.toNatClampNeg = F at X' step
        have hTh : (T.setVm vm₁).heap = H := hT
        obtain ⟨f1, f2, -, -⟩ := Jvm.Free.Multi.fill_facts (T.setVm vm₁) cO comp x.toNatClampNeg y.toNatClampNeg (defaultValue ty) x.toNatClampNeg
        rw [hFl, hTh] at f1 f2
        have hold : ∀ q : Nat, q < H.size → F.heap[q]? = H[q]? := fun q hq => by
          have := Jvm.Free.Multi.fill_old (T.setVm vm₁) cO comp x.toNatClampNeg y.toNatClampNeg (defaultValue ty) (a := q) (by rw [hTh]; exact hq) x.toNatClampNeg
          rw [hFl, hTh] at this
          exact this
        have hrow : ∀ j : Nat, j < x.toNatClampNeg → F.heap[H.size + 1 + j]? = some (Jvm.Free.Multi.innerC comp y.toNatClampNeg (defaultValue ty)) := fun j hj => by
          have := Jvm.Free.Multi.fill_inner (T.setVm vm₁) cO comp x.toNatClampNeg y.toNatClampNeg (defaultValue ty) x.toNatClampNeg j hj
          rw [hFl, hTh] at this
          exact this
        have hout : Jvm.Free.Multi.outerC cO x.toNatClampNeg H.size x.toNatClampNeg = arrV cO x.toNatClampNeg (fun j => va_rf (if j < x.toNatClampNeg then some (H.size + 1 + j) else none)) := mm_outer cO x.toNatClampNeg H.size x.toNatClampNeg
        have hR' : mm_R1 D b z (mm_new2 h t x.toNatClampNeg y.toNatClampNeg) F.heap s (fun i => if i = h.1.length then cO else if h.1.length < i then comp else cA i) := by
          refine hR1.app eM (fun w hw => ⟨?_, ?_, ?_⟩) (fun w hw => by show (if w = h.1.length then cO else if h.1.length < w then comp else cA w) = cA w; rw [if_neg (by omega), if_neg (by omega)]) (by rw [f1, List.length_append, List.length_replicate, l1]; omega) hold ?_
          · funext j
            show (if w = h.1.length then _ else if h.1.length < w then none else h.2.1 w j) = _
            rw [if_neg (by omega), if_neg (by omega)]
          · funext j
            show (if h.1.length ≤ w then 0 else h.2.2.1 w j) = _
            rw [if_neg (by omega)]
          · funext j
            show (if h.1.length ≤ w then 0 else h.2.2.2 w j) = _
            rw [if_neg (by omega)]
          · intro j q hq
            cases j with
            | zero =>
              cases hq
              refine ⟨Or.inr ⟨by show 100 ≤ t; omega, ht2⟩, ?_, fun _ => ?_⟩
              · rw [mm_en_q (by omega)]
                have eA0 : (if h.1.length + 0 = h.1.length then cO else if h.1.length < h.1.length + 0 then comp else cA (h.1.length + 0)) = cO := by rw [Nat.add_zero, if_pos rfl]
                have eR0 : (mm_new2 h t x.toNatClampNeg y.toNatClampNeg).2.1 (h.1.length + 0) = fun j => if j < x.toNatClampNeg then some (h.1.length + 1 + j) else none := by
                  funext j
                  show (if h.1.length + 0 = h.1.length then _ else _) = _
                  rw [Nat.add_zero, if_pos rfl]
                show F.heap[H.size]? = some (vp_cell _ _)
                rw [f2, hout, vp_cell_q, eA0, eR0]
                congr 2
                funext j
                show va_rf _ = va_rf (Option.map (mm_ad b z) (if j < x.toNatClampNeg then some (h.1.length + 1 + j) else none))
                by_cases hj : j < x.toNatClampNeg
                · rw [if_pos hj, if_pos hj]
                  show Value.ref _ = Value.ref _
                  congr 1
                  have e9 : h.1.length + 1 + j = (h.1.length + j) + 1 := by omega
                  show _ = mm_ad b z (h.1.length + 1 + j)
                  rw [e9]
                  show _ = z + (h.1.length + j)
                  omega
                · rw [if_neg hj, if_neg hj]
                  rfl
              · show ArrOfT s (if h.1.length + 0 = h.1.length then cO else _) (mm_aty t) ∧ va_RA s (if h.1.length + 0 = h.1.length then cO else _) (mm_aty t)
                rw [Nat.add_zero, if_pos rfl, hty1]
                refine ⟨fun N9 z9 => ?_, fA⟩
                obtain ⟨-, k9, hk9, cm9, hkk9⟩ := (hO 0 0 0).1
                exact ⟨(fun q hq => by cases hq), k9, hk9, cm9, hkk9⟩
            | succ j =>
              have hq : (List.replicate x.toNatClampNeg (t - 6, y.toNatClampNeg))[j]? = some q := hq
              rw [List.getElem?_replicate] at hq
              split at hq
              · next hj =>
                cases hq
                have eA : ∀ w, (if h.1.length + (w + 1) = h.1.length then cO else if h.1.length < h.1.length + (w + 1) then comp else cA (h.1.length + (w + 1))) = comp := fun w => by rw [if_neg (by omega), if_pos (by omega)]
                have eI : (mm_new2 h t x.toNatClampNeg y.toNatClampNeg).2.2.1 (h.1.length + (j + 1)) = fun _ => 0 := by
                  funext w
                  show (if h.1.length ≤ h.1.length + (j + 1) then (0 : Int32) else _) = 0
                  rw [if_pos (by omega)]
                have eL : (mm_new2 h t x.toNatClampNeg y.toNatClampNeg).2.2.2 (h.1.length + (j + 1)) = fun _ => 0 := by
                  funext w
                  show (if h.1.length ≤ h.1.length + (j + 1) then (0 : Int64) else _) = 0
                  rw [if_pos (by omega)]
                have hr := hrow j hj
                have hr2 : F.heap[H.size + (j + 1)]? = some (arrV comp y.toNatClampNeg (fun _ => defaultValue ty)) := by
                  rw [← arrV_new]
                  have e9 : H.size + (j + 1) = H.size + 1 + j := by omega
                  rw [e9]
                  exact hr
                refine ⟨Or.inr ⟨by show 100 ≤ t - 6; omega, by show t - 6 ≤ 108; omega⟩, ?_, fun _ => ?_⟩
                · by_cases h102 : t - 6 = 102
                  · rw [h102, mm_en_l]
                    show F.heap[H.size + (j + 1)]? = some (vp_cell _ _)
                    rw [hr2, vp_cell_l, eL, eA j, ← hty2, h102]
                    rfl
                  · rw [mm_en_i (by omega) (by omega)]
                    show F.heap[H.size + (j + 1)]? = some (vp_cell _ _)
                    rw [hr2, vp_cell_i, eI, eA j, ← hty2]
                    have : t - 6 = 100 ∨ t - 6 = 101 := by omega
                    rcases this with q | q <;> rw [q] <;> rfl
                · show ArrOfT s (if h.1.length + (j + 1) = h.1.length then cO else if h.1.length < h.1.length + (j + 1) then comp else cA (h.1.length + (j + 1))) (mm_aty (t - 6)) ∧ va_RA s (if h.1.length + (j + 1) = h.1.length then cO else if h.1.length < h.1.length + (j + 1) then comp else cA (h.1.length + (j + 1))) (mm_aty (t - 6))
                  rw [eA j, hty2]
                  refine ⟨fun N9 z9 => ?_, by rcases hty3 with rfl | rfl | rfl <;> exact fC⟩
                  obtain ⟨-, k9, hk9, cm9, hkk9⟩ := (hI 0 (defaultValue ty)).1
                  exact ⟨(fun q hq => by cases hq), k9, hk9, cm9, hkk9⟩
              · cases hq
        have k1 := kk F.heap locs ls ⟨_, hR'⟩ hL ⟨Nat.le_trans hS.1 (by omega), fun x g1 g2 => (hold x (Nat.lt_of_lt_of_le g1 hS.1)).trans (hS.2.1 x g1 g2), hS.2.2⟩
        rw [List.map_cons, mm_ad_len hlen h2, eM, List.length_append, List.length_append, List.length_replicate, mm_sl_app, mm_sl_app, mm_sl_1, mm_sl_rep, l1] at k1
        have ec : h.1.length - N0 + 1 + x.toNatClampNeg = h.1.length + (1 + x.toNatClampNeg) - N0 := by omega
        have es : mm_sl h.1 - S0 + x.toNatClampNeg + x.toNatClampNeg * y.toNatClampNeg = mm_sl h.1 + (x.toNatClampNeg + x.toNatClampNeg * y.toNatClampNeg) - S0 := by omega
        rw [ec, es] at X'
        obtain ⟨t9, a1, b1⟩ := k1 F rfl X'
        refine ⟨t9, step t9 ?_, b1⟩
        have e9 : T.heap.size = H.size := by rw [hT]
        rw [e9]
        exact a1
      · cases hx
    · cases hx
  | _ => exact absurd hx (by simp [mm_x6])
end MS4
