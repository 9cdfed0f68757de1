-- SIMULATION, reads of the heap
theorem mm_one {D : va_G} {cl : List vw_C} {q : Nat × va_E} {H : Heap} (h : va_at D cl q H) : va_P D cl [q] H := fun k q' hk => by
  cases k with
  | zero => cases hk; exact h
  | succ k => simp at hk
theorem mm_Kone {D : va_G} {s : State} {cA : ClassId} {ty : FieldType} (hK : va_K D vwCl [] s) (h : ArrOfT s cA ty ∧ va_RA s cA ty) : va_K D vwCl [(cA, ty)] s := ⟨hK.1, fun k q hk => by
  cases k with
  | zero => cases hk; exact h
  | succ k => simp at hk⟩
theorem mm_en_obj {b z : Nat} {h : mm_H} {cA : Nat → ClassId} {i c n : Nat} (hc : c < 12) : mm_en b z h cA i (c, n) = .inr (c, (List.range (mm_fn c)).map (fun k => mm_fv b z h i c k)) := by
  unfold mm_en
  rw [if_pos (show c < 100 by omega)]
theorem mm_en_i {b z : Nat} {h : mm_H} {cA : Nat → ClassId} {i t n : Nat} (h1 : 100 ≤ t) (h2 : t ≤ 101) : mm_en b z h cA i (t, n) = .inl (cA i, n, .inl (h.2.2.1 i)) := by
  unfold mm_en
  rw [if_neg (show ¬ t < 100 by omega), if_pos (show t ≤ 101 from h2)]
theorem mm_en_l {b z : Nat} {h : mm_H} {cA : Nat → ClassId} {i n : Nat} : mm_en b z h cA i (102, n) = .inl (cA i, n, .inr (.inl (h.2.2.2 i))) := by
  unfold mm_en
  rw [if_neg (show ¬ (102 : Nat) < 100 by decide), if_neg (show ¬ (102 : Nat) ≤ 101 by decide), if_pos rfl]
theorem mm_en_q {b z : Nat} {h : mm_H} {cA : Nat → ClassId} {i t n : Nat} (h1 : 103 ≤ t) : mm_en b z h cA i (t, n) = .inl (cA i, n, .inr (.inr (.inr (.inr (fun j => (h.2.1 i j).map (mm_ad b z)))))) := by
  unfold mm_en
  rw [if_neg (show ¬ t < 100 by omega), if_neg (show ¬ t ≤ 101 by omega), if_neg (show ¬ t = 102 by omega)]
theorem mm_en_arr {b z : Nat} {h : mm_H} {cA : Nat → ClassId} {i t n : Nat} (h1 : 100 ≤ t) : ∃ x : vp_A, mm_en b z h cA i (t, n) = .inl (cA i, x) ∧ x.1 = n := by
  by_cases h2 : t ≤ 101
  · exact ⟨_, mm_en_i h1 h2, rfl⟩
  · by_cases h3 : t = 102
    · subst h3
      exact ⟨_, mm_en_l, rfl⟩
    · exact ⟨_, mm_en_q (by omega), rfl⟩
theorem mm_in1_ok {h : mm_H} {a t : Nat} {j : Int32} (hx : mm_in1 h a t j = true) : ∃ n, h.1[a]? = some (t, n) ∧ vp_in j n := by
  unfold mm_in1 at hx
  split at hx
  · next t' n hM =>
    simp only [Bool.and_eq_true, beq_iff_eq, Bool.not_eq_true', decide_eq_false_iff_not] at hx
    obtain ⟨rfl, h2⟩ := hx
    exact ⟨n, hM, h2⟩
  · cases hx
theorem mm_aty_ref {t : Nat} (h1 : 103 ≤ t) (h2 : t ≤ 108) : (mm_aty t).isReference = true := by
  have : t = 103 ∨ t = 104 ∨ t = 105 ∨ t = 106 ∨ t = 107 ∨ t = 108 := by omega
  rcases this with rfl | rfl | rfl | rfl | rfl | rfl <;> rfl
theorem mm_va_X_lt {b n : Nat} {xs : Nat → Int32} {s : State} {H : Heap} (h : va_X b n xs s H) : b < H.size := by
  obtain ⟨scr, h1, -⟩ := h
  exact (Array.getElem?_eq_some_iff.mp h1).1
section MS2
variable {p : Program} {l : Launch} {e : Env} {R : Room} {s : State} {m : MethodId} {args : Array Value} {below : List Frame} {meth : Method} {c : Code} {Q : State → Prop} {D : va_G} {b z k N0 S0 : Nat} {i : Instr} {n pc pc' : Nat} {la la' : mm_L} {st st' : List Value} {h h' : mm_H}
set_option maxHeartbeats 4000000 in
theorem mm_s4 (X : mm_Cx p s m args meth c k) (hF : mm_F D s) (hd : decode (mm_b k) pc = .ok (i, n)) (hn : mm_ln i n = true) (hx : mm_x4 (mm_o k) i n pc la st h = some (pc', la', st', h')) (kk : mm_W p l e R s m args below meth c Q D b z k N0 S0 pc' la' st' h') : mm_W p l e R s m args below meth c Q D b z k N0 S0 pc la st h := by
  obtain ⟨hexec, hb, hml, hown, hts, -⟩ := X
  cases i with
  | getfield j =>
    have hn : n = 3 := by simpa [mm_ln] using hn
    subst hn
    simp only [mm_x4] at hx
    split at hx
    · next c0 k0 a r hlf =>
      split at hx
      · next c1 n1 hM =>
        split at hx
        · next hc =>
          subst hc
          obtain ⟨h12, hk, hw⟩ := mm_lf_ok hlf
          obtain ⟨c1n, c2n, cin⟩ := mm_c_ok h12
          intro H locs ls hR hL hS
          obtain ⟨cA, h1, h2, ⟨nn, h3, h4⟩, h5⟩ := id hR
          cases a with
          | zero => rw [h3] at hM; cases hM; omega
          | succ a =>
            obtain ⟨-, g2, -⟩ := h5 a _ hM
            rw [mm_en_obj h12] at g2
            have go : ∀ v, mm_fv b z h (a + 1) c1 k0 = mm_v b z v → some (pc + 3, la, v :: r, h) = some (pc', la', st', h') → W p l e R s m args below meth c H locs (h.1.length - N0) (mm_sl h.1 - S0) Q (F0 m pc ls ((Value.ref (a + 1) :: r).map (mm_v b z))) := by
              intro v hv hx
              cases hx
              refine va_get (own := mm_cn (mm_o k)) (ref := mm_cn c1) (C := (mm_c c1).1) (T := (mm_c c1).2.1) (N := (mm_c c1).2.2) (Ts := mm_T) hexec hb hts cin hown hF.1 (mm_one g2) 0 rfl (mm_c_at h12) k0 (by rw [c2n]; exact hk) (hts _ hw) (fun x hx => by rw [← (mm_ty_ok h12 hk).2.1]; exact hx) (v := mm_v b z v) ?_ hd (kk H locs ls hR hL hS)
              rw [List.getElem?_map, List.getElem?_range hk]
              exact congrArg some hv
            split at hx
            · next h2k => exact go _ (by unfold mm_fv; rw [if_pos h2k, mm_v_rf]) hx
            · next h2k =>
              split at hx
              · cases hx
              · exact go _ (by unfold mm_fv; rw [if_neg h2k]; rfl) hx
        · cases hx
      · cases hx
    · cases hx
  | arraylength =>
    have hn : n = 1 := by simpa [mm_ln] using hn
    subst hn
    simp only [mm_x4] at hx
    split at hx
    · next a r =>
      split at hx
      · next t n1 hM =>
        split at hx
        · next ht =>
          cases hx
          intro H locs ls hR hL hS
          obtain ⟨cA, h1, h2, ⟨nn, h3, h4⟩, h5⟩ := id hR
          cases a with
          | zero =>
            rw [h3] at hM
            cases hM
            exact va_slen (A := fun q => z ≤ q) hexec hb h4 (mm_va_X_lt h4) (by show ¬ z ≤ b; omega) ⟨Nat.le_refl _, fun _ _ _ => rfl, hS.2.2⟩ hd (kk H locs ls hR hL hS)
          | succ a =>
            obtain ⟨-, g2, g3⟩ := h5 a _ hM
            obtain ⟨x, hx1, hx2⟩ := mm_en_arr (b := b) (z := z) (h := h) (cA := cA) (i := a + 1) (n := n1) ht.1
            rw [hx1] at g2
            exact va_alen hexec hb (mm_Kone hF.1 (g3 ht.1)) (mm_one g2) 0 0 rfl rfl (by rw [hx2]) hd (kk H locs ls hR hL hS)
        · cases hx
      · cases hx
    · cases hx
  | iaload =>
    have hn : n = 1 := by simpa [mm_ln] using hn
    subst hn
    simp only [mm_x4] at hx
    split at hx
    · next j a r =>
      split at hx
      · next hin0 =>
        obtain ⟨n1, hM, hin⟩ := mm_in1_ok hin0
        cases hx
        intro H locs ls hR hL hS
        obtain ⟨cA, h1, h2, ⟨nn, h3, h4⟩, h5⟩ := id hR
        cases a with
        | zero =>
          rw [h3] at hM
          cases hM
          exact va_sld (A := fun q => z ≤ q) hexec hb h4 (mm_va_X_lt h4) (by show ¬ z ≤ b; omega) ⟨Nat.le_refl _, fun _ _ _ => rfl, hS.2.2⟩ hin hd (kk H locs ls hR hL hS)
        | succ a =>
          obtain ⟨-, g2, g3⟩ := h5 a _ hM
          rw [mm_en_i (by decide) (by decide)] at g2
          exact va_iald hexec hb (mm_Kone hF.1 (g3 (Nat.le_of_ble_eq_true rfl))) (mm_one g2) 0 0 rfl rfl hin hd (kk H locs ls hR hL hS)
      · cases hx
    · cases hx
  | baload =>
    have hn : n = 1 := by simpa [mm_ln] using hn
    subst hn
    simp only [mm_x4] at hx
    split at hx
    · next j a r =>
      split at hx
      · next hin0 =>
        obtain ⟨n1, hM, hin⟩ := mm_in1_ok hin0
        cases hx
        intro H locs ls hR hL hS
        obtain ⟨cA, h1, h2, ⟨nn, h3, h4⟩, h5⟩ := id hR
        cases a with
        | zero => rw [h3] at hM; cases hM
        | succ a =>
          obtain ⟨-, g2, g3⟩ := h5 a _ hM
          rw [mm_en_i (by decide) (by decide)] at g2
          exact va_zald hexec hb (mm_Kone hF.1 (g3 (Nat.le_of_ble_eq_true rfl))) (mm_one g2) 0 0 rfl rfl hin hd (kk H locs ls hR hL hS)
      · cases hx
    · cases hx
  | laload =>
    have hn : n = 1 := by simpa [mm_ln] using hn
    subst hn
    simp only [mm_x4] at hx
    split at hx
    · next j a r =>
      split at hx
      · next hin0 =>
        obtain ⟨n1, hM, hin⟩ := mm_in1_ok hin0
        cases hx
        intro H locs ls hR hL hS
        obtain ⟨cA, h1, h2, ⟨nn, h3, h4⟩, h5⟩ := id hR
        cases a with
        | zero => rw [h3] at hM; cases hM
        | succ a =>
          obtain ⟨-, g2, g3⟩ := h5 a _ hM
          rw [mm_en_l] at g2
          exact va_lald hexec hb (mm_Kone hF.1 (g3 (Nat.le_of_ble_eq_true rfl))) (mm_one g2) 0 0 rfl rfl hin hd (kk H locs ls hR hL hS)
      · cases hx
    · cases hx
  | aaload =>
    have hn : n = 1 := by simpa [mm_ln] using hn
    subst hn
    simp only [mm_x4] at hx
    split at hx
    · next j a r =>
      split at hx
      · next t n1 hM =>
        split at hx
        · next ht =>
          obtain ⟨ht1, ht2, hin⟩ := ht
          cases hx
          intro H locs ls hR hL hS
          obtain ⟨cA, h1, h2, ⟨nn, h3, h4⟩, h5⟩ := id hR
          cases a with
          | zero => rw [h3] at hM; cases hM; omega
          | succ a =>
            obtain ⟨-, g2, g3⟩ := h5 a _ hM
            rw [mm_en_q ht1] at g2
            have hlt : j.toNatClampNeg < n1 := Nat.not_le.mp fun q => hin (Or.inr q)
            have k1 := kk H locs ls hR hL hS
            rw [List.map_cons, mm_v_rf] at k1
            exact W.aald (v := va_rf ((h.2.1 (a + 1) j.toNatClampNeg).map (mm_ad b z))) (ty := mm_aty t) hexec hb g2 ((g3 (show 100 ≤ t by omega)).1 n1 (fun j => va_rf ((h.2.1 (a + 1) j).map (mm_ad b z)))) (mm_aty_ref ht1 ht2) (fun q => by cases q) (by show ¬ (j < 0 ∨ (arrV _ _ _).slots.size ≤ _); rw [arrV_size]; exact hin) (by show (arrV _ _ _).slots[_]? = _; rw [arrV_read _ _ hlt]) rfl rfl hd k1
        · cases hx
      · cases hx
    · cases hx
  | _ => exact absurd hx (by simp [mm_x4])
end MS2
