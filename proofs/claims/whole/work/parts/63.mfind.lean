-- THE MODEL: finds, orbits, orbit, member, orbitOf
def rQm (n : Nat) (st : OS) (m : mm_Mem) : Prop := (∀ s, s < 2 ^ n → m.1 99 s = oI (st.1 s)) ∧ ∀ j, j < st.2.2 → m.1 101 j = nI (st.2.1 j)
def rOm (n : Nat) (num : Nat → Option Nat) (amt : Nat → Nat) (m : mm_Mem) : Prop := (∀ s, s < 2 ^ n → m.1 99 s = oI (num s)) ∧ ∀ k, k ≤ n → m.1 100 k = nI (amt k)
theorem e_oI0 {x : Option Nat} (hx : ∀ o, x = some o → o < 257) : (0 ≤ oI x) = ¬ (x = none) := by
  cases x with
  | none => exact propext ⟨fun h => absurd h (by decide), fun h => absurd rfl h⟩
  | some i =>
    have := hx i rfl
    show (0 ≤ nI i) = _
    rw [e_0le (by omega)]
    exact propext ⟨fun _ => (fun e => by cases e), fun _ => trivial⟩
theorem fz_m83 {lo hi : Nat} {S : St} {m m' : mm_Mem} (hok : okS S) (h : fz lo hi m m') (h1 : 97 ≤ lo) (hS : rMs 83 86 S m) : rMs 83 86 S m' := fz_rMs hok.2.1.2 h (by omega) hS
theorem m_spr {d sn o w s : Nat} {Ts : Nat → Nat → Nat} {S : St} {P : mm_Mem → Prop} {m0 : mm_Mem} (hS : rMs 83 86 S m0) (hok : okS S) (hw : w = sW S) (hTs : Ts = sT S) (ho : o < 257) : ∀ (f h : Nat) (st : OS) (m : mm_Mem), h ≤ st.2.2 → 257 ≤ f + h → fz 99 101 m0 m → rQm (sN S) st m → oB st → qB st → (∀ j, j < st.2.2 → st.2.1 j < 2 ^ sN S) → (∀ m', fz 99 101 m0 m' → m'.1 100 = m.1 100 → rQm (sN S) (spr Ts w o f h st) m' → mm_wp (d + 2) sn kX11_finds 50 [some (.ref 82), some (.int (nI (s + 1))), none, none, none, none, none] [] m' (qV P)) → mm_wp (d + 2) sn kX11_finds 109 [some (.ref 82), some (.int (nI s)), some (.int (nI o)), some (.int (nI st.2.2)), some (.int (nI h)), none, none] [] m (qV P)
  | 0, h, st, m, h1, h2, _, _, _, hq, _, _ => by
    have h3 : st.2.2 + cN _ 256 ≤ 256 := hq
    omega
  | f + 1, h, st, m, h1, h2, hz, hQ, hB, hq, hv, hP => by
    have h3 : st.2.2 ≤ 256 := by
      have h3 : st.2.2 + cN _ 256 ≤ 256 := hq
      omega
    have h4 := hok.2.1.1
    have h8 := hok.1.2
    have hp8 := p2_le h8
    refine v_X11_finds_109 ?_
    rw [e_le (by omega) (by omega), e_add]
    unfold spr at hP
    refine ⟨fun c => ?_, fun c => ?_⟩
    · rw [if_neg (by omega)] at hP
      exact hP m hz rfl hQ
    · have hlt : h < st.2.2 := by omega
      rw [if_pos hlt] at hP
      have hmv : ∀ i, i < w → mv (Ts i) (st.2.1 h) < 2 ^ sN S := fun i hi => (mv_ok h8 (by subst hTs; exact okS_T hok i (by omega)) (hv h hlt)).1
      refine lp_up (W := fun i => ∀ m1, fz 99 101 m0 m1 → m1.1 100 = m.1 100 → rQm (sN S) (entW Ts o (st.2.1 h) i st) m1 → mm_wp (d + 2) sn kX11_finds 118 [some (.ref 82), some (.int (nI s)), some (.int (nI o)), some (.int (nI (entW Ts o (st.2.1 h) i st).2.2)), some (.int (nI h)), some (.int (nI i)), none] [] m1 (qV P)) (Nat.zero_le w) ?_ ?_ m hz rfl hQ
      · intro m1 hz1 h61 hQ1
        refine v_X11_finds_118 ?_
        have hS1 := fz_m83 hok hz1 (by omega) hS
        rw [hS1.1.2.1]
        refine e_vT (by rw [e_le (by omega) (by omega)]; omega) ?_
        rw [e_add]
        refine m_spr (m0 := m0) hS hok hw hTs ho f (h + 1) (entW Ts o (st.2.1 h) w st) m1 ?_ (by omega) hz1 hQ1 (entW_oB ho hB w) (entW_qB hq w (fun i hi => by have := hmv i hi; omega)) ?_ ?_
        · have := entW_len (Ts := Ts) (o := o) (x := st.2.1 h) (st := st) w
          omega
        · exact entW_qv hv w hmv
        · intro m' g1 g2 g3
          exact hP m' g1 (g2.trans h61) g3
      · intro i _ hi ih m1 hz1 h61 hQ1
        refine v_X11_finds_118 ?_
        have hS1 := fz_m83 hok hz1 (by omega) hS
        rw [hS1.1.2.1]
        refine e_vF (by rw [e_le (by omega) (by omega)]; omega) ?_
        have hle := entW_len (Ts := Ts) (o := o) (x := st.2.1 h) (st := st) i
        rw [e_vin (by omega) (by omega), e_cl (by omega)]
        refine ⟨by omega, ?_⟩
        have e6 : m1.1 101 h = nI (st.2.1 h) := by
          rw [hQ1.2 h (by omega), entW_q hlt]
        rw [e6]
        refine m_moved hS1 hok (by omega) (hv h hlt) ?_
        have e7 : mv (sT S i) (st.2.1 h) = mv (Ts i) (st.2.1 h) := by rw [hTs]
        have hm := hmv i hi
        have hqi := entW_qB (Ts := Ts) (x := st.2.1 h) (o := o) (st := st) hq i (fun k hk => by have := hmv k (by omega); omega)
        have hBi := entW_oB (Ts := Ts) (x := st.2.1 h) ho hB i
        have e9 : entW Ts o (st.2.1 h) (i + 1) st = ent o (entW Ts o (st.2.1 h) i st) (mv (Ts i) (st.2.1 h)) := rfl
        rw [e9] at ih
        generalize hx : mv (Ts i) (st.2.1 h) = x at *
        generalize hst : entW Ts o (st.2.1 h) i st = s1 at *
        have h5 : s1.2.2 + cN (fun x => (s1.1 x).isNone) 256 ≤ 256 := hqi
        rw [e7, e_vin (by omega) (by omega), e_vin (by omega) (by omega), e_cl (by omega), e_cl (by omega), hQ1.1 x hm, e_oI0 (fun o e => hBi x o e), e_add, e_add]
        unfold ent at ih
        refine ⟨by omega, fun c => ?_, fun c => ⟨by omega, fun m2 q2 => ⟨?_, fun m3 q3 => ?_⟩⟩⟩
        · rw [if_neg c] at ih
          exact ih m1 hz1 h61 hQ1
        · have c := Classical.not_not.mp c
          have : (s1.1 x).isNone = true := by rw [c]; rfl
          have hq2 := ent_qB (o := o) (st := s1) (x := x) (by omega) hqi
          have h6 : (ent o s1 x).2.2 + cN _ 256 ≤ 256 := hq2
          unfold ent at h6
          rw [if_pos c] at h6
          have h6 : s1.2.2 + 1 + _ ≤ 256 := h6
          omega
        · have c := Classical.not_not.mp c
          rw [if_pos c] at ih
          refine ih m3 (hz1.trans ?_) ?_ ⟨fun t ht => ?_, fun j hj => ?_⟩
          · subst q2; subst q3
            exact (fz_u2 (by omega) (by omega)).trans (fz_u2 (m := (_, _)) (by omega) (by omega))
          · subst q2; subst q3
            show mm_u2 (mm_u2 m1.1 99 x (nI o)) 101 s1.2.2 (nI x) 100 = _
            rw [u2_r (by omega), u2_r (by omega), h61]
          · subst q2; subst q3
            show mm_u2 (mm_u2 m1.1 99 x (nI o)) 101 s1.2.2 (nI x) 99 t = oI (ud s1.1 x (some o) t)
            rw [u2_rj (by omega)]
            by_cases e5 : t = x
            · subst e5; rw [u2_s, ud_s]; rfl
            · rw [u2_j e5, ud_n e5]; exact hQ1.1 t ht
          · subst q2; subst q3
            show mm_u2 (mm_u2 m1.1 99 x (nI o)) 101 s1.2.2 (nI x) 101 j = nI (ud s1.2.1 s1.2.2 x j)
            by_cases e5 : j = s1.2.2
            · subst e5; rw [u2_s, ud_s]
            · rw [u2_j e5, ud_n e5, u2_rj (by omega)]
              have hj : j < s1.2.2 + 1 := hj
              exact hQ1.2 j (by omega)
theorem m_finds {d sn : Nat} {S : St} {m : mm_Mem} {P : mm_Mem → Prop} (hS : rMs 83 86 S m) (hok : okS S) (hP : ∀ m', fz 99 101 m m' → rOm (sN S) (fndS S).1 (fndS S).2 m' → P m') : mm_sp (d + 3) sn kX11_finds [.ref 82] m (qV P) := by
  have h4 := hok.2.1
  have h8 := hok.1.2
  have hp8 := p2_le h8
  have hp0 := Nat.two_pow_pos (sN S)
  refine v_X11_finds ?_
  refine lp_up (W := fun i => ∀ m1, fz 99 101 m m1 → (∀ s, s < i → m1.1 99 s = -1) → mm_wp (d + 2) sn kX11_finds 2 [some (.ref 82), some (.int (nI i)), none, none, none, none, none] [] m1 (qV P)) (Nat.zero_le (2 ^ sN S)) ?_ ?_ m fz.refl (fun s hs => by omega)
  · intro m1 z1 g1
    have hS1 := fz_m83 hok z1 (by omega) hS
    refine v_X11_finds_2 (m_whole hS1.1.1 h8 (e_vT (by rw [e_lt (by omega) (by omega)]; omega) ?_))
    refine lp_up (W := fun k => ∀ m2, fz 99 101 m m2 → m2.1 99 = m1.1 99 → (∀ j, j < k → m2.1 100 j = nI 0) → mm_wp (d + 2) sn kX11_finds 25 [some (.ref 82), some (.int (nI k)), none, none, none, none, none] [] m2 (qV P)) (Nat.zero_le (sN S + 1)) ?_ ?_ m1 z1 rfl (fun j hj => by omega)
    · intro m2 z2 g2 g3
      have hS2 := fz_m83 hok z2 (by omega) hS
      refine v_X11_finds_25 ?_
      rw [hS2.1.1]
      refine e_vT (by rw [e_lt (by omega) (by omega)]; omega) ?_
      refine lp_up (W := fun s => ∀ m3, fz 99 101 m m3 → rOm (sN S) (fndN (sT S) (sW S) s).1 (fndN (sT S) (sW S) s).2 m3 → mm_wp (d + 2) sn kX11_finds 50 [some (.ref 82), some (.int (nI s)), none, none, none, none, none] [] m3 (qV P)) (Nat.zero_le (2 ^ sN S)) ?_ ?_ m2 z2 ⟨fun s hs => by rw [g2]; exact g1 s hs, fun k hk => g3 k (by omega)⟩
      · intro m3 z3 hO
        have hS3 := fz_m83 hok z3 (by omega) hS
        exact v_X11_finds_50 (m_whole hS3.1.1 h8 (e_vT (by rw [e_lt (by omega) (by omega)]; omega) (hP m3 z3 hO)))
      · intro s _ hs ih m3 z3 hO
        have hS3 := fz_m83 hok z3 (by omega) hS
        refine v_X11_finds_50 (m_whole hS3.1.1 h8 (e_vF (by rw [e_lt (by omega) (by omega)]; omega) ?_))
        have hF := fndN_ok h8 (okS_T hok) s (by omega)
        obtain ⟨hFo, hFk⟩ := oF_o hF (by omega)
        have hk := bc_lt (n := sN S) (by omega) hs
        have hb := hO.1 s hs
        have hb2 := e_oI0 (x := (fndN (sT S) (sW S) s).1 s) (fun o e => by have := hFo s o e; omega)
        have hb3 := hO.2 (bc s) (by omega)
        have hb4 := hFk (bc s)
        have e9 : fndN (sT S) (sW S) (s + 1) = fnd1 (sT S) (sW S) s (fndN (sT S) (sW S) s) := rfl
        rw [e9] at ih
        unfold fnd1 at ih
        generalize fndN (sT S) (sW S) s = a at *
        rw [e_vin (by omega) (by omega), e_cl (by omega), hb, hb2, e_add]
        refine ⟨by omega, fun e => ?_, fun e => m_size (by omega) ?_⟩
        · rw [if_neg e] at ih
          exact ih m3 z3 hO
        · have e := Classical.not_not.mp e
          rw [if_pos e] at ih
          rw [e_vin (by omega) (by omega)]
          refine ⟨by omega, m_size (by omega) ?_⟩
          rw [e_vin (by omega) (by omega), e_cl (by omega), hb3, e_add]
          refine ⟨by omega, by omega, fun m4 q4 => ⟨by omega, fun m5 q5 m6 q6 => ?_⟩⟩
          have z6 : fz 99 101 m m6 := z3.trans (by
            subst q4; subst q5; subst q6
            exact ((fz_u2 (by omega) (by omega)).trans (fz_u2 (m := (_, _)) (by omega) (by omega))).trans (fz_u2 (m := (_, _)) (by omega) (by omega)))
          have e100 : ∀ k, m6.1 100 k = if k = bc s then nI (a.2 (bc s) + 1) else m3.1 100 k := by
            intro k
            subst q4; subst q5; subst q6
            show mm_u2 (mm_u2 (mm_u2 m3.1 100 (bc s) (nI (a.2 (bc s) + 1))) 99 s (nI (a.2 (bc s)))) 101 0 (nI s) 100 k = _
            rw [u2_rj (by omega), u2_rj (by omega)]
            simp only [e_u2, true_and]
          have e99 : ∀ t, m6.1 99 t = if t = s then nI (a.2 (bc s)) else m3.1 99 t := by
            intro t
            subst q4; subst q5; subst q6
            show mm_u2 (mm_u2 (mm_u2 m3.1 100 (bc s) (nI (a.2 (bc s) + 1))) 99 s (nI (a.2 (bc s)))) 101 0 (nI s) 99 t = _
            rw [u2_rj (by omega)]
            simp only [e_u2, true_and]
            rw [if_neg (show ¬ (99 = 100 ∧ t = bc s) by omega)]
          have e101 : m6.1 101 0 = nI s := by
            subst q6
            show mm_u2 m5.1 101 0 (nI s) 101 0 = nI s
            exact u2_s
          have hE : ent (a.2 (bc s)) (a.1, fun _ => 0, 0) s = (ud a.1 s (some (a.2 (bc s))), ud (fun _ => 0) 0 s, 1) := if_pos e
          rw [hE] at ih
          have hQ6 : rQm (sN S) (ud a.1 s (some (a.2 (bc s))), ud (fun _ => 0) 0 s, 1) m6 := by
            refine ⟨fun t ht => ?_, fun j hj => ?_⟩
            · rw [e99]
              show _ = oI (ud a.1 s (some (a.2 (bc s))) t)
              by_cases e5 : t = s
              · subst e5; rw [if_pos rfl, ud_s]; rfl
              · rw [if_neg e5, ud_n e5]; exact hO.1 t ht
            · have hj : j < 1 := hj
              have : j = 0 := by omega
              subst this
              show m6.1 101 0 = nI (ud (fun _ => 0) 0 s 0)
              rw [ud_s]; exact e101
          refine m_spr (st := (ud a.1 s (some (a.2 (bc s))), ud (fun _ => 0) 0 s, 1)) hS hok rfl rfl (show a.2 (bc s) < 257 from hb4) 257 0 m6 (Nat.zero_le _) (by omega) z6 hQ6 ?_ ?_ ?_ ?_
          · rw [← hE]
            exact ent_oB hb4 (fun t o e => by have := hFo t o e; omega)
          · rw [← hE]
            exact ent_qB (by omega) qB_0
          · intro j hj
            have hj : j < 1 := hj
            have : j = 0 := by omega
            subst this
            show ud (fun _ => 0) 0 s 0 < _
            rw [ud_s]; exact hs
          · intro m7 z7 g7 h7
            refine ih m7 z7 ⟨h7.1, fun k hk9 => ?_⟩
            rw [g7, e100]
            show _ = nI (ud a.2 (bc s) (a.2 (bc s) + 1) k)
            by_cases e6 : k = bc s
            · subst e6; rw [if_pos rfl, ud_s]
            · rw [if_neg e6, ud_n e6]; exact hO.2 k hk9
    · intro k _ hk ih m2 z2 g2 g3
      have hS2 := fz_m83 hok z2 (by omega) hS
      refine v_X11_finds_25 ?_
      rw [hS2.1.1]
      refine e_vF (by rw [e_lt (by omega) (by omega)]; omega) ?_
      rw [e_vin (by omega) (by omega), e_cl (by omega), e_add]
      refine ⟨by omega, fun m3 q3 => ih m3 (z2.trans (by subst q3; exact fz_u2 (by omega) (by omega))) ?_ (fun j hj => ?_)⟩
      · subst q3
        show mm_u2 m2.1 100 k (nI 0) 99 = _
        rw [u2_r (by omega), g2]
      · subst q3
        simp only [e_u2, true_and]
        by_cases e5 : j = k
        · rw [if_pos e5]
        · rw [if_neg e5]; exact g3 j (by omega)
  · intro i _ hi ih m1 z1 g1
    have hS1 := fz_m83 hok z1 (by omega) hS
    refine v_X11_finds_2 (m_whole hS1.1.1 h8 (e_vF (by rw [e_lt (by omega) (by omega)]; omega) ?_))
    rw [e_vin (by omega) (by omega), e_cl (by omega), e_add]
    refine ⟨by omega, fun m3 q3 => ih m3 (z1.trans (by subst q3; exact fz_u2 (by omega) (by omega))) (fun j hj => ?_)⟩
    subst q3
    simp only [e_u2, true_and]
    by_cases e5 : j = i
    · rw [if_pos e5]
    · rw [if_neg e5]; exact g1 j (by omega)
theorem m_isSize {d sn : Nat} {S : St} {v : Int32} {m : mm_Mem} {P : Int32 → mm_Mem → Prop} (hn : m.1 83 0 = nI (sN S)) (h8 : sN S ≤ 8) (h : P (nI (iz v (sN S + 1)).toNat) m) : mm_sp (d + 2) sn kX11_isSize [.ref 82, .int v] m (qI P) := by
  refine v_X11_isSize ?_
  rw [hn]
  exact s_in (n := sN S + 1) (by rw [nI_toInt (by omega)]; omega) (by omega) ⟨e_z01, h⟩
theorem mI_f {X : GS} {m m' : mm_Mem} (hX : okX X) (h : fz 99 101 m m') (hI : mI X m) : mI X m' := mI_sc hX (h.wide (by omega) (by omega)) hI
theorem m_orbits {d sn : Nat} {X : GS} {k : Int32} {m : mm_Mem} {P : Int32 → mm_Mem → Prop} (hX : okX X) (hI : mI X m) (h : ∀ m', fz 82 211 m m' → mI X m' → P (A_orbits X.1 k) m') : mm_sp (d + 4) sn kX11_orbits [.ref 82, .int k] m (qI P) := by
  refine v_X11_orbits ?_
  have hN := hX.1.1.2
  unfold A_orbits at h
  refine m_isSize hI.1.1.1 hN (e_vb (fun e => ?_) (fun e => ?_))
  · obtain ⟨k, hk, rfl⟩ := iz_t (by omega) e
    rw [if_pos e, e_cl (by omega)] at h
    refine m_finds hI.1 hX.1 ?_
    intro m1 z1 hO
    rw [e_vin (by omega) (by omega), e_cl (by omega), hO.2 k (by omega)]
    exact ⟨by omega, h m1 (z1.wide (by omega) (by omega)) (mI_f hX z1 hI)⟩
  · rw [if_neg (by rw [e]; decide)] at h
    exact h m fz.refl hI
theorem m_orbitOf {d sn : Nat} {X : GS} {s : Int32} {m : mm_Mem} {P : Int32 → mm_Mem → Prop} (hX : okX X) (hI : mI X m) (h : ∀ m', fz 82 211 m m' → mI X m' → P (A_orbitOf X.1 s) m') : mm_sp (d + 4) sn kX11_orbitOf [.ref 82, .int s] m (qI P) := by
  refine v_X11_orbitOf ?_
  have hN := hX.1.1.2
  have hp8 := p2_le hN
  unfold A_orbitOf at h
  refine m_isSet hI.1.1.1 hN (e_vb (fun e => ?_) (fun e => ?_))
  · obtain ⟨s, hs, rfl⟩ := iz_t (by omega) e
    rw [if_pos e, e_cl (by omega)] at h
    refine m_finds hI.1 hX.1 ?_
    intro m1 z1 hO
    rw [e_vin (by omega) (by omega), e_cl (by omega), hO.1 s hs]
    exact ⟨by omega, h m1 (z1.wide (by omega) (by omega)) (mI_f hX z1 hI)⟩
  · rw [if_neg (by rw [e]; decide)] at h
    exact h m fz.refl hI
/-- what the orbits are, in bounds -/
theorem fnd_lt {S : St} (hok : okS S) {s o : Nat} (h : (fndS S).1 s = some o) : o < 256 ∧ s < 2 ^ sN S := ⟨(oF_o (fnd_oF hok) (p2_le hok.1.2)).1 s o h, ((fnd_oF hok).1 s o h).1⟩
theorem hld_lt {S : St} (hok : okS S) {k i s : Nat} (h : hld (fndS S).1 k i s = true) : s < 2 ^ sN S := by
  unfold hld at h
  rw [Bool.and_eq_true, beq_iff_eq] at h
  exact (fnd_lt hok h.1).2
theorem m_isIn {d sn s k i : Nat} {S : St} {m : mm_Mem} {P : Int32 → mm_Mem → Prop} (hok : okS S) (hO : rOm (sN S) (fndS S).1 (fndS S).2 m) (hs : s < 2 ^ sN S) (hk : k < 1000) (hi : i < 1000) (h : P (nI (hld (fndS S).1 k i s).toNat) m) : mm_sp (d + 2) sn kX11_isIn [.ref 82, .int (nI s), .int (nI k), .int (nI i)] m (qI P) := by
  have hp8 := p2_le hok.1.2
  have hb := bc_le s
  refine v_X11_isIn (m_size (by omega) ?_)
  unfold hld at h
  rw [e_eq (by omega) (by omega), e_vin (by omega) (by omega), e_cl (by omega), hO.1 s hs, e_oI (fun o e => (fnd_lt hok e).1) (by omega)]
  refine ⟨fun c => ?_, fun c => ⟨by omega, fun c2 => ?_, fun c2 => ?_⟩⟩
  · rw [beq_eq_false_iff_ne.mpr c, Bool.and_false] at h; exact h
  · rw [beq_eq_false_iff_ne.mpr c2, Bool.false_and] at h; exact h
  · rw [beq_iff_eq.mpr (Classical.not_not.mp c), beq_iff_eq.mpr (Classical.not_not.mp c2)] at h; exact h
theorem m_least {d sn k i : Nat} {S : St} {m : mm_Mem} {P : Int32 → mm_Mem → Prop} (hok : okS S) (hO : rOm (sN S) (fndS S).1 (fndS S).2 m) (hk : k < 1000) (hi : i < (fndS S).2 k) (hi2 : i < 1000) (h : P (nI (ft (hld (fndS S).1 k i))) m) : mm_sp (d + 3) sn kX11_least [.ref 82, .int (nI k), .int (nI i)] m (qI P) := by
  obtain ⟨f1, f2, f3, _⟩ := ft_s (orb_has hok hi)
  refine v_X11_least ?_
  refine lp_up (W := fun s => mm_wp (d + 2) sn kX11_least 2 [some (.ref 82), some (.int (nI k)), some (.int (nI i)), some (.int (nI s))] [] m (qI P)) (Nat.zero_le (ft (hld (fndS S).1 k i))) ?_ ?_
  · refine v_X11_least_2 (m_isIn hok hO (hld_lt hok f2) hk hi2 ?_)
    rw [f2]
    exact e_vT (by decide) h
  · intro s _ hs ih
    have hl := hld_lt hok f2
    refine v_X11_least_2 (m_isIn hok hO (by omega) hk hi2 ?_)
    rw [f3 s hs, e_add]
    exact e_vF (by decide) ih
theorem lstV_tail {p : Nat → Bool} {a : Nat} : ∀ {b : Nat}, a ≤ b → (∀ s, a ≤ s → s < b → p s = false) → lstV p b = lstV p a
  | 0, h, _ => by
    have : a = 0 := by omega
    rw [this]
  | b + 1, h, hn => by
    by_cases e : a = b + 1
    · rw [e]
    · show (if p b = true then nI b else lstV p b) = _
      rw [if_neg (by rw [hn b (by omega) (by omega)]; decide)]
      exact lstV_tail (by omega) (fun s h1 h2 => hn s h1 (by omega))
theorem hld_tail {S : St} (hok : okS S) {k i : Nat} : ∀ s, 2 ^ sN S ≤ s → s < 256 → hld (fndS S).1 k i s = false := by
  intro s h1 _
  cases e : hld (fndS S).1 k i s with
  | false => rfl
  | true => have := hld_lt hok e; omega
theorem m_orbit {d sn : Nat} {X : GS} {k i w : Int32} {m : mm_Mem} {P : Int32 → mm_Mem → Prop} (hX : okX X) (hI : mI X m) (h : ∀ m', fz 82 211 m m' → mI X m' → P (A_orbit X.1 k i w) m') : mm_sp (d + 4) sn kX11_orbit [.ref 82, .int k, .int i, .int w] m (qI P) := by
  refine v_X11_orbit ?_
  have hN := hX.1.1.2
  have hp8 := p2_le hN
  have hp0 := Nat.two_pow_pos (sN X.1)
  unfold A_orbit at h
  refine m_isSize hI.1.1.1 hN (e_vb (fun e => ?_) (fun e => ?_))
  · obtain ⟨k, hk, rfl⟩ := iz_t (by omega) e
    rw [if_neg (by rw [e]; decide), e_cl (by omega)] at h
    refine m_finds hI.1 hX.1 ?_
    intro m1 z1 hO
    have hI1 := mI_f hX z1 hI
    replace h := h m1 (z1.wide (by omega) (by omega)) hI1
    have hk2 := (fnd_oS hX.1).2 k (by omega)
    rw [e_vin (by omega) (by omega), e_cl (by omega), hO.2 k (by omega)]
    refine ⟨by omega, s_in (e_pred (by omega)) (by omega) (e_vz (fun e2 => ?_) (fun e2 => ?_))⟩
    · rw [if_pos e2] at h
      exact h
    · rw [if_neg (by rw [e2]; decide)] at h
      obtain ⟨i, hi, rfl⟩ := iz_t (by omega) e2
      rw [e_cl (by omega)] at h
      rw [e_l2]
      refine s_in (n := 3) (by decide) (by omega) (e_vb (fun e3 => ?_) (fun e3 => ?_))
      · obtain ⟨w, hw, rfl⟩ := iz_t (by omega) e3
        obtain ⟨x, x1, x2⟩ := orb_has hX.1 hi
        have ez : (nI w = nI 0) = (w = 0) := e_eq (by omega) (by omega)
        have ez2 : (nI w = nI 1) = (w = 1) := e_eq (by omega) (by omega)
        have ez3 : (nI w = nI 2) = (w = 2) := e_eq (by omega) (by omega)
        have ez4 : (nI w = 0) = (w = 0) := e_eq0 (by omega)
        refine lp_up (W := fun s => ∀ v, (v = lstV (hld (fndS X.1).1 k i) s ∨ ∀ t, t < s → hld (fndS X.1).1 k i t = false) → mm_wp (d + 3) sn kX11_orbit 56 [some (.ref 82), some (.int (nI k)), some (.int (nI i)), some (.int (nI w)), some (.int (nI (cN (hld (fndS X.1).1 k i) s))), some (.int v), some (.int (nI s))] [] m1 (qI P)) (Nat.zero_le (2 ^ sN X.1)) ?_ ?_ (nI 0) (Or.inr (fun t ht => by omega))
        · intro v hv
          refine v_X11_orbit_56 (m_whole hI1.1.1.1 hN (e_vT (by rw [e_lt (by omega) (by omega)]; omega) ?_))
          have hv : v = lstV (hld (fndS X.1).1 k i) (2 ^ sN X.1) := by
            rcases hv with hv | hv
            · exact hv
            · have := hv x (hld_lt hX.1 x2)
              rw [x2] at this; cases this
          subst hv
          rw [← lstV_tail hp8 (hld_tail hX.1), ← cN_tail hp8 (hld_tail hX.1), ez4, ez2]
          refine ⟨fun c => ⟨fun c2 => ?_, fun c2 => ?_⟩, fun c => ?_⟩
          · rw [if_neg (ez ▸ c), if_neg (ez2 ▸ c2), if_pos (show nI w = nI 2 by rw [ez3]; omega)] at h; exact h
          · rw [if_neg (ez ▸ c), if_pos (show nI w = nI 1 by rw [ez2]; exact Classical.not_not.mp c2)] at h; exact h
          · rw [if_pos (show nI w = nI 0 by rw [ez]; exact Classical.not_not.mp c)] at h
            obtain ⟨_, _, _, f4⟩ := ft_s ⟨x, x1, x2⟩
            rw [f4] at h
            exact m_least hX.1 hO (by omega) hi (by omega) h
        · intro s _ hs ih v hv
          refine v_X11_orbit_56 (m_whole hI1.1.1.1 hN (e_vF (by rw [e_lt (by omega) (by omega)]; omega) (m_isIn hX.1 hO hs (by omega) (by omega) ?_)))
          have el : lstV (hld (fndS X.1).1 k i) (s + 1) = if hld (fndS X.1).1 k i s = true then nI s else lstV (hld (fndS X.1).1 k i) s := rfl
          rw [e_add, e_add]
          refine e_vz (fun e5 => ?_) (fun e5 => ?_)
          · rw [cN_f e5] at ih
            refine ih v ?_
            rw [el, if_neg (by rw [e5]; decide)]
            rcases hv with hv | hv
            · exact Or.inl hv
            · refine Or.inr (fun t ht => ?_)
              by_cases e6 : t = s
              · subst e6; exact e5
              · exact hv t (by omega)
          · rw [cN_t e5] at ih
            refine ih _ (Or.inl ?_)
            rw [el, if_pos e5]
      · have n0 : ¬ w = nI 0 := fun e => by subst e; revert e3; decide
        have n1 : ¬ w = nI 1 := fun e => by subst e; revert e3; decide
        have n2 : ¬ w = nI 2 := fun e => by subst e; revert e3; decide
        rw [if_neg n0, if_neg n1, if_neg n2] at h
        exact h
  · rw [if_pos e] at h
    exact h m fz.refl hI
theorem m_member {d sn : Nat} {X : GS} {k i w : Int32} {m : mm_Mem} {P : Int32 → mm_Mem → Prop} (hX : okX X) (hI : mI X m) (h : ∀ m', fz 82 211 m m' → mI X m' → P (A_member X.1 k i w) m') : mm_sp (d + 4) sn kX11_member [.ref 82, .int k, .int i, .int w] m (qI P) := by
  refine v_X11_member ?_
  have hN := hX.1.1.2
  have hp8 := p2_le hN
  have hp0 := Nat.two_pow_pos (sN X.1)
  unfold A_member at h
  refine m_isSize hI.1.1.1 hN (e_vb (fun e => ?_) (fun e => ?_))
  · obtain ⟨k, hk, rfl⟩ := iz_t (by omega) e
    rw [if_neg (by rw [e]; decide), e_cl (by omega)] at h
    refine m_finds hI.1 hX.1 ?_
    intro m1 z1 hO
    have hI1 := mI_f hX z1 hI
    replace h := h m1 (z1.wide (by omega) (by omega)) hI1
    have hk2 := (fnd_oS hX.1).2 k (by omega)
    rw [e_vin (by omega) (by omega), e_cl (by omega), hO.2 k (by omega)]
    refine ⟨by omega, s_in (e_pred (by omega)) (by omega) (e_vz (fun e2 => ?_) (fun e2 => ?_))⟩
    · rw [if_pos e2] at h
      exact h
    · rw [if_neg (by rw [e2]; decide)] at h
      obtain ⟨i, hi, rfl⟩ := iz_t (by omega) e2
      rw [e_cl (by omega)] at h
      refine ⟨fun c => ?_, fun c => ?_⟩
      · rw [if_pos c] at h
        obtain ⟨e3, e4⟩ := nn_of c
        generalize w.toNatClampNeg = j at h e3 e4
        subst e3
        have W := lp_up (W := fun s => (∀ t, t < s → hld (fndS X.1).1 k i t = true → cN (hld (fndS X.1).1 k i) t ≠ j) → cN (hld (fndS X.1).1 k i) s ≤ j → mm_wp (d + 3) sn kX11_member 45 [some (.ref 82), some (.int (nI k)), some (.int (nI i)), none, some (.int (nI (j - cN (hld (fndS X.1).1 k i) s))), some (.int (nI s))] [] m1 (qI P)) (Nat.zero_le (2 ^ sN X.1)) ?_ ?_
        · exact W (fun t ht => by omega) (Nat.zero_le j)
        · intro hn _
          refine v_X11_member_45 (m_whole hI1.1.1.1 hN (e_vT (by rw [e_lt (by omega) (by omega)]; omega) ?_))
          rw [nthV_n (fun t h1 h2 => hn t (hld_lt hX.1 h2) h2)] at h
          exact h
        · intro s _ hs ih hn hle
          refine v_X11_member_45 (m_whole hI1.1.1.1 hN (e_vF (by rw [e_lt (by omega) (by omega)]; omega) (m_isIn hX.1 hO hs (by omega) (by omega) ?_)))
          rw [e_add]
          refine e_vz (fun e5 => ?_) (fun e5 => ?_)
          · rw [cN_f e5] at ih
            refine ih (fun t h1 h2 => ?_) hle
            by_cases e3 : t = s
            · subst e3; rw [e5] at h2; cases h2
            · exact hn t (by omega) h2
          · rw [e_eq0 (by omega)]
            refine ⟨fun c3 => ?_, fun c3 => ?_⟩
            · rw [cN_t e5] at ih
              rw [e_dec (by omega)]
              have e9 : j - cN (hld (fndS X.1).1 k i) s - 1 = j - (cN (hld (fndS X.1).1 k i) s + 1) := by omega
              rw [e9]
              refine ih (fun t h1 h2 => ?_) (by omega)
              by_cases e3 : t = s
              · subst e3; omega
              · exact hn t (by omega) h2
            · rw [nthV_s (by omega) e5 (by omega)] at h
              exact h
      · rw [if_neg c] at h
        exact h
  · rw [if_pos e] at h
    exact h m fz.refl hI
