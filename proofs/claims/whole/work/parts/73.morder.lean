-- THE MODEL: order
theorem d8_sh {c p : Nat} : (c >>> (3 * p)) &&& 7 = d8 c p := by
  have e : (7 : Nat) = 2 ^ 3 - 1 := rfl
  rw [e, Nat.and_two_pow_sub_one_eq_mod, Nat.shiftRight_eq_div_pow, Nat.pow_mul]
  rfl
theorem en8_or {F : Nat → Nat} {n : Nat} (hF : ∀ q, q < n → F q < 8) : en8 F n ||| F n <<< (3 * n) = en8 F n + F n * 8 ^ n := by
  have hlt := en8_lt hF
  have e : 8 ^ n = 2 ^ (3 * n) := by rw [Nat.pow_mul]
  rw [e] at hlt
  rw [Nat.shiftLeft_eq, e, Nat.or_comm, Nat.mul_comm (F n), ← Nat.two_pow_add_eq_or_of_lt hlt, Nat.add_comm]
theorem fol_en {T : Nat → Nat} {c : Nat} (hT : ∀ p, p < 8 → T p < 8) : ∀ n, folN T c n = en8 (fun q => T (d8 c q)) n
  | 0 => rfl
  | n + 1 => by
    show folN T c n ||| T ((c >>> (3 * n)) &&& 7) <<< (3 * n) = en8 (fun q => T (d8 c q)) n + T (d8 c n) * 8 ^ n
    rw [d8_sh, fol_en hT n]
    exact en8_or (F := fun q => T (d8 c q)) (fun q _ => hT _ (d8_lt c q))
theorem id_en : ∀ n, n ≤ 8 → idN n = en8 idL n
  | 0, _ => rfl
  | n + 1, h => by
    show idN n ||| n <<< (3 * n) = en8 idL n + idL n * 8 ^ n
    rw [id_en n (by omega)]
    exact en8_or (F := idL) (fun q hq => by show q < 8; omega)
theorem en8_ext {F G : Nat → Nat} : ∀ {n : Nat}, (∀ q, q < n → F q = G q) → en8 F n = en8 G n
  | 0, _ => rfl
  | n + 1, h => by
    show en8 F n + F n * 8 ^ n = en8 G n + G n * 8 ^ n
    rw [en8_ext (fun q hq => h q (by omega)), h n (by omega)]
/-- a way to take points, told by eight and by n digits -/
def okF (n : Nat) (F : Nat → Nat) : Prop := (∀ q, q < n → F q < n) ∧ ∀ q, n ≤ q → q < 8 → F q = q
theorem okF_8 {n : Nat} {F : Nat → Nat} (hn : n ≤ 8) (h : okF n F) : ∀ q, q < 8 → F q < 8 := fun q hq => by
  by_cases e : q < n
  · have := h.1 q e; omega
  · rw [h.2 q (by omega) hq]; exact hq
theorem okF_eq {n : Nat} {F G : Nat → Nat} (hn : n ≤ 8) (hF : okF n F) (hG : okF n G) : (en8 F 8 = en8 G 8) ↔ (en8 F n = en8 G n) := by
  have f8 := okF_8 hn hF
  have g8 := okF_8 hn hG
  constructor
  · intro h
    refine en8_ext (fun q hq => ?_)
    rw [← d8_en f8 (show q < 8 by omega), ← d8_en g8 (show q < 8 by omega), h]
  · intro h
    refine en8_ext (fun q hq => ?_)
    by_cases e : q < n
    · rw [← d8_en (fun q hq => f8 q (by omega)) e, ← d8_en (fun q hq => g8 q (by omega)) e, h]
    · rw [hF.2 q (by omega) hq, hG.2 q (by omega) hq]
def rOr (n : Nat) (Fs : Nat → Nat → Nat) (st : GL) (m : mm_Mem) : Prop := ∀ i, i < st.2 → okF n (Fs i) ∧ st.1 i = en8 (Fs i) 8 ∧ m.1 98 i = nI (en8 (Fs i) n)
theorem gbf_le {Ts : Nat → Nat → Nat} {w : Nat} (hT : ∀ i, i < w → ∀ p, p < 8 → Ts i p < 8) : ∀ (f h : Nat) (st : GL), gOk st → st.2 ≤ (gbf Ts w f h st).2 ∧ (gbf Ts w f h st).2 ≤ 500
  | 0, _, st, hk => ⟨Nat.le_refl _, hk.1⟩
  | f + 1, h, st, hk => by
    show st.2 ≤ (if h < st.2 then gbf Ts w f (h + 1) (genW Ts (st.1 h) w st) else st).2 ∧ (if h < st.2 then gbf Ts w f (h + 1) (genW Ts (st.1 h) w st) else st).2 ≤ 500
    split
    · have h1 := genW_le (Ts := Ts) (c := st.1 h) (st := st) w
      have h2 := gbf_le hT f (h + 1) (genW Ts (st.1 h) w st) (genW_ok hk w hT)
      omega
    · exact ⟨Nat.le_refl _, hk.1⟩
theorem fol_F {T F : Nat → Nat} (hT : ∀ p, p < 8 → T p < 8) (hF : ∀ q, q < 8 → F q < 8) : fol T (en8 F 8) = en8 (fun q => T (F q)) 8 := by
  unfold fol
  rw [fol_en hT]
  exact en8_ext (fun q hq => by rw [d8_en hF hq])
theorem m_gbf {d sn w : Nat} {S : St} {P : Int32 → mm_Mem → Prop} {m0 : mm_Mem} (hS : rMs 83 86 S m0) (hok : okS S) (hw : w = sW S) : ∀ (f h : Nat) (Fs : Nat → Nat → Nat) (st : GL) (m : mm_Mem), h ≤ st.2 → 501 ≤ f + h → fz 98 98 m0 m → gOk st → rOr (sN S) Fs st m → (∀ m', fz 98 98 m0 m' → P (nI (gbf (sT S) w f h st).2) m') → mm_wp (d + 1) sn kX11_order 43 [some (.ref 82), some (.int (nI st.2)), some (.int (nI h)), none, none, none] [] m (qI P)
  | 0, h, Fs, st, m, h1, h2, _, hk, _, _ => by
    have := hk.1
    omega
  | f + 1, h, Fs, st, m, h1, h2, hz, hk, hR, hP => by
    have hk1 := hk.1
    have h4 := hok.2.1.1
    have h8 := hok.1.2
    have hT8 : ∀ i, i < w → ∀ p, p < 8 → sT S i p < 8 := fun i hi => okS_8 hok i (by omega)
    have hTF : ∀ i, i < w → okF (sN S) (sT S i) := fun i hi => ⟨(okS_T hok i (by omega)).1, (hok.2.2.2.1 i (by omega)).2.2.2.2⟩
    refine v_X11_order_43 ?_
    rw [e_le (by omega) (by omega)]
    refine ⟨fun c => ?_, fun c => ?_⟩
    · have := hP m hz
      unfold gbf at this
      rw [if_neg (by omega)] at this
      exact this
    · have hlt : h < st.2 := by omega
      have hend : ∀ st', st' = genW (sT S) (st.1 h) w st → (gbf (sT S) w (f + 1) h st) = gbf (sT S) w f (h + 1) st' := fun st' e => by
        show (if h < st.2 then gbf (sT S) w f (h + 1) (genW (sT S) (st.1 h) w st) else st) = _
        rw [if_pos hlt, e]
      -- the state behind the first i ways, and how it goes on
      have W := lp_up (lo := 0) (hi := w) (W := fun i => ∀ (Fs1 : Nat → Nat → Nat) (m1 : mm_Mem), fz 98 98 m0 m1 → rOr (sN S) Fs1 (genW (sT S) (st.1 h) i st) m1 → mm_wp (d + 1) sn kX11_order 50 [some (.ref 82), some (.int (nI (genW (sT S) (st.1 h) i st).2)), some (.int (nI h)), some (.int (nI i)), none, none] [] m1 (qI P)) (Nat.zero_le w) ?_ ?_ Fs m hz hR
      · exact W
      · intro Fs1 m1 z1 hR1
        have hS1 := fz_m83 hok z1 (by omega) hS
        refine v_X11_order_50 ?_
        rw [hS1.1.2.1, hw]
        refine e_vT (Int32.le_refl _) ?_
        rw [e_add, ← hw]
        have hle := genW_le (Ts := sT S) (c := st.1 h) (st := st) w
        refine m_gbf hS hok hw f (h + 1) Fs1 (genW (sT S) (st.1 h) w st) m1 (by omega) (by omega) z1 (genW_ok hk w hT8) hR1 (fun m' z' => ?_)
        have := hP m' z'
        rw [hend _ rfl] at this
        exact this
      · intro i _ hi ih Fs1 m1 z1 hR1
        have hS1 := fz_m83 hok z1 (by omega) hS
        have hle := genW_le (Ts := sT S) (c := st.1 h) (st := st) i
        have hk2 := genW_ok (c := st.1 h) hk i (fun j hj => hT8 j (by omega))
        have hat := genW_at (Ts := sT S) (c := st.1 h) (st := st) hlt i
        have es : genW (sT S) (st.1 h) (i + 1) st = gen (genW (sT S) (st.1 h) i st) (fol (sT S i) (st.1 h)) := rfl
        have hfull : 500 = (genW (sT S) (st.1 h) i st).2 → (gbf (sT S) w (f + 1) h st).2 = 500 := by
          intro e5
          rw [hend _ rfl]
          have g1 := gbf_le hT8 f (h + 1) (genW (sT S) (st.1 h) w st) (genW_ok hk w hT8)
          have g2 : ∀ k, (genW (sT S) (st.1 h) i st).2 ≤ (genW (sT S) (st.1 h) (i + k) st).2 := by
            intro k
            induction k with
            | zero => exact Nat.le_refl _
            | succ k ihk => exact Nat.le_trans ihk gen_le
          have g3 := g2 (w - i)
          have e6 : i + (w - i) = w := by omega
          rw [e6] at g3
          omega
        rw [es] at ih
        generalize genW (sT S) (st.1 h) i st = s1 at *
        have hk3 := hk2.1
        obtain ⟨r1, r2, r3⟩ := hR1 h (by omega)
        rw [hat] at r2
        have hTi := hTF i hi
        have f8 := okF_8 h8 r1
        rw [r2, fol_F (hT8 i hi) f8] at ih
        generalize hF : Fs1 h = F at *
        refine v_X11_order_50 ?_
        rw [hS1.1.2.1]
        refine e_vF (by rw [e_le (by omega) (by omega)]; omega) ?_
        obtain ⟨G, hGq⟩ : ∃ G : Nat → Nat, ∀ q, G q = sT S i (F q) := ⟨_, fun _ => rfl⟩
        have hGf : (fun q => sT S i (F q)) = G := funext fun q => (hGq q).symm
        have hGok : okF (sN S) G := ⟨fun q hq => by rw [hGq]; exact hTi.1 _ (r1.1 q hq), fun q h1 h2 => by
          rw [hGq, r1.2 q h1 h2, hTi.2 q h1 h2]⟩
        have g8 := okF_8 h8 hGok
        rw [hGf] at ih
        refine lp_up (W := fun p => mm_wp (d + 1) sn kX11_order 66 [some (.ref 82), some (.int (nI s1.2)), some (.int (nI h)), some (.int (nI i)), some (.int (nI (en8 G p))), some (.int (nI p))] [] m1 (qI P)) (Nat.zero_le (sN S)) ?_ ?_
        · refine v_X11_order_66 ?_
          rw [hS1.1.1]
          refine e_vT (Int32.le_refl _) ?_
          have hlt8 : ∀ X : Nat → Nat, (∀ q, q < 8 → X q < 8) → en8 X (sN S) < 16777216 := fun X hX => Nat.lt_of_lt_of_le (en8_lt (fun q hq => hX q (by omega))) (Nat.pow_le_pow_right (n := 8) (by decide) h8)
          have found : (∃ k, k < s1.2 ∧ en8 (Fs1 k) (sN S) = en8 G (sN S)) → ein s1 (en8 G 8) = true := by
            rintro ⟨k, k1, k2⟩
            obtain ⟨q1, q2, _⟩ := hR1 k k1
            exact ein_i k1 (by rw [q2]; exact (okF_eq h8 q1 hGok).mpr k2)
          have same : (∃ k, k < s1.2 ∧ en8 (Fs1 k) (sN S) = en8 G (sN S)) → mm_wp (d + 1) sn kX11_order 50 [some (.ref 82), some (.int (nI s1.2)), some (.int (nI h)), some (.int (nI (i + 1))), none, none] [] m1 (qI P) := by
            intro hk
            have e5 : gen s1 (en8 G 8) = s1 := if_pos (found hk)
            have ih := ih Fs1 m1 z1
            rw [e5] at ih
            exact ih hR1
          refine lp_up (W := fun k => (∀ k', k' < k → en8 (Fs1 k') (sN S) ≠ en8 G (sN S)) → mm_wp (d + 1) sn kX11_order 115 [some (.ref 82), some (.int (nI s1.2)), some (.int (nI h)), some (.int (nI i)), some (.int (nI (en8 G (sN S)))), some (.int (nI k))] [] m1 (qI P)) (Nat.zero_le s1.2) ?_ ?_ (fun k' hk' => by omega)
          · intro hn
            have hnot : ¬ ein s1 (en8 G 8) = true := fun hc => by
              obtain ⟨k, k1, k2⟩ := ein_t hc
              obtain ⟨q1, q2, _⟩ := hR1 k k1
              rw [q2] at k2
              exact hn k k1 ((okF_eq h8 q1 hGok).mp k2)
            refine v_X11_order_115 (e_vT (Int32.le_refl _) (e_vF (fun c => c rfl) ?_))
            rw [e_eq (by omega) (by omega), e_vin (by omega) (by omega), e_cl (by omega), e_add, e_add]
            refine ⟨fun c => ⟨by omega, fun m2 q2 => ?_⟩, fun c => ?_⟩
            · have e5 : gen s1 (en8 G 8) = (ud s1.1 s1.2 (en8 G 8), s1.2 + 1) := by
                unfold gen
                rw [if_neg hnot, if_pos (by omega)]
              rw [e5] at ih
              refine ih (ud Fs1 s1.2 G) m2 (z1.trans (by subst q2; exact fz_u2 (by omega) (by omega))) (fun k hk => ?_)
              have hk : k < s1.2 + 1 := hk
              have u : m2.1 98 k = if k = s1.2 then nI (en8 G (sN S)) else m1.1 98 k := by
                subst q2
                simp only [e_u2, true_and]
              show okF (sN S) (ud Fs1 s1.2 G k) ∧ ud s1.1 s1.2 (en8 G 8) k = en8 (ud Fs1 s1.2 G k) 8 ∧ m2.1 98 k = nI (en8 (ud Fs1 s1.2 G k) (sN S))
              rw [u]
              by_cases e6 : k = s1.2
              · subst e6
                rw [ud_s, ud_s, if_pos rfl]
                exact ⟨hGok, rfl, rfl⟩
              · rw [ud_n e6, ud_n e6, if_neg e6]
                exact hR1 k (by omega)
            · have := hP m1 z1
              rw [hfull (Classical.not_not.mp c).symm] at this
              exact this
          · intro k _ hk ihk hn
            obtain ⟨q1, q2, q3⟩ := hR1 k hk
            have l1 := hlt8 _ (okF_8 h8 q1)
            have l2 := hlt8 _ g8
            refine v_X11_order_115 (e_vF (by rw [e_le (by omega) (by omega)]; omega) ?_)
            rw [e_vin (by omega) (by omega), e_cl (by omega), q3, e_eq (by omega) (by omega), e_eq (by omega) (by omega), e_add, e_add, e_add]
            refine ⟨by omega, fun c => ⟨fun _ => same ⟨k, hk, c⟩, fun c2 => absurd (Classical.not_not.mp c2) (by omega)⟩, fun c => ihk (fun k' hk' => ?_)⟩
            by_cases e6 : k' = k
            · subst e6; exact c
            · exact hn k' (by omega)
        · intro p _ hp ihp
          have hlF : en8 F (sN S) < 16777216 := Nat.lt_of_lt_of_le (en8_lt (fun q hq => f8 q (by omega))) (Nat.pow_le_pow_right (n := 8) (by decide) h8)
          have hdp : d8 (en8 F (sN S)) p = F p := d8_en (fun q hq => f8 q (by omega)) hp
          have hFp := r1.1 p hp
          refine v_X11_order_66 ?_
          rw [hS1.1.1, e_vin (by omega) (by omega), e_cl (by omega), r3, e_mul, e_shr (by omega) (by omega)]
          refine e_vF (by rw [e_le (by omega) (by omega)]; omega) ⟨by omega, ?_⟩
          have e7 : nI (en8 F (sN S) >>> (3 * p)) &&& nI 7 = nI (F p) := by rw [e_and, d8_sh, hdp]
          rw [e7]
          refine m_to hS1 h4 h8 (by omega) hFp ?_
          have e9 : en8 G (p + 1) = en8 G p ||| G p <<< (3 * p) := (en8_or (fun q hq => g8 q (by omega))).symm
          rw [e9, hGq p] at ihp
          rw [e_shl (by omega), e_or, e_add]
          exact ihp
theorem m_order {d sn : Nat} {X : GS} {m : mm_Mem} {P : Int32 → mm_Mem → Prop} (hX : okX X) (hI : mI X m) (h : ∀ m', fz 82 211 m m' → mI X m' → P (A_order X.1) m') : mm_sp (d + 2) sn kX11_order [.ref 82] m (qI P) := by
  refine v_X11_order ?_
  have h8 := hX.1.1.2
  intro m1 q1
  have z1 : fz 98 98 m m1 := by subst q1; exact fz_u2 (by omega) (by omega)
  have u1 : m1.1 98 0 = nI 0 := by
    subst q1
    show mm_u2 m.1 98 0 (nI 0) 98 0 = nI 0
    exact u2_s
  clear q1
  refine lp_up (W := fun p => ∀ m2, fz 98 98 m m2 → m2.1 98 0 = nI (en8 idL p) → mm_wp (d + 1) sn kX11_order 11 [some (.ref 82), some (.int (nI 1)), some (.int (nI p)), none, none, none] [] m2 (qI P)) (Nat.zero_le (sN X.1)) ?_ ?_ m1 z1 u1
  · intro m2 z2 g2
    have hS2 := fz_m83 hX.1 z2 (by omega) hI.1
    refine v_X11_order_11 ?_
    rw [hS2.1.1]
    refine e_vT (Int32.le_refl _) ?_
    unfold A_order ordS at h
    refine m_gbf hI.1 hX.1 rfl 501 0 (fun _ => idL) (fun _ => idN 8, 1) m2 (Nat.zero_le _) (by omega) z2 ⟨by show 1 ≤ 500; omega, fun i _ => by show idN 8 < 16777216; decide⟩ (fun i hi => ?_) (fun m' z' => h m' (z'.wide (by omega) (by omega)) (mI_sc hX (z'.wide (by omega) (by omega)) hI))
    have hi : i < 1 := hi
    have : i = 0 := by omega
    subst this
    exact ⟨⟨fun q hq => hq, fun q _ _ => rfl⟩, id_en 8 (Nat.le_refl _), g2⟩
  · intro p _ hp ih m2 z2 g2
    have hS2 := fz_m83 hX.1 z2 (by omega) hI.1
    refine v_X11_order_11 ?_
    rw [hS2.1.1]
    refine e_vF (by rw [e_le (by omega) (by omega)]; omega) ?_
    have e9 : en8 idL (p + 1) = en8 idL p ||| p <<< (3 * p) := (en8_or (F := idL) (fun q hq => by show q < 8; omega)).symm
    rw [g2, e_mul, e_shl (by omega), e_or, e_add, ← e9]
    exact fun m3 q3 => ih m3 (z2.trans (by subst q3; exact fz_u2 (by omega) (by omega))) (by
      subst q3
      show mm_u2 m2.1 98 0 (nI (en8 idL (p + 1))) 98 0 = _
      exact u2_s)
