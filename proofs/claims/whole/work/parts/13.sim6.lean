-- SIMULATION of whole runs: an abstract run is the machine's
theorem mm_run_mono {d : Nat} {C : mm_C} {k : Nat} : ∀ (f pc : Nat) (la : mm_L) (st : List Value) (h : mm_H) (r : Option Value) (h9 : mm_H), mm_run d C k f pc la st h = some (r, h9) → h.1.length ≤ h9.1.length ∧ mm_sl h.1 ≤ mm_sl h9.1
  | 0, pc, la, st, h, r, h9, hx => by cases hx
  | f + 1, pc, la, st, h, r, h9, hx => by
    unfold mm_run at hx
    split at hx
    · split at hx
      · split at hx
        · cases hx
          exact ⟨Nat.le_refl _, Nat.le_refl _⟩
        · split at hx
          · split at hx
            · next hc =>
              have := mm_run_mono f _ _ _ _ r h9 hx
              exact ⟨Nat.le_trans hc.1 this.1, Nat.le_trans hc.2 this.2⟩
            · cases hx
          · cases hx
      · cases hx
    · cases hx
section MS6
variable {p : Program} {l : Launch} {e : Env} {R : Room} {s : State} {m : MethodId} {args : Array Value} {below : List Frame} {meth : Method} {c : Code} {Q : State → Prop} {D : va_G} {b z k N0 S0 : Nat}
/-- one instruction -/
theorem mm_step {d : Nat} {C : mm_C} {i : Instr} {n pc pc' : Nat} {la la' : mm_L} {st st' : List Value} {h h' : mm_H} (X : mm_Cx p s m args meth c k) (hF : mm_F D s) (hz : z ≤ s.heap.size) (hC : ∀ d', d = d' + 1 → mm_All l D b z d' C) (hd : decode (mm_b k) pc = .ok (i, n)) (hn : mm_ln i n = true) (hx : mm_x d C k i n pc la st h = some (pc', la', st', h')) (hN : N0 ≤ h.1.length) (hS0 : S0 ≤ mm_sl h.1) (hRc : h'.1.length - N0 ≤ R.cells) (hRs : mm_sl h'.1 - S0 ≤ R.slots) (hRf : d ≤ R.frames) (hRl : 64 * d ≤ R.locals) (kk : mm_W p l e R s m args below meth c Q D b z k N0 S0 pc' la' st' h') : mm_W p l e R s m args below meth c Q D b z k N0 S0 pc la st h := by
  unfold mm_x mm_or at hx
  split at hx
  · next x hx1 => cases hx; exact mm_s1 X hd hn hx1 kk
  · split at hx
    · next x hx1 => cases hx; exact mm_s2 X hd hn hx1 kk
    · split at hx
      · next x hx1 => cases hx; exact mm_s3 X hd hn hx1 kk
      · split at hx
        · next x hx1 => cases hx; exact mm_s4 X hF hd hn hx1 kk
        · split at hx
          · next x hx1 => cases hx; exact mm_s5 X hF hd hn hx1 kk
          · split at hx
            · next x hx1 => cases hx; exact mm_s6 X hF hd hn hx1 hN hS0 hRc hRs kk
            · exact mm_s7 X hF hz hC hd hn hx hN hS0 hRc hRs hRf hRl kk
theorem mm_sim {d : Nat} {C : mm_C} (X : mm_Cx p s m args meth c k) (hF : mm_F D s) (hz : z ≤ s.heap.size) (hC : ∀ d', d = d' + 1 → mm_All l D b z d' C) (hRf : d ≤ R.frames) (hRl : 64 * d ≤ R.locals) (r : Option Value) (h9 : mm_H) (hRc : h9.1.length - N0 ≤ R.cells) (hRs : mm_sl h9.1 - S0 ≤ R.slots)
    (fin : ∀ (i : Instr) (n pc : Nat) (la : mm_L) (st : List Value), decode (mm_b k) pc = .ok (i, n) → mm_ln i n = true → mm_rt1 k i st = some r → mm_W p l e R s m args below meth c Q D b z k N0 S0 pc la st h9) : ∀ (f pc : Nat) (la : mm_L) (st : List Value) (h : mm_H), N0 ≤ h.1.length → S0 ≤ mm_sl h.1 → mm_run d C k f pc la st h = some (r, h9) → mm_W p l e R s m args below meth c Q D b z k N0 S0 pc la st h
  | 0, pc, la, st, h, _, _, hx => by cases hx
  | f + 1, pc, la, st, h, hN, hS0, hx => by
    unfold mm_run at hx
    split at hx
    · next i n hd =>
      split at hx
      · next hn =>
        split at hx
        · next r2 hr =>
          cases hx
          exact fin i n pc la st hd hn hr
        · split at hx
          · next pc' ls' st' h' hx1 =>
            split at hx
            · next hc =>
              have hm := mm_run_mono f _ _ _ _ r h9 hx
              exact mm_step X hF hz hC hd hn hx1 hN hS0 (by omega) (by omega) hRf hRl (mm_sim X hF hz hC hRf hRl r h9 hRc hRs fin f pc' ls' st' h' (by omega) (by omega) hx)
            · cases hx
          · cases hx
      · cases hx
    · cases hx
end MS6
set_option maxHeartbeats 4000000 in
/-- every abstract call is a contract -/
theorem mm_all (l : Launch) (D : va_G) (b z f : Nat) : ∀ d, mm_All l D b z d (mm_call (d + 1) f)
  | d => by
    intro k as h r h' hx
    have hx : (if (mm_ex as).length ≤ mm_nL k ∧ mm_kd k < 3 ∧ k < 232 then mm_run d (mm_call d f) k f 0 (mm_pad (mm_nL k) (mm_ex as)) [] h else none) = some (r, h') := hx
    split at hx
    · next hc =>
      obtain ⟨hlen, hkd, hk⟩ := hc
      have hm := mm_run_mono f _ _ _ _ r h' hx
      refine ⟨hm.1, hm.2, hk, hkd, ?_⟩
      obtain ⟨-, -, m2, mi, mc9, md, mp, -⟩ := mm_mck_ok hk hkd
      refine Met.ofW (cc := mm_b k) (maxL := mm_nL k) (ret := mm_rt k) mp rfl ?_
      intro p e s m args below meth c s₁ B hml hv
      obtain ⟨rfl, hz, hF, hR⟩ := hv
      have hts := atoms_spec (ws := mm_ws k) B.pre
      have X : mm_Cx p s m (as.map (mm_v b z)).toArray meth c k := ⟨B.exec, B.bytes, hml, by rw [← mc9]; exact findClass_of_methodNamed B.named, fun w hw => hts w (List.mem_cons_of_mem _ hw), fun h2 => by rw [(name_of_methodNamed B.named B.method).1]; exact (m2 h2).2.1⟩
      have hC : ∀ d', d = d' + 1 → mm_All l D b z d' (mm_call d f) := fun d' e => by
        subst e
        exact mm_all l D b z f d'
      rw [lg_entry_eq]
      have W1 := mm_sim (e := e) (below := below) (R := mm_rm d (h'.1.length - h.1.length) (mm_sl h'.1 - mm_sl h.1)) (N0 := h.1.length) (S0 := mm_sl h.1) (Q := MQ below (mm_Qc D b z h' r) (as.map (mm_v b z)).toArray s (h'.1.length - h.1.length) (mm_sl h'.1 - mm_sl h.1) (fun q => z ≤ q)) X hF hz hC (Nat.le_refl _) (Nat.le_refl _) r h' (Nat.le_refl _) (Nat.le_refl _) ?_ f 0 _ [] h (Nat.le_refl _) (Nat.le_refl _) hx s.heap [] _ hR (mm_LR_entry b z (mm_nL k) as hlen) va_S.rf
      · rw [Nat.sub_self, Nat.sub_self] at W1
        exact W1
      · intro i n pc la st hd hn hr H locs ls hR' hL hS
        have hq : ∀ t : State, t.heap = H → s.WarmedH t.vm → mm_Qc D b z h' r (as.map (mm_v b z)).toArray s (.returned (r.map (mm_v b z))) t := fun t ht hW => ⟨rfl, by rw [ht]; exact mm_R.moved hW.alike hR', hS.F ht⟩
        have hlocks := B.notSynchronized
        unfold mm_rt1 at hr
        cases i with
        | return_ =>
          have hn : n = 1 := by simpa [mm_ln] using hn
          subst hn
          simp only at hr
          split at hr
          · split at hr
            · next hrt =>
              cases hr
              exact W.vret B.exec B.bytes (by rw [B.returns]; exact hrt) hq hS.2.2 hd
            · cases hr
          · cases hr
        | ireturn =>
          have hn : n = 1 := by simpa [mm_ln] using hn
          subst hn
          simp only at hr
          split at hr
          · next x =>
            split at hr
            · next hrt =>
              cases hr
              rcases hrt with hrt | ⟨hrt, hx01⟩
              · exact W.iret B.exec B.bytes (by rw [B.returns]; exact hrt) hq hS.2.2 hd
              · exact W.zret B.exec B.bytes (by rw [B.returns]; exact hrt) (by rcases hx01 with rfl | rfl <;> rfl) hq hS.2.2 hd
            · cases hr
          · cases hr
        | lreturn =>
          have hn : n = 1 := by simpa [mm_ln] using hn
          subst hn
          simp only at hr
          split at hr
          · next x =>
            split at hr
            · next hrt =>
              cases hr
              exact W.lret B.exec B.bytes (by rw [B.returns]; exact hrt) hq hS.2.2 hd
            · cases hr
          · cases hr
        | areturn =>
          have hn : n = 1 := by simpa [mm_ln] using hn
          subst hn
          simp only at hr
          split at hr
          · split at hr
            · next nm hrt =>
              cases hr
              exact W.aret B.exec B.bytes (by rw [B.returns]; exact hrt) (Or.inl ⟨_, rfl⟩) (Or.inr ⟨_, rfl⟩) hq hS.2.2 hd
            · cases hr
          · split at hr
            · next nm hrt =>
              cases hr
              exact W.aret B.exec B.bytes (by rw [B.returns]; exact hrt) (Or.inl ⟨_, rfl⟩) (Or.inl rfl) hq hS.2.2 hd
            · cases hr
          · cases hr
        | _ => exact absurd hr (by simp)
    · cases hx
