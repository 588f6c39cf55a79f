/-! THE REFERENCE's watch: put together -/
theorem go_0 (o : MO) (x : WI) (h : (o.go x).rule = 0) : o.rule = 0 := by
  by_cases h0 : o.rule = 0
  · exact h0
  · unfold MO.go at h; rw [if_neg h0] at h; exact h
theorem r_rem {Γ : gm_T} {φ : ph_T} {r : Nat} {S : XS} (h : RV Γ φ r S) {p : Nat} (hp : p < 10) (hleg : (S.mon p).rule = 0 → ((S.wi p).w 0).v = true → kiN ((S.wi p).w 0).c ≠ 3) :
    ∃ φ', f_Ref_watch_L126 Γ φ r (nI p) (nI (frW p)) (bI (tdW p)) = some ((), φ') ∧ RV Γ φ' r (S.setM p ((S.mon p).rem (S.wi p))) ∧ RFr r kMo φ φ' := by
  have hm := h.mo p hp
  obtain ⟨φ1, e, f, g1, g2, g3⟩ := r_watch129 (Γ := Γ) (r := r) (p := p) hp (T := S) 5 0 jF φ (by omega) (by unfold jF; omega) h.rl (fun k hk => r_wire h hp hk)
  have f2 : RFr r kMo φ (uI φ1 (r + 75) p (φ1.1 (r + 75) p + 1)) := RFr.uI (f.mono (by decide)) (by decide) _ _
  unfold f_Ref_watch_L126
  rw [zI_0]
  refine ⟨_, e, ?_, f2⟩
  refine h.setM_mo f2 ?_
  have hA : maOf (uI φ1 (r + 75) p (φ1.1 (r + 75) p + 1)) r = (((((maOf φ r).w_hel (φ1.1 (r + 72))).w_hc (φ1.2.1 (r + 73))).w_hr (φ1.1 (r + 74))).w_tks (va_up (φ.1 (r + 75)) p (φ.1 (r + 75) p + 1))) := by
    unfold maOf
    simp (disch := first | assumption | omega) only [uI_1, uI_2, uI_3, uL_1, uL_2, uL_3, vz_at, Nat.add_left_cancel_iff, Nat.reduceEqDiff, if_false, zr1, zr2, if_true]
    rw [f.i 75 (by decide), f.i 76 (by decide), f.i 77 (by decide), f.i 78 (by decide), f.i 79 (by decide), f.i 80 (by decide), f.i 81 (by decide), f.l 82 (by decide), f.i 83 (by decide), f.i 84 (by decide), f.i 85 (by decide), f.l 86 (by decide), f.i 87 (by decide)]
  rw [hA]
  refine VMo.set h.mo ?_ (fun q hq hne => ?_)
  · refine ⟨hm.lw, hm.lr, fun c hc => ⟨?_, ?_, ?_⟩, ?_, hm.rul, hm.rl, hm.cha, hm.tic, hm.nw, hm.nr, hm.ws, hm.st, hm.rs, fun h0 hh => ?_⟩
    · show φ1.1 (r + 72) (5 * p + c) = bI (hdW (S.wi p) c)
      rw [g1, if_pos (by omega), show 5 * p + c - 5 * p = c by omega]
    · show φ1.2.1 (r + 73) (5 * p + c) = ((S.wi p).w c).c
      rw [g2, if_pos (by omega), show 5 * p + c - 5 * p = c by omega]
    · show φ1.1 (r + 74) (5 * p + c) = ((S.wi p).w c).r
      rw [g3, if_pos (by omega), show 5 * p + c - 5 * p = c by omega]
    · show va_up (φ.1 (r + 75)) p (φ.1 (r + 75) p + 1) p = (S.mon p).ticks + 1
      rw [vz_same]
      have : φ.1 (r + 75) p = (S.mon p).ticks := hm.tks
      rw [this]
    · have hh' : hdW (S.wi p) 0 = true := hh
      refine hleg h0 ?_
      unfold hdW at hh'
      simp only [Bool.and_eq_true] at hh'
      exact hh'.1
  · refine VM1.fr (h.mo q hq) (fun c hc => ⟨?_, ?_, ?_⟩) ?_ (fun k _ => ⟨rfl, rfl, rfl, rfl, rfl, rfl⟩) (fun k i _ _ => rfl)
    · show φ1.1 (r + 72) (5 * q + c) = φ.1 (r + 72) (5 * q + c)
      rw [g1, if_neg (by omega)]
    · show φ1.2.1 (r + 73) (5 * q + c) = φ.2.1 (r + 73) (5 * q + c)
      rw [g2, if_neg (by omega)]
    · show φ1.1 (r + 74) (5 * q + c) = φ.1 (r + 74) (5 * q + c)
      rw [g3, if_neg (by omega)]
    · refine ⟨?_, ?_, ?_, ?_, ?_, ?_⟩ <;> first | rfl | exact vz_ne _ hne
theorem r_watch {Γ : gm_T} {φ : ph_T} {r : Nat} {S : XS} (h : RV Γ φ r S) {p : Nat} (hp : p < 10) (hrs : ∀ e ∈ (S.mon p).rs, e.n < leN e.con) :
    ∃ φ', f_Ref_watch Γ φ r (nI p) (nI (frW p)) (bI (tdW p)) = some ((), φ') ∧ RV Γ φ' r (S.setM p ((S.mon p).look (S.wi p))) ∧ RFr r kMo φ φ' := by
  have hleg0 := (h.mo p hp).leg
  obtain ⟨φ1, a1, a2, a3⟩ := r_watch3 (Γ := Γ) (r := r) hp 5 0 jF φ S (by omega) (by unfold jF; omega) h
  have hleg1 : ((S.mon p).lookF (S.wi p).w 5 0).rule = 0 → ((S.wi p).w 0).v = true → kiN ((S.wi p).w 0).c ≠ 3 := fun q1 q2 => lookF_leg hleg0 q1 q2
  unfold f_Ref_watch MO.look
  rw [zI_0, a1]
  unfold f_Ref_watch_L110
  have hm1 := a2.mo p hp
  rw [setM_mon] at hm1
  have e1 : φ1.1 (r + 76) p = nI ((S.mon p).lookF (S.wi p).w 5 0).rule := hm1.rul
  have hrl := hm1.rl
  simp (disch := first | assumption | omega) only [rf_86 a2.rl, rg_86 a2.rl, a2.rl.o, Option.bind_some, if_true, zix, e1, zI_lit, zI_eq]
  by_cases h0 : ((S.mon p).lookF (S.wi p).w 5 0).rule = 0
  · rw [if_pos h0]
    obtain ⟨φ2, b1, b2, b3⟩ := r_go a2 hp (fun _ hv => hleg1 h0 (by rw [mon_setM_wi] at hv; unfold mvW at hv; simp only [Bool.and_eq_true] at hv; exact hv.1)) (by rw [setM_mon, lookF_rs]; exact hrs) (by rw [setM_mon]; exact h0)
    rw [setM_mon, setM_setM, mon_setM_wi] at b2
    obtain ⟨φ3, c1, c2, c3⟩ := r_rem b2 hp (fun q1 q2 => hleg1 (go_0 _ _ (by rw [setM_mon] at q1; exact q1)) q2)
    rw [setM_mon, setM_setM, mon_setM_wi] at c2
    rw [b1]
    exact ⟨φ3, c1, c2, ((a3.mono (by decide)).trans b3).trans c3⟩
  · rw [if_neg h0]
    obtain ⟨φ3, c1, c2, c3⟩ := r_rem a2 hp (fun q1 q2 => hleg1 (by rw [setM_mon] at q1; exact q1) q2)
    rw [setM_mon, setM_setM, mon_setM_wi] at c2
    refine ⟨φ3, c1, ?_, (a3.mono (by decide)).trans c3⟩
    have : ((S.mon p).lookF (S.wi p).w 5 0).go (S.wi p) = (S.mon p).lookF (S.wi p).w 5 0 := by unfold MO.go; rw [if_neg h0]
    rw [this]
    exact c2
