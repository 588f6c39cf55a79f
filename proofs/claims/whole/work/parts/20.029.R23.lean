/-! THE REFERENCE's watch, on -/
theorem lookF_r (w : Nat → WV) : ∀ d c (o : MO), o.rule ≠ 0 → o.lookF w d c = o := by
  intro d
  induction d with
  | zero => intro c o _; rfl
  | succ d ih =>
    intro c o h
    unfold MO.lookF
    rw [note_r _ _ _ h, ih _ _ h]
theorem lookF_0 (w : Nat → WV) : ∀ d c (o : MO), (o.lookF w d c).rule = 0 → o.rule = 0 := by
  intro d c o h
  by_cases h0 : o.rule = 0
  · exact h0
  · rw [lookF_r w d c o h0] at h; exact h
theorem lookF_rs (w : Nat → WV) : ∀ d c (o : MO), (o.lookF w d c).rs = o.rs := by
  intro d
  induction d with
  | zero => intro c o; rfl
  | succ d ih =>
    intro c o
    unfold MO.lookF
    rw [ih, note_rs]
theorem lookF_leg {w : Nat → WV} {o : MO} (hl : o.rule = 0 → o.held 0 = true → kiN (o.hc 0) ≠ 3) (h : (o.lookF w 5 0).rule = 0) (hv : (w 0).v = true) : kiN (w 0).c ≠ 3 := by
  have h0 := lookF_0 w 5 0 o h
  unfold MO.lookF at h
  have h1 := lookF_0 w 4 1 _ h
  rw [if_pos h0] at h1
  have h2 : o.look1 0 (w 0) = 0 := by
    unfold MO.note at h1
    by_cases hx : o.look1 0 (w 0) = 0
    · exact hx
    · rw [if_pos ⟨h0, hx⟩] at h1; exact h1
  unfold MO.look1 at h2
  cases hh : o.held 0 with
  | true =>
    rw [hh] at h2
    simp only [if_true, hv, Bool.true_eq_false, if_false] at h2
    split at h2
    · rename_i hc
      rw [hc.1]
      exact hl h0 hh
    · cases h2
  | false =>
    rw [hh] at h2
    simp only [Bool.false_eq_true, if_false, hv, Bool.true_eq_false, true_or, if_true] at h2
    exact ru_kind h2
theorem r_watch3 {Γ : gm_T} {r : Nat} {p : Nat} (hp : p < 10) : ∀ (d c fu : Nat) (φ : ph_T) (S : XS), c + d = 5 → d < fu → RV Γ φ r S →
    ∃ φ', f_Ref_watch_L3 Γ fu φ r (nI p) (nI (frW p)) (bI (tdW p)) (nI c) = f_Ref_watch_L110 Γ φ' r (nI p) (nI (frW p)) (bI (tdW p)) ∧ RV Γ φ' r (S.setM p ((S.mon p).lookF (S.wi p).w d c)) ∧ RFr r [76, 77, 78] φ φ' := by
  intro d
  induction d with
  | zero =>
    intro c fu φ S hd hf h
    match fu, hf with
    | fu + 1, _ =>
      unfold f_Ref_watch_L3
      simp (disch := first | assumption | omega) only [zI_lit, zI_le]
      rw [if_pos (show 5 ≤ c by omega)]
      exact ⟨φ, rfl, by unfold MO.lookF; rw [setM_self]; exact h, RFr.refl _ _ _⟩
  | succ d ih =>
    intro c fu φ S hd hf h
    match fu, hf with
    | fu + 1, hf =>
      have hm := h.mo p hp
      have e1 : φ.1 (r + 76) p = nI (S.mon p).rule := hm.rul
      have hrl := hm.rl
      have hw := r_wire h hp (c := c) (by omega)
      obtain ⟨φ1, a1, a2, a3⟩ := r_lookAt h (p := p) (c := c) hp (by omega) ((S.wi p).w c)
      unfold MO.lookF
      by_cases h0 : (S.mon p).rule = 0
      · obtain ⟨φ', b1, b2, b3⟩ := ih (c + 1) fu φ1 _ (by omega) (by omega) a2
        rw [setM_mon, setM_setM, mon_setM_wi] at b2
        rw [if_pos h0]
        refine ⟨φ', ?_, b2, a3.trans b3⟩
        rw [← b1]
        conv => lhs; unfold f_Ref_watch_L3
        unfold f_Ref_watch_L43 f_Ref_watch_L76 f_Ref_watch_L101
        simp (disch := first | assumption | omega) only [rf_86 h.rl, rg_86 h.rl, h.rl.o, Option.bind_some, if_true, zix, e1, zI_lit, zI_eq, zI_le, zI_add, bI_eq0]
        rw [if_neg (show ¬ 5 ≤ c by omega), if_pos h0]
        by_cases h8 : p < 8
        · have q := hw.1 h8
          have f5 : frW p = 5 * p := by unfold frW; rw [if_pos h8]
          have t5 : tdW p = false := by unfold tdW; simp [h8]
          rw [t5, f5]
          simp (disch := first | assumption | omega) only [if_true, rf_33 h.rl, rg_33 h.rl, rf_35 h.rl, rg_35 h.rl, rf_36 h.rl, rg_36 h.rl, Option.bind_some, zix, q, a1]
        · have q := hw.2 (by omega)
          have f5 : frW p = 5 * (p - 8) := by unfold frW; rw [if_neg h8]
          have t5 : tdW p = true := by unfold tdW; simp [h8]
          rw [t5, f5]
          simp (disch := first | assumption | omega) only [Bool.true_eq_false, if_false, rf_98 h.rl, rg_98 h.rl, rf_100 h.rl, rg_100 h.rl, rf_101 h.rl, rg_101 h.rl, Option.bind_some, zix, q, a1]
      · rw [if_neg h0, note0, lookF_r _ _ _ _ h0, setM_self]
        refine ⟨φ, ?_, h, RFr.refl _ _ _⟩
        conv => lhs; unfold f_Ref_watch_L3
        simp (disch := first | assumption | omega) only [rf_86 h.rl, rg_86 h.rl, h.rl.o, Option.bind_some, if_true, zix, e1, zI_lit, zI_eq, zI_le]
        rw [if_neg (show ¬ 5 ≤ c by omega), if_neg h0]
theorem r_watch129 {Γ : gm_T} {r : Nat} {p : Nat} (hp : p < 10) {T : XS} : ∀ (d c fu : Nat) (φ : ph_T), c + d = 5 → d < fu → RL Γ φ r →
    (∀ k, k < 5 → (p < 8 → φ.1 (r + 26) (5 * p + k) = bI ((T.wi p).w k).v ∧ φ.1 (r + 27) (5 * p + k) = bI ((T.wi p).rd k) ∧ φ.2.1 (r + 28) (5 * p + k) = ((T.wi p).w k).c ∧ φ.1 (r + 29) (5 * p + k) = ((T.wi p).w k).r) ∧
      (8 ≤ p → φ.1 (r + 88) (5 * (p - 8) + k) = bI ((T.wi p).w k).v ∧ φ.1 (r + 89) (5 * (p - 8) + k) = bI ((T.wi p).rd k) ∧ φ.2.1 (r + 90) (5 * (p - 8) + k) = ((T.wi p).w k).c ∧ φ.1 (r + 91) (5 * (p - 8) + k) = ((T.wi p).w k).r)) →
    ∃ φ', f_Ref_watch_L129 Γ fu φ r (nI p) (nI (frW p)) (bI (tdW p)) (nI c) = some ((), uI φ' (r + 75) p (φ'.1 (r + 75) p + 1)) ∧ RFr r [72, 73, 74] φ φ' ∧
      (∀ k, φ'.1 (r + 72) k = if 5 * p + c ≤ k ∧ k < 5 * p + 5 then bI (hdW (T.wi p) (k - 5 * p)) else φ.1 (r + 72) k) ∧
      (∀ k, φ'.2.1 (r + 73) k = if 5 * p + c ≤ k ∧ k < 5 * p + 5 then ((T.wi p).w (k - 5 * p)).c else φ.2.1 (r + 73) k) ∧
      (∀ k, φ'.1 (r + 74) k = if 5 * p + c ≤ k ∧ k < 5 * p + 5 then ((T.wi p).w (k - 5 * p)).r else φ.1 (r + 74) k) := by
  intro d
  induction d with
  | zero =>
    intro c fu φ hd hf hl hw
    match fu, hf with
    | fu + 1, _ =>
      unfold f_Ref_watch_L129
      simp (disch := first | assumption | omega) only [hl.o, rf_33 hl, rg_33 hl, rf_85 hl, rg_85 hl, rf_98 hl, rg_98 hl, Option.bind_some, if_true, zix, zI_lit, zI_le]
      rw [if_pos (show 5 ≤ c by omega)]
      refine ⟨φ, rfl, RFr.refl _ _ _, fun k => ?_, fun k => ?_, fun k => ?_⟩ <;> rw [if_neg (by omega)]
  | succ d ih =>
    intro c fu φ hd hf hl hw
    match fu, hf with
    | fu + 1, hf =>
      have hwc := hw c (by omega)
      have fr : RFr r [72, 73, 74] φ (uI (uL (uI φ (r + 72) (5 * p + c) (bI (hdW (T.wi p) c))) (r + 73) (5 * p + c) ((T.wi p).w c).c) (r + 74) (5 * p + c) ((T.wi p).w c).r) := by repeat (first | exact RFr.refl _ _ _ | refine RFr.uI ?_ (by decide) _ _ | refine RFr.uL ?_ (by decide) _ _ | refine rfr_uO ?_ (by decide) _ _)
      obtain ⟨φ', e, f, g1, g2, g3⟩ := ih (c + 1) fu (uI (uL (uI φ (r + 72) (5 * p + c) (bI (hdW (T.wi p) c))) (r + 73) (5 * p + c) ((T.wi p).w c).c) (r + 74) (5 * p + c) ((T.wi p).w c).r) (by omega) (by omega) (hl.up rfl) (by
        intro k hk
        rw [fr.i 26 (by decide), fr.i 27 (by decide), fr.l 28 (by decide), fr.i 29 (by decide), fr.i 88 (by decide), fr.i 89 (by decide), fr.l 90 (by decide), fr.i 91 (by decide)]
        exact hw k hk)
      refine ⟨φ', ?_, fr.trans f, fun k => ?_, fun k => ?_, fun k => ?_⟩
      · rw [← e]
        have key : ∀ b : Bool, b = hdW (T.wi p) c → f_Ref_watch_L214 Γ (f_Ref_watch_L129 Γ fu) φ r (nI p) (nI (frW p)) (bI (tdW p)) (nI c) (bI b) (nI (5 * p + c)) (some (r + 72)) = f_Ref_watch_L129 Γ fu (uI (uL (uI φ (r + 72) (5 * p + c) (bI (hdW (T.wi p) c))) (r + 73) (5 * p + c) ((T.wi p).w c).c) (r + 74) (5 * p + c) ((T.wi p).w c).r) r (nI p) (nI (frW p)) (bI (tdW p)) (nI (c + 1)) := by
          intro b hb
          subst hb
          unfold f_Ref_watch_L214 f_Ref_watch_L250 f_Ref_watch_L286
          by_cases h8 : p < 8
          · have q := hwc.1 h8
            have f5 : frW p = 5 * p := by unfold frW; rw [if_pos h8]
            have t5 : tdW p = false := by unfold tdW; simp [h8]
            rw [t5, f5]
            simp (disch := first | assumption | omega) only [show bI false = nI 0 from rfl, hl.o, rf_35 hl, rg_35 hl, rf_36 hl, rg_36 hl, rf_83 hl, rg_83 hl, rf_84 hl, rg_84 hl, rf_100 hl, rg_100 hl, rf_101 hl, rg_101 hl, rf_82 hl, rg_82 hl, rf_83 hl, rg_83 hl, rf_84 hl, rg_84 hl, Option.bind_some, if_true, zix, zI_lit, zI_eq, zI_add, zI_mul, bI_ok, uI_1, uI_2, uI_3, uL_1, uL_2, uL_3, vz_at, Nat.add_left_cancel_iff, Nat.reduceEqDiff, if_false, zr1, zr2, q]
          · have q := hwc.2 (by omega)
            have f5 : frW p = 5 * (p - 8) := by unfold frW; rw [if_neg h8]
            have t5 : tdW p = true := by unfold tdW; simp [h8]
            rw [t5, f5]
            simp (disch := first | assumption | omega) only [show bI true = nI 1 from rfl, hl.o, rf_35 hl, rg_35 hl, rf_36 hl, rg_36 hl, rf_83 hl, rg_83 hl, rf_84 hl, rg_84 hl, rf_100 hl, rg_100 hl, rf_101 hl, rg_101 hl, rf_82 hl, rg_82 hl, rf_83 hl, rg_83 hl, rf_84 hl, rg_84 hl, Option.bind_some, if_true, zix, zI_lit, zI_eq, zI_add, zI_mul, bI_ok, uI_1, uI_2, uI_3, uL_1, uL_2, uL_3, vz_at, Nat.add_left_cancel_iff, Nat.reduceEqDiff, if_false, zr1, zr2, q]
        conv => lhs; unfold f_Ref_watch_L129
        unfold f_Ref_watch_L160 f_Ref_watch_L187 f_Ref_watch_L213
        simp (disch := first | assumption | omega) only [hl.o, if_true, zI_lit, zI_le, zI_mul, zI_add, rf_82 hl, bI_eq0]
        rw [if_neg (show ¬ 5 ≤ c by omega)]
        by_cases h8 : p < 8
        · have q := hwc.1 h8
          have f5 : frW p = 5 * p := by unfold frW; rw [if_pos h8]
          have t5 : tdW p = false := by unfold tdW; simp [h8]
          rw [t5, f5] at key ⊢
          simp (disch := first | assumption | omega) only [if_true, rf_33 hl, rg_33 hl, rf_34 hl, rg_34 hl, Option.bind_some, zix, q, bI_eq0]
          cases hv : ((T.wi p).w c).v with
          | false =>
            simp only [if_true]
            exact key false (by unfold hdW; rw [hv]; rfl)
          | true =>
            simp only [Bool.true_eq_false, if_false]
            cases hr : (T.wi p).rd c with
            | false =>
              simp only [if_true]
              exact key true (by unfold hdW; rw [hv, hr]; rfl)
            | true =>
              simp only [Bool.true_eq_false, if_false]
              exact key false (by unfold hdW; rw [hv, hr]; rfl)
        · have q := hwc.2 (by omega)
          have f5 : frW p = 5 * (p - 8) := by unfold frW; rw [if_neg h8]
          have t5 : tdW p = true := by unfold tdW; simp [h8]
          rw [t5, f5] at key ⊢
          simp (disch := first | assumption | omega) only [Bool.true_eq_false, if_false, if_true, rf_98 hl, rg_98 hl, rf_99 hl, rg_99 hl, Option.bind_some, zix, q, bI_eq0]
          cases hv : ((T.wi p).w c).v with
          | false =>
            simp only [if_true]
            exact key false (by unfold hdW; rw [hv]; rfl)
          | true =>
            simp only [Bool.true_eq_false, if_false]
            cases hr : (T.wi p).rd c with
            | false =>
              simp only [if_true]
              exact key true (by unfold hdW; rw [hv, hr]; rfl)
            | true =>
              simp only [Bool.true_eq_false, if_false]
              exact key false (by unfold hdW; rw [hv, hr]; rfl)
      · rw [g1]
        simp (disch := first | assumption | omega) only [uI_1, uI_2, uI_3, uL_1, uL_2, uL_3, vz_at, Nat.add_left_cancel_iff, Nat.reduceEqDiff, if_false, zr1, zr2, if_true, if_false]
        by_cases hk : k = 5 * p + c
        · subst hk
          rw [if_neg (by omega), if_pos rfl, if_pos (by omega), show 5 * p + c - 5 * p = c by omega]
        · repeat' split
          all_goals first | rfl | omega
      · rw [g2]
        simp (disch := first | assumption | omega) only [uI_1, uI_2, uI_3, uL_1, uL_2, uL_3, vz_at, Nat.add_left_cancel_iff, Nat.reduceEqDiff, if_false, zr1, zr2, if_true, if_false]
        by_cases hk : k = 5 * p + c
        · subst hk
          rw [if_neg (by omega), if_pos rfl, if_pos (by omega), show 5 * p + c - 5 * p = c by omega]
        · repeat' split
          all_goals first | rfl | omega
      · rw [g3]
        simp (disch := first | assumption | omega) only [uI_1, uI_2, uI_3, uL_1, uL_2, uL_3, vz_at, Nat.add_left_cancel_iff, Nat.reduceEqDiff, if_false, zr1, zr2, if_true, if_false]
        by_cases hk : k = 5 * p + c
        · subst hk
          rw [if_neg (by omega), if_pos rfl, if_pos (by omega), show 5 * p + c - 5 * p = c by omega]
        · repeat' split
          all_goals first | rfl | omega
