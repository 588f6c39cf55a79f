/-! THE REFERENCE: answers come to a master -/
theorem passM_2 (S : XS) (m : Nat) : S.passM m 2 = (S.drop (5 * m + 2)).w_tk (updF (isAns m true (rId ((S.wi m).w 2).r)) (fun t => ((t.w_resp (rRe ((S.wi m).w 2).r)).w_done (nI S.time))) S.tk) := by
  unfold XS.passM
  rw [if_neg (show ¬ (2 = 0 ∨ 2 = 3) by omega), if_neg (show ¬ (2 = 1) by omega), if_pos rfl]
theorem passM_4 (S : XS) (m : Nat) : S.passM m 4 = (S.drop (5 * m + 4)).w_tk (updF (isAns m false (rId ((S.wi m).w 4).r)) (fun t => ((((t.w_dat (va_up t.dat t.beats ((S.wi m).w 4).c)).w_beats (t.beats + 1)).w_resp (max t.resp (rRe ((S.wi m).w 4).r))).w_done (if t.beats + 1 = leN t.con then nI S.time else m1))) S.tk) := by
  unfold XS.passM
  rw [if_neg (show ¬ (4 = 0 ∨ 4 = 3) by omega), if_neg (show ¬ (4 = 1) by omega), if_neg (show ¬ (4 = 2) by omega)]
theorem r_answerCame {Γ : gm_T} {φ : ph_T} {r : Nat} {S : XS} (h : RV Γ φ r S) {m c : Nat} (hm : m < 4) (hc : c = 2 ∨ c = 4) (hrow : S.row (5 * m + c) ≠ []) (hw0 : ∀ e ∈ S.tk, e.resp < 4 ∧ (e.done = m1 → (e.wr = true → e.resp = 0) ∧ (e.wr = false → e.beats < leN e.con))) :
    ∃ φ', f_Ref_answerCame Γ φ r (nI m) (nI c) = some ((), φ') ∧ RV Γ φ' r (S.passM m c) ∧ RFr r [22, 23, 24, 25, 32, 33, 34, 35] φ φ' := by
  have hw := h.wi m c (by omega) (by omega)
  obtain ⟨φ1, a1, a2, a3⟩ := r_take h (i := 5 * m + c) (by omega) hrow
  have hid := rId_lt ((S.wi m).w c).r
  have hre := rRe_lt ((S.wi m).w c).r
  have hans := r_answered a2 hm hid (decide (c = 2))
  rw [drop_tk] at hans
  have q1 : φ1.1 (r + 29) (5 * m + c) = ((S.wi m).w c).r := (a2.wi m c (by omega) (by omega)).2.2.2
  have q2 : φ1.2.1 (r + 28) (5 * m + c) = ((S.wi m).w c).c := (a2.wi m c (by omega) (by omega)).2.2.1
  have htm : φ1.1 r 6 = nI S.time := a2.sc.time
  have L38 : ∃ φ', f_Ref_answerCame_L38 Γ φ1 r (nI c) (nI (5 * m + c)) (bI (decide (c = 2))) (nI (rId ((S.wi m).w c).r)) (nI m) r = some ((), φ') ∧ RV Γ φ' r (S.passM m c) ∧ RFr r [22, 23, 24, 25] φ1 φ' := by
    unfold f_Ref_answerCame_L38
    simp only [a2.rl.o, if_true, hans, Option.bind_some, ↓zm1]
    have hS : S.passM m c = (S.drop (5 * m + c)).w_tk (if c = 2 then updF (isAns m true (rId ((S.wi m).w c).r)) (fun t => ((t.w_resp (rRe ((S.wi m).w c).r)).w_done (nI S.time))) S.tk else updF (isAns m false (rId ((S.wi m).w c).r)) (fun t => ((((t.w_dat (va_up t.dat t.beats ((S.wi m).w c).c)).w_beats (t.beats + 1)).w_resp (max t.resp (rRe ((S.wi m).w c).r))).w_done (if t.beats + 1 = leN t.con then nI S.time else m1))) S.tk) := by
      rcases hc with hc | hc
      · subst hc
        rw [if_pos rfl, passM_2]
      · subst hc
        rw [if_neg (show ¬ (4 = 2) by omega), passM_4]
    cases hf : S.tk.findIdx? (isAns m (decide (c = 2)) (rId ((S.wi m).w c).r)) with
    | none =>
      simp only [oI, if_true]
      refine ⟨φ1, rfl, ?_, RFr.refl _ _ _⟩
      rw [hS]
      have : (if c = 2 then updF (isAns m true (rId ((S.wi m).w c).r)) (fun t => (((t.w_resp (rRe ((S.wi m).w c).r)).w_done (nI S.time)) : TK)) S.tk else updF (isAns m false (rId ((S.wi m).w c).r)) (fun t => (((((t.w_dat (va_up t.dat t.beats ((S.wi m).w c).c)).w_beats (t.beats + 1)).w_resp (max t.resp (rRe ((S.wi m).w c).r))).w_done (if t.beats + 1 = leN t.con then nI S.time else m1)) : TK)) S.tk) = (S.drop (5 * m + c)).tk := by
        rcases hc with hc | hc
        · subst hc
          rw [if_pos rfl, updF_none (show S.tk.findIdx? (isAns m true (rId ((S.wi m).w 2).r)) = none from hf)]
          rfl
        · subst hc
          rw [if_neg (show ¬ (4 = 2) by omega), updF_none (show S.tk.findIdx? (isAns m false (rId ((S.wi m).w 4).r)) = none from hf)]
          rfl
      rw [this, XS.w_tk_self]
      exact a2
    | some t =>
      obtain ⟨e, he, _, hp⟩ := fi_some hf
      have htl := h.tk.lt he
      have he1 : (S.drop (5 * m + c)).tk[t]? = some e := he
      have hdone : e.done = m1 := by unfold isAns at hp; simp only [Bool.and_eq_true, decide_eq_true_eq] at hp; exact hp.2
      have hwr : e.wr = decide (c = 2) := by unfold isAns at hp; simp only [Bool.and_eq_true, decide_eq_true_eq, beq_iff_eq] at hp; exact hp.1.1.1.2
      have hbd := h.tk.hbd t e he
      have hle := leN_le e.con
      have b1 : φ1.1 (r + 24) t = nI e.resp := a2.tk.hres t e he1
      have b2 : φ1.1 (r + 23) t = nI e.beats := a2.tk.hbea t e he1
      have b3 : φ1.1 (r + 10) t = nI (leN e.con) := a2.tk.hlen t e he1
      have hrs4 : e.resp < 4 := (hw0 e (lmem he)).1
      simp only [oI, zI_lit, rRe_eq]
      rw [if_neg (show ¬ nI t = m1 from zI_ne_m1 (by omega)), rf_36 a2.rl, Option.bind_some, rg_36 a2.rl, Option.bind_some, zix (show 5 * m + c < 40 by omega), Option.bind_some, rf_31 a2.rl, Option.bind_some, rg_31 a2.rl, Option.bind_some, zix (show t < 64 by omega), Option.bind_some, q1, b1]
      simp only [zI_le (show rRe ((S.wi m).w c).r < 2 ^ 31 by omega) (show e.resp < 2 ^ 31 by omega)]
      have L93 : ∀ x, x = max e.resp (rRe ((S.wi m).w c).r) → ∃ φ', f_Ref_answerCame_L93 Γ φ1 r (nI c) (nI (5 * m + c)) (nI t) (nI x) (nI t) (some (r + 24)) = some ((), φ') ∧ RV Γ φ' r (S.passM m c) ∧ RFr r [22, 23, 24, 25] φ1 φ' := by
        intro x hx
        unfold f_Ref_answerCame_L93 f_Ref_answerCame_L177
        rw [hS]
        rcases hc with hc | hc
        · subst hc
          have hwt : e.wr = true := hwr
          have hz := ((hw0 e (lmem he)).2 hdone).1 hwt
          have hxr : x = rRe ((S.wi m).w 2).r := by rw [hx, hz]; exact Nat.max_eq_right (Nat.zero_le _)
          rw [if_pos rfl, updF_some (show S.tk.findIdx? (isAns m true (rId ((S.wi m).w 2).r)) = some t from hf) he]
          simp (disch := first | assumption | omega) only [Option.bind_some, rg_31 a2.rl, zix, zI_lit, if_true, a2.rl.o, rf_29 a2.rl, rg_29 a2.rl, uI_1, uI_2, uI_3, uL_1, uL_2, uL_3, vz_at, Nat.add_left_cancel_iff, Nat.reduceEqDiff, if_false, zr1, zr2, htm]
          have hv := VTk.set a2.tk he1 (e' := ((e.w_resp (rRe ((S.wi m).w 2).r)).w_done (nI S.time))) (sen' := φ1.1 (r + 21)) (don' := va_up (φ1.1 (r + 22)) t (nI S.time)) (bea' := φ1.1 (r + 23)) (res' := va_up (φ1.1 (r + 24)) t (nI x)) (see' := φ1.2.1 (r + 19)) (dat' := φ1.2.1 (r + 25)) rfl rfl rfl rfl rfl hbd.2.1 (a2.tk.hgen t e he1) (a2.tk.hsen t e he1) (vz_same _ _ _) (a2.tk.hbea t e he1) (by rw [vz_same, hxr]) (a2.tk.hsee t e he1) (a2.tk.hdat t e he1) (fun u hu _ => ⟨rfl, vz_ne _ hu, rfl, vz_ne _ hu, rfl⟩) (fun u k _ _ => rfl)
          have f1 : RFr r [19, 21, 22, 23, 24, 25] φ1 (uI (uI φ1 (r + 24) t (nI x)) (r + 22) t (nI S.time)) := by repeat (first | exact RFr.refl _ _ _ | refine RFr.uI ?_ (by decide) _ _ | refine RFr.uL ?_ (by decide) _ _ | refine rfr_uO ?_ (by decide) _ _)
          have h2 := a2.tkU f1 (List.length_set ..) (by simpa [uI_1, uI_2, uI_3, uL_1, uL_2, uL_3, vz_at] using hv)
          exact ⟨_, rfl, h2, by repeat (first | exact RFr.refl _ _ _ | refine RFr.uI ?_ (by decide) _ _ | refine RFr.uL ?_ (by decide) _ _ | refine rfr_uO ?_ (by decide) _ _)⟩
        · subst hc
          have hwf : e.wr = false := hwr
          have hbt := ((hw0 e (lmem he)).2 hdone).2 hwf
          rw [if_neg (show ¬ (4 = 2) by omega), updF_some (show S.tk.findIdx? (isAns m false (rId ((S.wi m).w 4).r)) = some t from hf) he]
          simp only [Option.bind_some, rg_31 a2.rl, zix (show t < 64 by omega), zI_lit, a2.rl.o, if_true, rf_30 a2.rl, rg_30 a2.rl, rf_35 a2.rl, rg_35 a2.rl, rf_32 a2.rl, rg_32 a2.rl, rf_17 a2.rl, rg_17 a2.rl, rf_29 a2.rl, rg_29 a2.rl, zix (show 5 * m + 4 < 40 by omega), q2]
          rw [if_neg (show ¬ (nI 4 = nI 2) by decide)]
          simp (disch := first | assumption | omega) only [uI_1, uI_2, uI_3, uL_1, uL_2, uL_3, vz_at, Nat.add_left_cancel_iff, Nat.reduceEqDiff, if_false, zr1, zr2, b2, zI_mul, zI_add, zix, Option.bind_some, vz_same, if_true, b3, zI_eq, ↓zm1, htm]
          have fin : ∀ v, v = (if e.beats + 1 = leN e.con then nI S.time else m1) → ∃ φ', some ((), uI (uI (uL (uI φ1 (r + 24) t (nI x)) (r + 25) (16 * t + e.beats) ((S.wi m).w 4).c) (r + 23) t (nI (e.beats + 1))) (r + 22) t v) = some ((), φ') ∧ RV Γ φ' r ((S.drop (5 * m + 4)).w_tk (S.tk.set t ((((e.w_dat (va_up e.dat e.beats ((S.wi m).w 4).c)).w_beats (e.beats + 1)).w_resp (max e.resp (rRe ((S.wi m).w 4).r))).w_done (if e.beats + 1 = leN e.con then nI S.time else m1)))) ∧ RFr r [22, 23, 24, 25] φ1 φ' := by
            intro v hv0
            have hv := VTk.set a2.tk he1 (e' := ((((e.w_dat (va_up e.dat e.beats ((S.wi m).w 4).c)).w_beats (e.beats + 1)).w_resp (max e.resp (rRe ((S.wi m).w 4).r))).w_done (if e.beats + 1 = leN e.con then nI S.time else m1))) (sen' := φ1.1 (r + 21)) (don' := va_up (φ1.1 (r + 22)) t v) (bea' := va_up (φ1.1 (r + 23)) t (nI (e.beats + 1))) (res' := va_up (φ1.1 (r + 24)) t (nI x)) (see' := φ1.2.1 (r + 19)) (dat' := va_up (φ1.2.1 (r + 25)) (16 * t + e.beats) ((S.wi m).w 4).c) rfl rfl rfl rfl rfl (show e.beats + 1 ≤ 16 by omega) (fun hx' => by have : e.wr = true := hx'; rw [hwf] at this; cases this) (a2.tk.hsen t e he1) (by rw [vz_same, hv0]) (vz_same _ _ _) (by rw [vz_same, hx]) (a2.tk.hsee t e he1) (fun k hk hk6 => by
              have hk' : k < e.beats + 1 := hk
              show va_up (φ1.2.1 (r + 25)) (16 * t + e.beats) ((S.wi m).w 4).c (16 * t + k) = va_up e.dat e.beats ((S.wi m).w 4).c k
              rw [vz_at, vz_at]
              by_cases hkb : k = e.beats
              · rw [if_pos (by omega), if_pos hkb]
              · rw [if_neg (by omega), if_neg hkb]
                exact a2.tk.hdat t e he1 k (by omega) hk6) (fun u hu _ => ⟨rfl, vz_ne _ hu, vz_ne _ hu, vz_ne _ hu, rfl⟩) (fun u k hu hk => by
              show va_up (φ1.2.1 (r + 25)) (16 * t + e.beats) ((S.wi m).w 4).c (16 * u + k) = φ1.2.1 (r + 25) (16 * u + k)
              exact vz_ne _ (by omega))
            have f1 : RFr r [19, 21, 22, 23, 24, 25] φ1 (uI (uI (uL (uI φ1 (r + 24) t (nI x)) (r + 25) (16 * t + e.beats) ((S.wi m).w 4).c) (r + 23) t (nI (e.beats + 1))) (r + 22) t v) := by repeat (first | exact RFr.refl _ _ _ | refine RFr.uI ?_ (by decide) _ _ | refine RFr.uL ?_ (by decide) _ _ | refine rfr_uO ?_ (by decide) _ _)
            have h2 := a2.tkU f1 (List.length_set ..) (by simpa [uI_1, uI_2, uI_3, uL_1, uL_2, uL_3, vz_at] using hv)
            exact ⟨_, rfl, h2, by repeat (first | exact RFr.refl _ _ _ | refine RFr.uI ?_ (by decide) _ _ | refine RFr.uL ?_ (by decide) _ _ | refine rfr_uO ?_ (by decide) _ _)⟩
          by_cases hl : e.beats + 1 = leN e.con
          · rw [if_pos hl]
            have := fin (nI S.time) (by rw [if_pos hl])
            exact this
          · rw [if_neg hl]
            have := fin m1 (by rw [if_neg hl])
            exact this
      by_cases hmx : rRe ((S.wi m).w c).r ≤ e.resp
      · rw [if_pos hmx, Option.bind_some, zix (show t < 64 by omega), Option.bind_some, b1]
        exact L93 e.resp (Nat.max_eq_left hmx).symm
      · rw [if_neg hmx]
        exact L93 _ (Nat.max_eq_right (by omega)).symm
  obtain ⟨φ', c1, c2, c3⟩ := L38
  refine ⟨φ', ?_, c2, (a3.mono (by decide)).trans (c3.mono (by decide))⟩
  unfold f_Ref_answerCame
  simp only [h.rl.o, if_true, zI_lit, e_rowOf0, Option.bind_some, a1, rf_36 a2.rl, rg_36 a2.rl, zI_mul, zI_add, zix (show 5 * m + c < 40 by omega), q1, rId_eq]
  rcases hc with hc | hc
  · subst hc
    exact c1
  · subst hc
    exact c1
theorem r_goMaster {Γ : gm_T} {φ : ph_T} {r : Nat} {S : XS} (h : RV Γ φ r S) {m c : Nat} (hm : m < 4) (hc : c < 5)
    (h0 : c = 0 ∨ c = 3 → S.hasRm (5 * m + c) = true ∧ ((S.wi m).w c).r = 0 ∧ ∃ t, S.tk.findIdx? (isUns m (decide (c = 0))) = some t)
    (h1 : c = 1 → S.hasRm (5 * m + 1) = true ∧ ∃ t e, S.tk.findIdx? (isUnf m) = some t ∧ S.tk[t]? = some e ∧ ((S.wi m).w 1).c = e.dat e.beats)
    (h2 : c = 2 ∨ c = 4 → S.row (5 * m + c) ≠ []) (hw0 : ∀ e ∈ S.tk, e.resp < 4 ∧ (e.done = m1 → (e.wr = true → e.resp = 0) ∧ (e.wr = false → e.beats < leN e.con))) :
    ∃ φ', f_Ref_goMaster Γ φ r (nI m) (nI c) = some ((), φ') ∧ RV Γ φ' r (S.passM m c) ∧ RFr r [19, 21, 22, 23, 24, 25, 32, 33, 34, 35] φ φ' := by
  unfold f_Ref_goMaster f_Ref_goMaster_L9 f_Ref_goMaster_L37
  simp only [h.rl.o, if_true, zI_lit]
  match c, hc with
  | 0, _ =>
    obtain ⟨q1, q2, t, q3⟩ := h0 (Or.inl rfl)
    obtain ⟨φ', a1, a2, a3⟩ := r_addressSent h hm (Or.inl rfl) q1 q2 q3
    refine ⟨φ', ?_, a2, a3.mono (by decide)⟩
    rw [if_pos rfl, a1]
    rfl
  | 1, _ =>
    obtain ⟨q1, t, e, q2, q3, q4⟩ := h1 rfl
    obtain ⟨φ', a1, a2, a3⟩ := r_dataSent h hm q1 q2 q3 q4
    refine ⟨φ', ?_, a2, a3.mono (by decide)⟩
    rw [if_neg (show ¬ (nI 1 = nI 0) by decide), if_neg (show ¬ (nI 1 = nI 3) by decide), if_pos rfl, a1]
    rfl
  | 2, _ =>
    obtain ⟨φ', a1, a2, a3⟩ := r_answerCame h hm (Or.inl rfl) (h2 (Or.inl rfl)) hw0
    refine ⟨φ', ?_, a2, a3.mono (by decide)⟩
    rw [if_neg (show ¬ (nI 2 = nI 0) by decide), if_neg (show ¬ (nI 2 = nI 3) by decide), if_neg (show ¬ (nI 2 = nI 1) by decide), a1]
    rfl
  | 3, _ =>
    obtain ⟨q1, q2, t, q3⟩ := h0 (Or.inr rfl)
    obtain ⟨φ', a1, a2, a3⟩ := r_addressSent h hm (Or.inr rfl) q1 q2 q3
    refine ⟨φ', ?_, a2, a3.mono (by decide)⟩
    rw [if_neg (show ¬ (nI 3 = nI 0) by decide), if_pos rfl, a1]
    rfl
  | 4, _ =>
    obtain ⟨φ', a1, a2, a3⟩ := r_answerCame h hm (Or.inr rfl) (h2 (Or.inr rfl)) hw0
    refine ⟨φ', ?_, a2, a3.mono (by decide)⟩
    rw [if_neg (show ¬ (nI 4 = nI 0) by decide), if_neg (show ¬ (nI 4 = nI 3) by decide), if_neg (show ¬ (nI 4 = nI 1) by decide), a1]
    rfl
