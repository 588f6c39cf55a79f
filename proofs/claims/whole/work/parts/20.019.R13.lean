/-! THE REFERENCE shows all wires of a slave -/
def fin3 (T : XS) (s : Nat) (hd hd2 : Bool) : XS := fin2 ((((T.setR (4 + s) 0 (on (T.spat s 0) T.time && decide ((T.sw s).length < 4))).setR (4 + s) 1 (on (T.spat s 1) T.time && lacks (T.sw s))).setR (4 + s) 3 (on (T.spat s 3) T.time && decide ((T.sr s).length < 4))).w_chb (va_up T.chb s (pkB T s hd2))) s (pkB T s hd2) (pkR T s hd)
theorem r_sl105 {Γ : gm_T} {φ : ph_T} {r : Nat} {T : XS} (h : RV Γ φ r T) (hB : Bd T) {s : Nat} (hs : s < 4) {hd hd2 : Bool} (hh : φ.1 (r + 30) (5 * (4 + s) + 4) = bI hd) (hI : hd = true → ∃ i, T.chr s = some i) (hh2 : φ.1 (r + 30) (5 * (4 + s) + 2) = bI hd2) (hI2 : hd2 = true → ∃ i e, T.chb s = some i ∧ (T.sw s)[i]? = some e ∧ e.got = leN e.con) :
    ∀ d k fu, k + d = (T.sw s).length → d < fu → ∃ φ', f_Ref_showSlave_L105 Γ fu φ r (nI s) (nI (5 * (4 + s))) (bI (lacks ((T.sw s).take k))) (nI k) = some ((), φ') ∧ RV Γ φ' r (fin3 T s hd hd2) ∧ RFr r [26, 27, 28, 29, 68, 69] φ φ' := by
  have hle := h.sw.hle s hs
  have hmm := h.sw.hmany s hs
  have hpat := hB.spat s 0
  have htm := hB.time
  intro d
  induction d with
  | zero =>
    intro k fu hd' hf
    match fu, hf with
    | fu + 1, _ =>
      have key := fun b : Bool => r_sl207 h hB hs hh hI hh2 hI2 b (lacks (T.sw s))
      have hk : (T.sw s).take k = T.sw s := List.take_of_length_le (by omega)
      rw [hk]
      unfold f_Ref_showSlave_L105 f_Ref_showSlave_L206
      simp (disch := first | assumption | omega) only [h.rl.o, rf_9 h.rl, rg_9 h.rl, rf_34 h.rl, rg_34 h.rl, rf_58 h.rl, rg_58 h.rl, rf_59 h.rl, rg_59 h.rl, rf_61 h.rl, rg_61 h.rl, rf_62 h.rl, rg_62 h.rl, rf_34 h.rl, Option.bind_some, if_true, zix, hmm, ↓zm1, zI_ne_m, zI_m_ne, zI_lit, zI_le, zI_eq, zI_mul, zI_lt, zI_modn, zI_div, zI_sub, zI_add, zN_mod, h.sp s 0 hs (by omega), h.sc.time, e_tells, bI_eq0]
      rw [if_pos (show (T.sw s).length ≤ k by omega)]
      have fin : ∀ b : Bool, b = (on (T.spat s 0) T.time && decide ((T.sw s).length < 4)) → ∃ φ', f_Ref_showSlave_L207 Γ φ r (nI s) (nI (5 * (4 + s))) (bI (lacks (T.sw s))) (bI b) (nI (5 * (4 + s) + 0)) (some (r + 27)) = some ((), φ') ∧ RV Γ φ' r (fin3 T s hd hd2) ∧ RFr r [26, 27, 28, 29, 68, 69] φ φ' := by
        intro b hb
        unfold fin3
        rw [← hb]
        exact key b
      cases hon : on (T.spat s 0) T.time with
      | false =>
        rw [hon] at fin
        simp only [if_true]
        exact fin false rfl
      | true =>
        rw [hon] at fin
        simp only [Bool.true_eq_false, if_false]
        by_cases hl : 4 ≤ (T.sw s).length
        · rw [if_pos hl]
          exact fin false (by simp; omega)
        · rw [if_neg hl]
          exact fin true (by simp; omega)
  | succ d ih =>
    intro k fu hd' hf
    match fu, hf with
    | fu + 1, hf =>
      obtain ⟨e, he⟩ := lget (l := T.sw s) (t := k) (by omega)
      have h1 := h.sw.hat s k e hs he
      have h2 := h.sw.hent s k e hs he
      have h3 := hB.sw s e (lmem he)
      have hl16 := leN_le e.con
      have ih' := ih (k + 1) fu (by omega) (by omega)
      have hla : lacks ((T.sw s).take (k + 1)) = (lacks ((T.sw s).take k) || decide (e.got < leN e.con)) := by
        unfold lacks
        rw [List.take_add_one, he, List.any_append]
        simp
      rw [hla] at ih'
      unfold f_Ref_showSlave_L105 f_Ref_showSlave_L153 f_Ref_showSlave_L158
      simp (disch := first | assumption | omega) only [h.rl.o, rf_9 h.rl, rg_9 h.rl, rf_34 h.rl, rg_34 h.rl, rf_58 h.rl, rg_58 h.rl, rf_59 h.rl, rg_59 h.rl, rf_61 h.rl, rg_61 h.rl, rf_62 h.rl, rg_62 h.rl, Option.bind_some, if_true, zix, hmm, ↓zm1, zI_ne_m, zI_m_ne, zI_lit, zI_le, zI_eq, zI_mul, zI_lt, zI_modn, zI_div, zI_sub, zI_add, zN_mod]
      simp (disch := first | assumption | omega) only [h1, h2, zix, Option.bind_some, e_Ref_lengthOf, bI_eq0, zI_le]
      rw [if_neg (show ¬ (T.sw s).length ≤ k by omega)]
      cases hq : lacks ((T.sw s).take k) with
      | true =>
        rw [hq] at ih'
        simp only [Bool.true_eq_false, if_false]
        exact ih'
      | false =>
        rw [hq] at ih'
        simp only [if_true]
        by_cases hg : leN e.con ≤ e.got
        · rw [if_pos hg]
          rw [decide_eq_false (show ¬ e.got < leN e.con by omega)] at ih'
          exact ih'
        · rw [if_neg hg]
          rw [decide_eq_true (show e.got < leN e.con by omega)] at ih'
          exact ih'
/-- one of the channels that the crossbar drives, and one that it hears -/
theorem r_sl8a {Γ : gm_T} {φ : ph_T} {r : Nat} {T : XS} (h : RV Γ φ r T) {s c : Nat} (hs : s < 4) (hc : c = 0 ∨ c = 1 ∨ c = 3) (fu : Nat) :
    ∃ φ', f_Ref_showSlave_L8 Γ (fu + 1) φ r (nI s) (nI (5 * (4 + s))) (nI c) = f_Ref_showSlave_L8 Γ fu φ' r (nI s) (nI (5 * (4 + s))) (nI (c + 1)) ∧ RV Γ φ' r (T.setW (4 + s) c (rowW (T.row (5 * (4 + s) + c)))) ∧ RFr r [26, 28, 29] φ φ' := by
  have h4 := roomN_le ((5 * (4 + s) + c) % 5)
  have h5 := h.row.hle (5 * (4 + s) + c) (by omega)
  have hmm := h.row.hmany (5 * (4 + s) + c) (by omega)
  have key : ∀ b : Bool, b = decide (0 < (T.row (5 * (4 + s) + c)).length) → ∃ φ', f_Ref_showSlave_L73 Γ (f_Ref_showSlave_L8 Γ fu) φ r (nI s) (nI (5 * (4 + s))) (nI c) (nI (5 * (4 + s) + c)) (bI b) (nI (5 * (4 + s) + c)) r = f_Ref_showSlave_L8 Γ fu φ' r (nI s) (nI (5 * (4 + s))) (nI (c + 1)) ∧ RV Γ φ' r (T.setW (4 + s) c (rowW (T.row (5 * (4 + s) + c)))) ∧ RFr r [26, 28, 29] φ φ' := by
    intro b hb
    obtain ⟨φ1, e1, e2, e3⟩ := r_show h (p := 4 + s) (k := c) (by omega) (by omega) b (φ.2.1 (r + 32) (4 * (5 * (4 + s) + c))) (φ.1 (r + 33) (4 * (5 * (4 + s) + c)))
    have hw : (⟨b, if b = true then φ.2.1 (r + 32) (4 * (5 * (4 + s) + c)) else 0, if b = true then φ.1 (r + 33) (4 * (5 * (4 + s) + c)) else 0⟩ : WV) = rowW (T.row (5 * (4 + s) + c)) := by
      cases hr : T.row (5 * (4 + s) + c) with
      | nil => rw [hr] at hb; subst hb; rfl
      | cons e l =>
        have he := h.row.hent (5 * (4 + s) + c) 0 e (by omega) (by rw [hr]; rfl)
        simp only [Nat.add_zero] at he
        rw [hr] at hb
        subst hb
        simp [he, rowW]
    rw [hw] at e2
    refine ⟨φ1, ?_, e2, e3⟩
    unfold f_Ref_showSlave_L73 f_Ref_showSlave_L94
    simp (disch := first | assumption | omega) only [h.rl.o, rf_39 h.rl, rg_39 h.rl, rf_40 h.rl, rg_40 h.rl, Option.bind_some, if_true, zix, ↓zm1, zI_ne_m, zI_m_ne, zI_lit, zI_le, zI_eq, zI_mul, zI_lt, zI_modn, zI_div, zI_sub, zI_add, zN_mod]
    simp only [e1, Option.bind_some]
  obtain ⟨φ', k1, k2, k3⟩ := key _ rfl
  refine ⟨φ', ?_, k2, k3⟩
  rw [← k1]
  conv => lhs; unfold f_Ref_showSlave_L8
  simp (disch := first | assumption | omega) only [h.rl.o, rf_42 h.rl, rg_42 h.rl, e_rowOf1, Option.bind_some, if_true, zix, hmm, ↓zm1, zI_ne_m, zI_m_ne, zI_lit, zI_le, zI_eq, zI_mul, zI_lt, zI_modn, zI_div, zI_sub, zI_add, zN_mod]
  rw [if_neg (show ¬ 5 ≤ c by omega), if_neg (show ¬ c = 2 by omega), if_neg (show ¬ c = 4 by omega)]
  by_cases hc0 : (T.row (5 * (4 + s) + c)).length ≤ 0
  · rw [if_pos hc0, decide_eq_false (by omega)]
    rfl
  · rw [if_neg hc0, decide_eq_true (by omega)]
    rfl
theorem r_sl8b {Γ : gm_T} {φ : ph_T} {r : Nat} {T : XS} (h : RV Γ φ r T) {s c : Nat} (hs : s < 4) (hc : c = 2 ∨ c = 4) (fu : Nat) :
    ∃ φ', f_Ref_showSlave_L8 Γ (fu + 1) φ r (nI s) (nI (5 * (4 + s))) (nI c) = f_Ref_showSlave_L8 Γ fu φ' r (nI s) (nI (5 * (4 + s))) (nI (c + 1)) ∧ RV Γ φ' r (T.setR (4 + s) c (T.hasRm (5 * (4 + s) + c))) ∧ RFr r [27] φ φ' := by
  obtain ⟨a1, a2⟩ := r_rdy h (p := 4 + s) (k := c) (by omega) (by omega) (T.hasRm (5 * (4 + s) + c))
  refine ⟨_, ?_, a1, a2⟩
  have hr := r_hasRoom h (i := 5 * (4 + s) + c) (by omega)
  conv => lhs; unfold f_Ref_showSlave_L8
  unfold f_Ref_showSlave_L23 f_Ref_showSlave_L94
  simp (disch := first | assumption | omega) only [h.rl.o, rf_34 h.rl, rg_34 h.rl, e_rowOf1, Option.bind_some, if_true, zix, hr, ↓zm1, zI_ne_m, zI_m_ne, zI_lit, zI_le, zI_eq, zI_mul, zI_lt, zI_modn, zI_div, zI_sub, zI_add, zN_mod, bI_ok, bI_ok2]
  rw [if_neg (show ¬ 5 ≤ c by omega)]
  rcases hc with hc | hc
  · rw [if_pos hc]
  · rw [if_neg (show ¬ c = 2 by omega), if_pos hc]
