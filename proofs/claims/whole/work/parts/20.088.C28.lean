/-! THE CLASS: the crossbar refuses -/
def hdR (l : List RE) : Int32 := match l with
  | [] => nI 0
  | e :: _ => e.r
theorem c_firstR {Γ : gm_T} {φ : ph_T} {a room : Nat} {tm : Bool} {l : List RE} (h : CRow Γ φ a room tm l) : f_Row_firstRest Γ φ a = some (hdR l, φ) := by
  cases l with
  | nil => exact c_firstRest0 h
  | cons e l => exact c_firstRest h
theorem c_refW {Γ : gm_T} {φ : ph_T} {w : Nat} {S : XS} (h : CSw Γ φ w S) (hD : ∀ d l, S.row (5 * (4 + S.ns) + 1) = d :: l → rLa d.r = true → S.row (5 * (4 + S.ns)) ≠ []) :
    ∃ φ', f_Switch_refuseWrite Γ φ w = some ((), φ') ∧ CSw Γ φ' w S.refW ∧ Fr w (w + swZ S.nm S.ns) φ φ' := by
  have h4 := h.lay.nm4
  have h5 := h.lay.ns4
  have eA : swA w S.nm S.ns = w + 24 + 20 * S.nm + 20 * S.ns := rfl
  have eZ : swZ S.nm S.ns = 31 + 30 * S.nm + 20 * S.ns := rfl
  have ok1 : okR S.nm S.ns (5 * (4 + S.ns) + 1) := Or.inr (by omega)
  have ok2 : okR S.nm S.ns (5 * (4 + S.ns) + 2) := Or.inr (by omega)
  have ok0 : okR S.nm S.ns (5 * (4 + S.ns)) := Or.inr (by omega)
  have in1 := rA_in (w := w) h4.2 ok1
  have in2 := rA_in (w := w) h4.2 ok2
  have in0 := rA_in (w := w) h4.2 ok0
  have r1 := h.row _ ok1
  have r2 := h.row _ ok2
  have r0 := h.row _ ok0
  have q1 : f_Switch_ofTarget Γ φ w (nI S.ns) (1 : Int32) = some (some (rA w S.nm (5 * (4 + S.ns) + 1)), φ) := c_ofTarget (c := 1) h (by omega) (by omega)
  have q2 : f_Switch_ofTarget Γ φ w (nI S.ns) (2 : Int32) = some (some (rA w S.nm (5 * (4 + S.ns) + 2)), φ) := c_ofTarget (c := 2) h (by omega) (by omega)
  have q0 : f_Switch_ofTarget Γ φ w (nI S.ns) (0 : Int32) = some (some (rA w S.nm (5 * (4 + S.ns))), φ) := c_ofTarget (c := 0) h (by omega) (by omega)
  have hroom : f_Row_hasRoom Γ φ (rA w S.nm (5 * (4 + S.ns) + 2)) = some (bI (S.hasRm (5 * (4 + S.ns) + 2)), φ) := c_hasRoom r2
  unfold f_Switch_refuseWrite f_Switch_refuseWrite_L58
  rw [if_pos h.lay.o, h.ob.ns, q1, Option.bind_some]
  simp only [h.ob.ns, q2, q0, Option.bind_some, r1.o, if_true, c_firstR r1, e_restLast, c_holds r1, bI_eqz, r2.o, hroom]
  unfold XS.refW
  cases hr1 : S.row (5 * (4 + S.ns) + 1) with
  | nil => exact ⟨φ, rfl, h, Fr.refl _ _ _⟩
  | cons d l =>
    rw [hr1] at r1
    simp only [List.length_cons, Nat.zero_lt_succ, decide_true, Bool.true_eq_false, if_false, hdR]
    obtain ⟨φ1, a1, a2, a3⟩ := c_drop r1 (by simp)
    have h1 : CSw Γ φ1 w (S.drop (5 * (4 + S.ns) + 1)) := by
      have := h.rowU ok1 a3 a2
      refine this.cg rfl rfl rfl rfl rfl rfl rfl rfl ?_ rfl rfl rfl rfl rfl rfl rfl
      show va_up S.row _ (S.row (5 * (4 + S.ns) + 1)).tail = _
      rw [hr1]
      rfl
    by_cases hla : rLa d.r = true
    case neg =>
      have hla : rLa d.r = false := by simpa using hla
      simp only [hla, if_true, Bool.false_eq_true, if_false]
      refine ⟨φ1, ?_, h1, a3.mono (by omega) (by omega)⟩
      unfold f_Switch_refuseWrite_L59 f_Switch_refuseWrite_L94
      simp only [Option.bind_some, r1.o, if_true, a1, bI_f]
      rw [if_pos (by decide)]
    case pos =>
      simp only [hla, Bool.true_eq_false, if_false, if_true]
      cases hrm : S.hasRm (5 * (4 + S.ns) + 2) with
      | false =>
        simp only [if_true, Bool.false_eq_true, if_false]
        exact ⟨φ, rfl, h, Fr.refl _ _ _⟩
      | true =>
        simp only [Bool.true_eq_false, if_false, if_true]
        cases hr0 : S.row (5 * (4 + S.ns)) with
        | nil => exact absurd hr0 (hD d l hr1 hla)
        | cons a l0 =>
          have r0' : CRow Γ φ1 (rA w S.nm (5 * (4 + S.ns))) (roomN (5 * (4 + S.ns) % 5)) (tmF (5 * (4 + S.ns))) (a :: l0) := by
            have := h1.row (5 * (4 + S.ns)) ok0
            rw [show (S.drop (5 * (4 + S.ns) + 1)).row (5 * (4 + S.ns)) = a :: l0 from by
              show va_up S.row _ _ (5 * (4 + S.ns)) = _
              rw [vz_ne _ (by omega), hr0]] at this
            exact this
          obtain ⟨φ2, φ3, b1, b2, b3, b4, b5⟩ := c_mvRow (i := 5 * (4 + S.ns)) (j := 5 * (4 + S.ns) + 2) (e := a) (l := l0) (x := ⟨0, nI (ansR (idN a.c) 3 false), S.time⟩) h1 ok0 ok2 (by omega) (by
            show va_up S.row _ _ (5 * (4 + S.ns)) = _
            rw [vz_ne _ (by omega), hr0]) (by
            unfold XS.hasRm at hrm ⊢
            show decide ((va_up S.row _ _ (5 * (4 + S.ns) + 2)).length < _) = true
            rw [vz_ne _ (by omega)]; exact hrm) (nI 0) (fun hh => by
            have : tmF (5 * (4 + S.ns) + 2) = false := by unfold tmF; rw [decide_eq_false (show ¬ 5 * (4 + S.ns) + 2 < 20 by omega)]; rfl
            rw [this] at hh; cases hh)
          have b1' : f_Row_put Γ φ1 (rA w S.nm (5 * (4 + S.ns) + 2)) (0 : Int64) (nI (ansR (idN a.c) 3 false)) (0 : Int32) = some ((), φ2) := b1
          have b2' : f_Row_drop Γ φ2 (rA w S.nm (5 * (4 + S.ns))) = some ((), φ3) := b2
          have har : f_Bus_answerRest Γ φ1 (nI (idN a.c)) (3 : Int32) (0 : Int32) = some (nI (ansR (idN a.c) 3 false), φ1) := e_answerRest Γ φ1 (idN a.c) 3 false
          refine ⟨φ3, ?_, ?_, (a3.mono (by omega) (by omega)).trans (b4.mono (by show w ≤ w + 3; omega) (by show swA w S.nm S.ns ≤ _; omega))⟩
          · unfold f_Switch_refuseWrite_L59 f_Switch_refuseWrite_L94
            rw [Option.bind_some, if_pos r1.o, a1, Option.bind_some, if_neg (show ¬ bI true = 0 by decide), Option.bind_some, if_pos r0.o]
            dsimp only
            rw [c_firstContent r0', Option.bind_some]
            dsimp only
            rw [e_Burst_idOf, Option.bind_some]
            dsimp only
            rw [har, Option.bind_some, Option.bind_some, if_pos r2.o]
            dsimp only
            rw [b1', Option.bind_some]
            dsimp only
            rw [b2', Option.bind_some]
          · refine b3.cg rfl rfl rfl rfl rfl rfl rfl rfl ?_ rfl rfl rfl rfl rfl rfl rfl
            show va_up (va_up (va_up S.row (5 * (4 + S.ns) + 1) (S.row (5 * (4 + S.ns) + 1)).tail) (5 * (4 + S.ns) + 2) (va_up S.row (5 * (4 + S.ns) + 1) (S.row (5 * (4 + S.ns) + 1)).tail (5 * (4 + S.ns) + 2) ++ [(⟨0, nI (ansR (idN a.c) 3 false), S.time⟩ : RE)])) (5 * (4 + S.ns)) (va_up (va_up S.row (5 * (4 + S.ns) + 1) (S.row (5 * (4 + S.ns) + 1)).tail) (5 * (4 + S.ns) + 2) (va_up S.row (5 * (4 + S.ns) + 1) (S.row (5 * (4 + S.ns) + 1)).tail (5 * (4 + S.ns) + 2) ++ [(⟨0, nI (ansR (idN a.c) 3 false), S.time⟩ : RE)]) (5 * (4 + S.ns))).tail = va_up (va_up (va_up S.row (5 * (4 + S.ns) + 1) (S.row (5 * (4 + S.ns) + 1)).tail) (5 * (4 + S.ns)) (va_up S.row (5 * (4 + S.ns) + 1) (S.row (5 * (4 + S.ns) + 1)).tail (5 * (4 + S.ns))).tail) (5 * (4 + S.ns) + 2) (va_up (va_up S.row (5 * (4 + S.ns) + 1) (S.row (5 * (4 + S.ns) + 1)).tail) (5 * (4 + S.ns)) (va_up S.row (5 * (4 + S.ns) + 1) (S.row (5 * (4 + S.ns) + 1)).tail (5 * (4 + S.ns))).tail (5 * (4 + S.ns) + 2) ++ [(⟨0, nI (ansR (idN a.c) 3 false), S.time⟩ : RE)])
            generalize va_up S.row (5 * (4 + S.ns) + 1) (S.row (5 * (4 + S.ns) + 1)).tail = f
            rw [vz_ne _ (show 5 * (4 + S.ns) ≠ 5 * (4 + S.ns) + 2 by omega), vz_ne _ (show 5 * (4 + S.ns) + 2 ≠ 5 * (4 + S.ns) by omega), row_comm _ (by omega)]
theorem c_refR {Γ : gm_T} {φ : ph_T} {w : Nat} {S : XS} (h : CSw Γ φ w S) (hB : Bd S) (hD : ∀ a l, S.row (5 * (4 + S.ns) + 3) = a :: l → S.dbeat < leN a.c) :
    ∃ φ', f_Switch_refuseRead Γ φ w = some ((), φ') ∧ CSw Γ φ' w S.refR ∧ Fr w (w + swZ S.nm S.ns) φ φ' := by
  have h4 := h.lay.nm4
  have h5 := h.lay.ns4
  have eA : swA w S.nm S.ns = w + 24 + 20 * S.nm + 20 * S.ns := rfl
  have eZ : swZ S.nm S.ns = 31 + 30 * S.nm + 20 * S.ns := rfl
  have ok3 : okR S.nm S.ns (5 * (4 + S.ns) + 3) := Or.inr (by omega)
  have ok4 : okR S.nm S.ns (5 * (4 + S.ns) + 4) := Or.inr (by omega)
  have in3 := rA_in (w := w) h4.2 ok3
  have in4 := rA_in (w := w) h4.2 ok4
  have r3 := h.row _ ok3
  have r4 := h.row _ ok4
  have q3 : f_Switch_ofTarget Γ φ w (nI S.ns) (3 : Int32) = some (some (rA w S.nm (5 * (4 + S.ns) + 3)), φ) := c_ofTarget (c := 3) h (by omega) (by omega)
  have q4 : f_Switch_ofTarget Γ φ w (nI S.ns) (4 : Int32) = some (some (rA w S.nm (5 * (4 + S.ns) + 4)), φ) := c_ofTarget (c := 4) h (by omega) (by omega)
  have hroom : f_Row_hasRoom Γ φ (rA w S.nm (5 * (4 + S.ns) + 4)) = some (bI (S.hasRm (5 * (4 + S.ns) + 4)), φ) := c_hasRoom r4
  unfold f_Switch_refuseRead f_Switch_refuseRead_L34
  rw [if_pos h.lay.o, h.ob.ns, q3, Option.bind_some]
  simp only [h.ob.ns, q4, Option.bind_some, r3.o, if_true, c_holds r3, bI_eqz, r4.o, hroom]
  unfold XS.refR
  cases hr3 : S.row (5 * (4 + S.ns) + 3) with
  | nil => exact ⟨φ, rfl, h, Fr.refl _ _ _⟩
  | cons a l =>
    rw [hr3] at r3
    have hdb := hD a l hr3
    have hle := leN_le a.c
    simp only [List.length_cons, Nat.zero_lt_succ, decide_true, Bool.true_eq_false, if_false]
    cases hrm : S.hasRm (5 * (4 + S.ns) + 4) with
    | false =>
      simp only [if_true, Bool.false_eq_true, if_false]
      exact ⟨φ, rfl, h, Fr.refl _ _ _⟩
    | true =>
      simp only [Bool.true_eq_false, if_false, if_true, c_firstContent r3, Option.bind_some, e_Burst_lengthOf, h.ob.db]
      obtain ⟨h1, f1⟩ := h.dbU (S.dbeat + 1)
      have hadd : nI S.dbeat + (1 : Int32) = nI (S.dbeat + 1) := by rw [zI_1, zI_add]
      have hsame : (uI φ w 15 (nI (S.dbeat + 1))).1 w 15 = nI (S.dbeat + 1) := by rw [uI_s, vz_same]
      rw [hadd, hsame]
      have r4' : CRow Γ (uI φ w 15 (nI (S.dbeat + 1))) (rA w S.nm (5 * (4 + S.ns) + 4)) (roomN ((5 * (4 + S.ns) + 4) % 5)) (tmF (5 * (4 + S.ns) + 4)) (S.row (5 * (4 + S.ns) + 4)) := h1.row _ ok4
      have hlen : (S.row (5 * (4 + S.ns) + 4)).length < roomN ((5 * (4 + S.ns) + 4) % 5) := by unfold XS.hasRm at hrm; simpa using hrm
      by_cases hlast : S.dbeat + 1 = leN a.c
      · rw [if_neg (by rw [zI_lt (by omega) (by omega)]; omega), if_pos hlast]
        obtain ⟨φ2, φ3, b1, b2, b3, b4, b5⟩ := c_mvRow (i := 5 * (4 + S.ns) + 3) (j := 5 * (4 + S.ns) + 4) (e := a) (l := l) (x := ⟨0, nI (ansR (idN a.c) 3 true), S.time⟩) h1 ok3 ok4 (by omega) hr3 hrm (nI 0) (fun hh => by
            have : tmF (5 * (4 + S.ns) + 4) = false := by unfold tmF; rw [decide_eq_false (show ¬ 5 * (4 + S.ns) + 4 < 20 by omega)]; rfl
            rw [this] at hh; cases hh)
        have b1' : f_Row_put Γ (uI φ w 15 (nI (S.dbeat + 1))) (rA w S.nm (5 * (4 + S.ns) + 4)) (0 : Int64) (nI (ansR (idN a.c) 3 true)) (0 : Int32) = some ((), φ2) := b1
        have b2' : f_Row_drop Γ φ2 (rA w S.nm (5 * (4 + S.ns) + 3)) = some ((), φ3) := b2
        have har : f_Bus_answerRest Γ (uI φ w 15 (nI (S.dbeat + 1))) (nI (idN a.c)) (3 : Int32) (1 : Int32) = some (nI (ansR (idN a.c) 3 true), uI φ w 15 (nI (S.dbeat + 1))) := e_answerRest Γ _ (idN a.c) 3 true
        obtain ⟨h3, f3⟩ := b3.dbU 0
        refine ⟨uI φ3 w 15 (nI 0), ?_, ?_, (f1.mono (by omega) (by omega)).trans ((b4.mono (by show w ≤ w + 3; omega) (by show swA w S.nm S.ns ≤ _; omega)).trans (f3.mono (by omega) (by omega)))⟩
        · unfold f_Switch_refuseRead_L66 f_Switch_refuseRead_L98
          rw [e_Burst_idOf, Option.bind_some]
          dsimp only
          rw [har, Option.bind_some, Option.bind_some, if_pos r4.o]
          dsimp only
          rw [b1', Option.bind_some, if_neg (by decide), Option.bind_some, if_pos r3.o]
          dsimp only
          rw [b2', Option.bind_some, if_pos h.lay.o]
          rfl
        · refine h3.cg rfl rfl rfl rfl rfl rfl rfl rfl ?_ rfl rfl rfl rfl rfl rfl rfl
          show va_up (va_up S.row (5 * (4 + S.ns) + 4) (S.row (5 * (4 + S.ns) + 4) ++ [(⟨0, nI (ansR (idN a.c) 3 true), S.time⟩ : RE)])) (5 * (4 + S.ns) + 3) (va_up S.row (5 * (4 + S.ns) + 4) (S.row (5 * (4 + S.ns) + 4) ++ [(⟨0, nI (ansR (idN a.c) 3 true), S.time⟩ : RE)]) (5 * (4 + S.ns) + 3)).tail = va_up (va_up S.row (5 * (4 + S.ns) + 3) (S.row (5 * (4 + S.ns) + 3)).tail) (5 * (4 + S.ns) + 4) (va_up S.row (5 * (4 + S.ns) + 3) (S.row (5 * (4 + S.ns) + 3)).tail (5 * (4 + S.ns) + 4) ++ [(⟨0, nI (ansR (idN a.c) 3 true), S.time⟩ : RE)])
          rw [vz_ne _ (show 5 * (4 + S.ns) + 3 ≠ 5 * (4 + S.ns) + 4 by omega), vz_ne _ (show 5 * (4 + S.ns) + 4 ≠ 5 * (4 + S.ns) + 3 by omega), row_comm _ (by omega)]
      · rw [if_pos (by rw [zI_lt (by omega) (by omega)]; omega), if_neg hlast]
        obtain ⟨φ2, b1, b2, b3⟩ := c_put r4' hlen ⟨0, nI (ansR (idN a.c) 3 false), S.time⟩ (nI 0) (fun hh => by
            have : tmF (5 * (4 + S.ns) + 4) = false := by unfold tmF; rw [decide_eq_false (show ¬ 5 * (4 + S.ns) + 4 < 20 by omega)]; rfl
            rw [this] at hh; cases hh)
        have b1' : f_Row_put Γ (uI φ w 15 (nI (S.dbeat + 1))) (rA w S.nm (5 * (4 + S.ns) + 4)) (0 : Int64) (nI (ansR (idN a.c) 3 false)) (0 : Int32) = some ((), φ2) := b1
        have har : f_Bus_answerRest Γ (uI φ w 15 (nI (S.dbeat + 1))) (nI (idN a.c)) (3 : Int32) (0 : Int32) = some (nI (ansR (idN a.c) 3 false), uI φ w 15 (nI (S.dbeat + 1))) := e_answerRest Γ _ (idN a.c) 3 false
        refine ⟨φ2, ?_, ?_, (f1.mono (by omega) (by omega)).trans (b3.mono (by omega) (by omega))⟩
        · unfold f_Switch_refuseRead_L66 f_Switch_refuseRead_L98
          rw [e_Burst_idOf, Option.bind_some]
          dsimp only
          rw [har, Option.bind_some, Option.bind_some, if_pos r4.o]
          dsimp only
          rw [b1', Option.bind_some, if_pos (by decide)]
        · have := h1.rowU ok4 b3 b2
          exact this.cg rfl rfl rfl rfl rfl rfl rfl rfl rfl rfl rfl rfl rfl rfl rfl rfl
