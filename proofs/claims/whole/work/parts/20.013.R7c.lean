theorem r_showData {Γ : gm_T} {φ : ph_T} {r : Nat} {S : XS} (h : RV Γ φ r S) {m : Nat} (hm : m < 4) (hpat : S.mpat m 1 < 65536) (htime : S.time < 2 ^ 31) (hh : φ.1 (r + 30) (5 * m + 1) = bI (hdW (S.wi m) 1)) (hi : InvD S m) :
    ∃ φ', f_Ref_showData Γ φ r (nI m) = some ((), φ') ∧ RV Γ φ' r (S.setW m 1 (S.datW m)) ∧ RFr r [26, 28, 29] φ φ' := by
  have L77 : ∀ t, ∃ φ', f_Ref_showData_L77 Γ φ r (nI (5 * m + 1)) t = some ((), φ') ∧ RV Γ φ' r (S.setW m 1 WV0) ∧ RFr r [26, 28, 29] φ φ' := by
    intro t
    obtain ⟨φ', e1, e2, e3⟩ := r_show h (p := m) (k := 1) (by omega) (by omega) false 0 0
    have e1' : f_Ref_show Γ φ r (nI (5 * m + 1)) 0 0 0 = some ((), φ') := e1
    refine ⟨φ', ?_, e2, e3⟩
    unfold f_Ref_showData_L77 f_Ref_showData_L78
    rw [if_pos rfl, if_pos h.rl.o, e1']
    rfl
  have L41 : ∀ (t : Int32) (y : Bool), f_Ref_showData_L41 Γ φ r (nI (5 * m + 1)) t (bI y) = if hdW (S.wi m) 1 = true ∨ (y = true ∧ on (S.mpat m 1) S.time = true) then f_Ref_showData_L73 Γ φ r (nI (5 * m + 1)) t else f_Ref_showData_L77 Γ φ r (nI (5 * m + 1)) t := by
    intro t y
    unfold f_Ref_showData_L41
    simp (disch := first | assumption | omega) only [h.rl.o, rf_8 h.rl, rg_8 h.rl, rf_37 h.rl, rg_37 h.rl, Option.bind_some, if_true, zix, hh, bI_eq0, zI_0, h.sc.time, h.mp m 1 hm (by omega), e_tells]
    cases hdW (S.wi m) 1 <;> cases y <;> cases on (S.mpat m 1) S.time <;> simp
  unfold f_Ref_showData f_Ref_showData_L40 f_Ref_showData_L36
  simp only [h.rl.o, rf_10 h.rl, rg_10 h.rl, rf_28 h.rl, rg_28 h.rl, Option.bind_some, if_true, r_unfinished h hm, ↓zm1]
  have q5 : (5 : Int32) * nI m + 1 = nI (5 * m + 1) := by simp only [zI_lit, zI_mul, zI_add]
  have q0 : ∀ t, f_Ref_showData_L41 Γ φ r (nI (5 * m + 1)) t 0 = _ := fun t => L41 t false
  have q1 : ∀ t, f_Ref_showData_L41 Γ φ r (nI (5 * m + 1)) t 1 = _ := fun t => L41 t true
  simp only [q5, q0, q1]
  unfold XS.datW
  cases hf : S.tk.findIdx? (isUnf m) with
  | none =>
    have hf2 := fi_none hf
    have hd : hdW (S.wi m) 1 = false := by
      cases hx : hdW (S.wi m) 1 with
      | false => rfl
      | true => obtain ⟨t, ht, _⟩ := hi hx; rw [hf2] at ht; cases ht
    simp only [hd, hf2, oI, if_true, Bool.false_eq_true, if_false, false_or, false_and]
    exact L77 m1
  | some t =>
    obtain ⟨e, he, hf2, hp⟩ := fi_some hf
    have ht := h.tk.lt he
    have h73 := r_data_1 h hm he hp
    simp (disch := first | assumption | omega) only [oI, zI_ne_m, if_false, zix, Option.bind_some, hf2, h.tk.hsen t e he, h.ea m hm, zI_0, bI_eq0]
    cases hd : hdW (S.wi m) 1 with
    | true =>
      obtain ⟨t', ht', hw⟩ := hi hd
      rw [hf2] at ht'
      cases ht'
      simp only [true_or, if_true, hw, ite_self]
      exact h73
    | false =>
      cases ho : on (S.mpat m 1) S.time with
      | true =>
        by_cases hs : e.sent = m1
        · cases hea : S.early m with
          | true => simpa [hs] using h73
          | false => simpa [hs] using L77 (nI t)
        · simpa [hs] using h73
      | false => simpa using L77 (nI t)
