theorem fi_some {α : Type} {p : α → Bool} {l : List α} {i : Nat} (h : l.findIdx? p = some i) : ∃ e, l[i]? = some e ∧ l.find? p = some e ∧ p e = true := by
  obtain ⟨h1, h2, h3⟩ := List.findIdx?_eq_some_iff_getElem.mp h
  refine ⟨l[i], List.getElem?_eq_getElem h1, ?_, h2⟩
  rw [List.find?_eq_some_iff_getElem]
  exact ⟨h2, i, h1, rfl, fun j hj => by simpa using h3 j hj⟩
theorem fi_none {α : Type} {p : α → Bool} {l : List α} (h : l.findIdx? p = none) : l.find? p = none := by
  rw [List.find?_eq_none]
  intro x hx
  have := List.findIdx?_eq_none_iff.mp h x hx
  simp [this]
/-- what is held is shown again as it was -/
def InvA (S : XS) (m c : Nat) (wr : Bool) : Prop := hdW (S.wi m) c = true → ∃ t, S.tk.find? (isUns m wr) = some t ∧ (S.wi m).w c = ⟨true, t.con, 0⟩
theorem r_showAddress {Γ : gm_T} {φ : ph_T} {r : Nat} {S : XS} (h : RV Γ φ r S) {m c : Nat} (hm : m < 4) (hc : c = 0 ∨ c = 3) (hpat : S.mpat m c < 65536) (htime : S.time < 2 ^ 31) (hh : φ.1 (r + 30) (5 * m + c) = bI (hdW (S.wi m) c)) (hi : InvA S m c (decide (c = 0))) :
    ∃ φ', f_Ref_showAddress Γ φ r (nI m) (nI c) = some ((), φ') ∧ RV Γ φ' r (S.setW m c (S.adrW m c (decide (c = 0)))) ∧ RFr r [26, 28, 29] φ φ' := by
  have L80 : ∀ (b : Bool) (x : Int64), ∃ φ', f_Ref_showAddress_L80 Γ φ x (bI b) (nI (5 * m + c)) r = some ((), φ') ∧ RV Γ φ' r (S.setW m c ⟨b, if b = true then x else 0, 0⟩) ∧ RFr r [26, 28, 29] φ φ' := by
    intro b x
    obtain ⟨φ', e1, e2, e3⟩ := r_show h (p := m) (k := c) (by omega) (by omega) b x 0
    refine ⟨φ', ?_, ?_, e3⟩
    · unfold f_Ref_showAddress_L80
      simp only [h.rl.o, if_true, e1, Option.bind_some]
    · simpa using e2
  have L17 : ∃ φ', f_Ref_showAddress_L17 Γ φ r (nI (5 * m + c)) (bI (decide (c = 0))) (nI m) r = some ((), φ') ∧ RV Γ φ' r (S.setW m c (S.adrW m c (decide (c = 0)))) ∧ RFr r [26, 28, 29] φ φ' := by
    unfold f_Ref_showAddress_L17 f_Ref_showAddress_L53 f_Ref_showAddress_L57 f_Ref_showAddress_L58
    simp (disch := first | assumption | omega) only [h.rl.o, rf_8 h.rl, rg_8 h.rl, rf_37 h.rl, rg_37 h.rl, r_unsent h hm, Option.bind_some, if_true, zix, hh, bI_eq0, ↓zm1, zI_ne_m, zI_m_ne, zI_lit, zI_le, zI_eq, zI_mul, zI_lt, zI_modn, zI_div, zI_sub, zI_add, zN_mod, h.sc.time, h.mp m c hm (by omega), e_tells]
    unfold XS.adrW
    cases hf : S.tk.findIdx? (isUns m (decide (c = 0))) with
    | none =>
      have hf2 := fi_none hf
      have hd : hdW (S.wi m) c = false := by
        cases hx : hdW (S.wi m) c with
        | false => rfl
        | true => obtain ⟨t, ht, _⟩ := hi hx; rw [hf2] at ht; cases ht
      simp only [hd, hf2, oI, if_true, Bool.false_eq_true, if_false]
      exact L80 false 0
    | some t =>
      obtain ⟨e, he, hf2, hp⟩ := fi_some hf
      have ht := h.tk.lt he
      simp (disch := first | assumption | omega) only [oI, zI_ne_m, if_false, r_burstOf h he, Option.bind_some, hf2]
      cases hd : hdW (S.wi m) c with
      | true =>
        obtain ⟨t', ht', hw⟩ := hi hd
        rw [hf2] at ht'
        cases ht'
        simp only [Bool.true_eq_false, if_false, if_true, hw]
        exact L80 true e.con
      | false =>
        cases ho : on (S.mpat m c) S.time with
        | true =>
          simp only [Bool.true_eq_false, Bool.false_eq_true, if_false, if_true]
          exact L80 true e.con
        | false =>
          simp only [Bool.true_eq_false, Bool.false_eq_true, if_false, if_true]
          exact L80 false e.con
  unfold f_Ref_showAddress
  simp (disch := first | assumption | omega) only [↓zm1, zI_ne_m, zI_m_ne, zI_lit, zI_le, zI_eq, zI_mul, zI_lt, zI_modn, zI_div, zI_sub, zI_add, zN_mod]
  rcases hc with hc | hc
  · subst hc
    exact L17
  · subst hc
    exact L17
