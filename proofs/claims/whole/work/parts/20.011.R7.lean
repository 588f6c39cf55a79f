/-! THE REFERENCE shows data, and all wires of a master -/
theorem ru_kind {c : Int64} (h : ruN c = 0) : kiN c ≠ 3 := by
  intro h3
  unfold ruN at h
  rw [if_pos h3] at h
  cases h
def InvD (S : XS) (m : Nat) : Prop := hdW (S.wi m) 1 = true → ∃ t, S.tk.find? (isUnf m) = some t ∧ (S.wi m).w 1 = ⟨true, t.dat t.beats, t.rst t.beats⟩
theorem r_data_L {Γ : gm_T} {φ : ph_T} {r : Nat} {S : XS} (h : RV Γ φ r S) {t : Nat} {e : TK} (he : S.tk[t]? = some e) (wire ln : Nat) (x : Int64) : ∀ d i a fu, i + d = 8 → a < 256 → d < fu →
    f_Ref_showData_L145 Γ fu φ r (nI wire) (nI t) (nI ln) x (nI a) (nI i) = f_Ref_showData_L199 Γ φ r (nI wire) (nI t) (nI ln) x (nI (if e.sp = true then spF (uN x / 2 ^ 56) d i a else a)) := by
  have ht := h.tk.lt he
  intro d
  induction d with
  | zero =>
    intro i a fu hi ha hf
    match fu, hf with
    | fu + 1, _ =>
      unfold f_Ref_showData_L145 spF
      simp (disch := first | assumption | omega) only [↓zm1, zI_ne_m, zI_m_ne, zI_lit, zI_le, zI_eq, zI_mul, zI_lt, zI_modn, zI_div, zI_sub, zI_add, zN_mod]
      rw [if_pos (by omega)]
      simp
  | succ d ih =>
    intro i a fu hi ha hf
    match fu, hf with
    | fu + 1, hf =>
      have h31 : i &&& 31 = i := (Nat.and_two_pow_sub_one_eq_mod i 5).trans (Nat.mod_eq_of_lt (by omega))
      have hnt : nI 1 <<< nI i ^^^ m1 = nI (4294967295 - 2 ^ i) := by
        have := nt_bit ⟨i, by omega⟩
        simp only [↓zm1, zI_lit, zI_and, h31] at this
        exact this
      have hb := bit_long x (i := i) (by omega)
      simp only [zL_lit, zI_lit] at hb
      unfold f_Ref_showData_L145 f_Ref_showData_L190
      simp only [↓zm1, zI_lit, zL_lit, zI_add, zI_and, h31, hnt, hb]
      simp (disch := first | assumption | omega) only [h.rl.o, rf_22 h.rl, rg_22 h.rl, Option.bind_some, if_true, zix, h.tk.hspa t e he, bI_eq0, zI_le]
      rw [if_neg (by omega)]
      cases hs : e.sp with
      | false => simp
      | true =>
        simp only [Bool.true_eq_false, if_false, if_true]
        unfold spF
        have h255 : a &&& 255 = a := by rw [show 255 = 2 ^ 8 - 1 from rfl, Nat.and_two_pow_sub_one_eq_mod, Nat.mod_eq_of_lt ha]
        by_cases hc : Nat.testBit (uN x / 2 ^ 56) i = true
        · rw [if_pos hc, if_pos hc, ih (i + 1) _ fu (by omega) (by omega) (by omega), hs]
          simp
        · rw [if_neg hc, if_neg hc, and_big ⟨i, by omega⟩ a ha, ih (i + 1) _ fu (by omega) (Nat.lt_of_le_of_lt Nat.and_le_left ha) (by omega), hs]
          simp
