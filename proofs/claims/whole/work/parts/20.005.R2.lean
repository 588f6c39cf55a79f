/-! THE REFERENCE's ROWS -/
theorem roomN_le (c : Nat) : roomN c ≤ 4 := by unfold roomN; split <;> omega
theorem roomN_ge (c : Nat) : 2 ≤ roomN c := by unfold roomN; split <;> omega
theorem VRow.put {c : aL} {rs came many : aI} {row : Nat → List RE} (h : VRow c rs came many row) {i : Nat} (hi : i < 45) (hr : (row i).length < roomN (i % 5)) (e : RE) :
    VRow (va_up c (4 * i + (row i).length) e.c) (va_up rs (4 * i + (row i).length) e.r) (va_up came (4 * i + (row i).length) (nI e.t)) (va_up many i (nI ((row i).length + 1))) (va_up row i (row i ++ [e])) := by
  have h4 := roomN_le (i % 5)
  refine ⟨fun j hj => ?_, fun j hj => ?_, fun j k x hj hx => ?_⟩
  · by_cases hji : j = i
    · subst hji; simp [vz_at]
    · simp [vz_at, hji, h.hmany j hj]
  · by_cases hji : j = i
    · subst hji; simp [vz_at]; omega
    · simp [vz_at, hji, h.hle j hj]
  · by_cases hji : j = i
    · subst hji
      simp only [vz_at, if_true] at hx ⊢
      by_cases hk : k < (row j).length
      · rw [List.getElem?_append_left hk] at hx
        have := h.hent j k x hj hx
        simp [show k ≠ (row j).length by omega, this]
      · have hk2 : k = (row j).length := by
          have := (List.getElem?_eq_some_iff.mp hx).1
          simp at this
          omega
        subst hk2
        simp at hx
        subst hx
        simp
    · simp only [vz_at, if_neg hji] at hx ⊢
      have hk := (List.getElem?_eq_some_iff.mp hx).1
      have h5 := h.hle j hj
      have h6 := roomN_le (j % 5)
      have h7 : 4 * j + k ≠ 4 * i + (row i).length := by omega
      simp [h7, h.hent j k x hj hx]
theorem exP {r : Nat} {K : List Nat} {φ x : ph_T} {α : Type} {v : α} {P : ph_T → Prop} (hf : RFr r K φ x) (hq : RFr r K φ x → P x) : ∃ φ', some (v, x) = some (v, φ') ∧ P φ' ∧ RFr r K φ φ' := ⟨x, rfl, hq hf, hf⟩
theorem r_put {Γ : gm_T} {φ : ph_T} {r : Nat} {S : XS} (h : RV Γ φ r S) {i : Nat} (hi : i < 45) (hr : (S.row i).length < roomN (i % 5)) (c : Int64) (rr : Int32) (t : Nat) :
    ∃ φ', f_Ref_put Γ φ r (nI i) c rr (nI t) = some ((), φ') ∧ RV Γ φ' r (S.put i ⟨c, rr, t⟩) ∧ RFr r [32, 33, 34, 35] φ φ' := by
  have h4 := roomN_le (i % 5)
  have hm := h.row.hmany i hi
  have hv := h.row.put hi hr ⟨c, rr, t⟩
  unfold f_Ref_put
  simp (disch := first | assumption | omega) only [h.rl.o, rf_39 h.rl, rg_39 h.rl, rf_40 h.rl, rg_40 h.rl, rf_41 h.rl, rg_41 h.rl, rf_42 h.rl, rg_42 h.rl, Option.bind_some, if_true, zix, hm, ↓zm1, zI_ne_m, zI_m_ne, zI_lit, zI_le, zI_eq, zI_mul, zI_lt, zI_modn, zI_div, zI_sub, zI_add, zN_mod, uI_1, uI_2, uI_3, uL_1, uL_2, uL_3, vz_at, Nat.add_left_cancel_iff, Nat.reduceEqDiff, if_false, zr1, zr2]
  refine exP (by repeat (first | exact RFr.refl _ _ _ | refine RFr.uI ?_ (by decide) _ _ | refine RFr.uL ?_ (by decide) _ _ | refine rfr_uO ?_ (by decide) _ _)) (fun f => ?_)
  exact ⟨(RL.up h.rl (congrFun f.1 r)), (by rw [f.o (by decide)]; exact ⟨h.sc.nm, h.sc.ns, h.sc.lim, h.sc.pol, h.sc.whole, h.sc.time, h.sc.tk, h.sc.wm, h.sc.rm, h.sc.db, h.sc.er⟩), (by rw [f.i 1 (by decide)]; exact h.pg), (by rw [f.i 2 (by decide)]; exact h.mp), (by rw [f.i 3 (by decide)]; exact h.sp), (by rw [f.i 4 (by decide)]; exact h.ea), (by rw [f.i 5 (by decide)]; exact h.de), (by rw [f.i 6 (by decide)]; exact h.wa), (by rw [f.i 7 (by decide), f.i 8 (by decide)]; exact h.me), (by rw [f.i 9 (by decide), f.i 10 (by decide), f.i 11 (by decide), f.i 12 (by decide), f.i 13 (by decide), f.i 14 (by decide), f.i 15 (by decide), f.i 16 (by decide), f.i 17 (by decide), f.i 18 (by decide), f.i 20 (by decide), f.i 21 (by decide), f.i 22 (by decide), f.i 23 (by decide), f.i 24 (by decide), f.l 19 (by decide), f.l 25 (by decide)]; exact h.tk), (by rw [f.i 26 (by decide), f.i 27 (by decide), f.l 28 (by decide), f.i 29 (by decide)]; exact h.wi), (by rw [f.i 31 (by decide)]; exact h.tr), (by simpa [uI_1, uI_2, uI_3, uL_1, uL_2, uL_3, vz_at, XS.put, XS.setRow, XS.row_w_row, RE.c_mk, RE.r_mk, RE.t_mk, RE.c_w_c, RE.c_w_r, RE.c_w_t, RE.r_w_c, RE.r_w_r, RE.r_w_t, RE.t_w_c, RE.t_w_r, RE.t_w_t] using hv), (by rw [f.i 36 (by decide), f.i 37 (by decide), f.i 38 (by decide), f.i 39 (by decide)]; exact h.uw), (by rw [f.i 40 (by decide), f.i 41 (by decide), f.i 42 (by decide)]; exact h.ur), (by rw [f.i 43 (by decide), f.i 44 (by decide), f.i 45 (by decide), f.i 46 (by decide), f.i 47 (by decide)]; exact ⟨h.la.haw, h.la.har, h.la.hb, h.la.hg, h.la.hinn⟩), (by rw [f.i 48 (by decide), f.i 49 (by decide), f.i 50 (by decide), f.l 51 (by decide), f.i 52 (by decide), f.i 53 (by decide), f.i 54 (by decide), f.l 55 (by decide), f.i 56 (by decide)]; exact h.sw), (by rw [f.i 57 (by decide), f.i 58 (by decide), f.i 59 (by decide), f.l 60 (by decide), f.i 61 (by decide), f.i 62 (by decide), f.i 63 (by decide), f.l 64 (by decide), f.i 65 (by decide)]; exact h.sr), (by rw [f.i 66 (by decide), f.i 67 (by decide), f.i 68 (by decide), f.i 69 (by decide)]; exact ⟨h.ch.hnums, h.ch.hlat, h.ch.hchb, h.ch.hchr⟩), (by rw [f.i 70 (by decide), f.i 71 (by decide)]; exact h.rg), (by unfold maOf; rw [f.i 72 (by decide), f.l 73 (by decide), f.i 74 (by decide), f.i 75 (by decide), f.i 76 (by decide), f.i 77 (by decide), f.i 78 (by decide), f.i 79 (by decide), f.i 80 (by decide), f.i 81 (by decide), f.l 82 (by decide), f.i 83 (by decide), f.i 84 (by decide), f.i 85 (by decide), f.l 86 (by decide), f.i 87 (by decide)]; exact h.mo), (by rw [f.i 88 (by decide), f.i 89 (by decide), f.l 90 (by decide), f.i 91 (by decide)]; exact h.wt)⟩
theorem VRow.drop {c c' : aL} {rs rs' came came' many : aI} {row : Nat → List RE} (h : VRow c rs came many row) {i : Nat} (hi : i < 45) (hr : row i ≠ [])
    (hc : ∀ k, c' k = if 4 * i ≤ k ∧ k < 4 * i + ((row i).length - 1) then c (k + 1) else c k) (hs : ∀ k, rs' k = if 4 * i ≤ k ∧ k < 4 * i + ((row i).length - 1) then rs (k + 1) else rs k) (ht : ∀ k, came' k = if 4 * i ≤ k ∧ k < 4 * i + ((row i).length - 1) then came (k + 1) else came k) :
    VRow c' rs' came' (va_up many i (nI ((row i).length - 1))) (va_up row i (row i).tail) := by
  have h4 := roomN_le (i % 5)
  have hp := List.length_pos_iff.mpr hr
  refine ⟨fun j hj => ?_, fun j hj => ?_, fun j k x hj hx => ?_⟩
  · by_cases hji : j = i
    · subst hji; simp [vz_at]
    · simp [vz_at, hji, h.hmany j hj]
  · have := h.hle j hj
    by_cases hji : j = i
    · subst hji; simp [vz_at]; omega
    · simp [vz_at, hji, h.hle j hj]
  · have h5 := h.hle j hj
    have h6 := roomN_le (j % 5)
    have h7 := h.hle i hi
    rw [hc, hs, ht]
    by_cases hji : j = i
    · subst hji
      simp only [vz_at, if_true] at hx ⊢
      have hk := (List.getElem?_eq_some_iff.mp hx).1
      simp at hk
      rw [List.getElem?_tail] at hx
      have := h.hent j (k + 1) x hj hx
      rw [if_pos (by omega), if_pos (by omega), if_pos (by omega)]
      rw [Nat.add_assoc]
      exact this
    · simp only [vz_at, if_neg hji] at hx ⊢
      have hk := (List.getElem?_eq_some_iff.mp hx).1
      have h7 : ¬ (4 * i ≤ 4 * j + k ∧ 4 * j + k < 4 * i + ((row i).length - 1)) := by omega
      rw [if_neg h7, if_neg h7, if_neg h7]
      exact h.hent j k x hj hx
theorem r_take_L {Γ : gm_T} {r i n : Nat} (hi : i < 45) (hn : n < 4) : ∀ (d j fu : Nat) (φ : ph_T), j + d = n → d < fu → RL Γ φ r → φ.1 (r + 35) i = nI n →
    ∃ φ', f_Ref_take_L14 Γ fu φ r (nI i) (nI (4 * i + j)) = some ((), φ') ∧ RFr r [32, 33, 34] φ φ' ∧
      (∀ k, φ'.2.1 (r + 32) k = if 4 * i + j ≤ k ∧ k < 4 * i + n then φ.2.1 (r + 32) (k + 1) else φ.2.1 (r + 32) k) ∧
      (∀ k, φ'.1 (r + 33) k = if 4 * i + j ≤ k ∧ k < 4 * i + n then φ.1 (r + 33) (k + 1) else φ.1 (r + 33) k) ∧
      (∀ k, φ'.1 (r + 34) k = if 4 * i + j ≤ k ∧ k < 4 * i + n then φ.1 (r + 34) (k + 1) else φ.1 (r + 34) k) := by
  intro d
  induction d with
  | zero =>
    intro j fu φ hd hfu hl hm
    match fu, hfu with
    | fu + 1, _ =>
      unfold f_Ref_take_L14
      simp (disch := first | assumption | omega) only [hl.o, rf_39 hl, rg_39 hl, rf_40 hl, rg_40 hl, rf_41 hl, rg_41 hl, rf_42 hl, rg_42 hl, Option.bind_some, if_true, zix, hm, ↓zm1, zI_ne_m, zI_m_ne, zI_lit, zI_le, zI_eq, zI_mul, zI_lt, zI_modn, zI_div, zI_sub, zI_add, zN_mod]
      rw [if_pos (by omega)]
      refine ⟨φ, rfl, RFr.refl _ _ _, fun k => ?_, fun k => ?_, fun k => ?_⟩ <;> rw [if_neg (by omega)]
  | succ d ih =>
    intro j fu φ hd hfu hl hm
    match fu, hfu with
    | fu + 1, hfu =>
      unfold f_Ref_take_L14
      simp (disch := first | assumption | omega) only [hl.o, rf_39 hl, rg_39 hl, rf_40 hl, rg_40 hl, rf_41 hl, rg_41 hl, rf_42 hl, rg_42 hl, Option.bind_some, if_true, zix, hm, ↓zm1, zI_ne_m, zI_m_ne, zI_lit, zI_le, zI_eq, zI_mul, zI_lt, zI_modn, zI_div, zI_sub, zI_add, zN_mod, uI_1, uI_2, uI_3, uL_1, uL_2, uL_3, vz_at, Nat.add_left_cancel_iff, Nat.reduceEqDiff, if_false, zr1, zr2]
      rw [if_neg (by omega), Nat.add_assoc]
      obtain ⟨φ', e, f, g1, g2, g3⟩ := ih (j + 1) fu (uI (uI (uL φ (r + 32) (4 * i + j) (φ.2.1 (r + 32) (4 * i + (j + 1)))) (r + 33) (4 * i + j) (φ.1 (r + 33) (4 * i + (j + 1)))) (r + 34) (4 * i + j) (φ.1 (r + 34) (4 * i + (j + 1)))) (by omega) (by omega) (hl.up rfl) (by simp [uI_1, uI_2, uI_3, uL_1, uL_2, uL_3, vz_at, hm])
      refine ⟨φ', e, RFr.trans (by repeat (first | exact RFr.refl _ _ _ | refine RFr.uI ?_ (by decide) _ _ | refine RFr.uL ?_ (by decide) _ _ | refine rfr_uO ?_ (by decide) _ _)) f, fun k => ?_, fun k => ?_, fun k => ?_⟩
      · rw [g1]
        simp (disch := first | assumption | omega) only [uI_1, uI_2, uI_3, uL_1, uL_2, uL_3, vz_at, Nat.add_left_cancel_iff, Nat.reduceEqDiff, if_false, zr1, zr2, if_true, if_false]
        repeat' split
        all_goals first | rfl | omega | exact congrArg _ (by omega)
      · rw [g2]
        simp (disch := first | assumption | omega) only [uI_1, uI_2, uI_3, uL_1, uL_2, uL_3, vz_at, Nat.add_left_cancel_iff, Nat.reduceEqDiff, if_false, zr1, zr2, if_true, if_false]
        repeat' split
        all_goals first | rfl | omega | exact congrArg _ (by omega)
      · rw [g3]
        simp (disch := first | assumption | omega) only [uI_1, uI_2, uI_3, uL_1, uL_2, uL_3, vz_at, Nat.add_left_cancel_iff, Nat.reduceEqDiff, if_false, zr1, zr2, if_true, if_false]
        repeat' split
        all_goals first | rfl | omega | exact congrArg _ (by omega)
theorem r_take {Γ : gm_T} {φ : ph_T} {r : Nat} {S : XS} (h : RV Γ φ r S) {i : Nat} (hi : i < 45) (hr : S.row i ≠ []) :
    ∃ φ', f_Ref_take Γ φ r (nI i) = some ((), φ') ∧ RV Γ φ' r (S.drop i) ∧ RFr r [32, 33, 34, 35] φ φ' := by
  have h4 := roomN_le (i % 5)
  have h5 := h.row.hle i hi
  have hm := h.row.hmany i hi
  have hp := List.length_pos_iff.mpr hr
  unfold f_Ref_take
  simp (disch := first | assumption | omega) only [h.rl.o, rf_42 h.rl, rg_42 h.rl, Option.bind_some, if_true, zix, hm, ↓zm1, zI_ne_m, zI_m_ne, zI_lit, zI_le, zI_eq, zI_mul, zI_lt, zI_modn, zI_div, zI_sub, zI_add, zN_mod, uI_1, uI_2, uI_3, uL_1, uL_2, uL_3, vz_at, Nat.add_left_cancel_iff, Nat.reduceEqDiff, if_false, zr1, zr2]
  obtain ⟨φ', e, f, g1, g2, g3⟩ := r_take_L (Γ := Γ) (r := r) (i := i) (n := (S.row i).length - 1) hi (by omega) ((S.row i).length - 1) 0 jF (uI φ (r + 35) i (nI ((S.row i).length - 1))) (by omega) (by unfold jF; omega) (h.rl.up rfl) (by simp [uI_1, uI_2, uI_3, uL_1, uL_2, uL_3, vz_at])
  rw [Nat.add_zero] at e g1 g2 g3
  have f2 : RFr r [32, 33, 34, 35] φ φ' := RFr.trans (by repeat (first | exact RFr.refl _ _ _ | refine RFr.uI ?_ (by decide) _ _ | refine RFr.uL ?_ (by decide) _ _ | refine rfr_uO ?_ (by decide) _ _)) (f.mono (by decide))
  refine ⟨φ', e, ?_, f2⟩
  have hv := h.row.drop hi hr (c' := φ'.2.1 (r + 32)) (rs' := φ'.1 (r + 33)) (came' := φ'.1 (r + 34)) (fun k => by rw [g1]; simp [uI_1, uI_2, uI_3, uL_1, uL_2, uL_3, vz_at]) (fun k => by rw [g2]; simp [uI_1, uI_2, uI_3, uL_1, uL_2, uL_3, vz_at]) (fun k => by rw [g3]; simp [uI_1, uI_2, uI_3, uL_1, uL_2, uL_3, vz_at])
  have hmm : φ'.1 (r + 35) = va_up (φ.1 (r + 35)) i (nI ((S.row i).length - 1)) := by rw [f.i 35 (by decide)]; simp [uI_1, uI_2, uI_3, uL_1, uL_2, uL_3, vz_at]
  exact ⟨(RL.up h.rl (congrFun f2.1 r)), (by rw [f2.o (by decide)]; exact ⟨h.sc.nm, h.sc.ns, h.sc.lim, h.sc.pol, h.sc.whole, h.sc.time, h.sc.tk, h.sc.wm, h.sc.rm, h.sc.db, h.sc.er⟩), (by rw [f2.i 1 (by decide)]; exact h.pg), (by rw [f2.i 2 (by decide)]; exact h.mp), (by rw [f2.i 3 (by decide)]; exact h.sp), (by rw [f2.i 4 (by decide)]; exact h.ea), (by rw [f2.i 5 (by decide)]; exact h.de), (by rw [f2.i 6 (by decide)]; exact h.wa), (by rw [f2.i 7 (by decide), f2.i 8 (by decide)]; exact h.me), (by rw [f2.i 9 (by decide), f2.i 10 (by decide), f2.i 11 (by decide), f2.i 12 (by decide), f2.i 13 (by decide), f2.i 14 (by decide), f2.i 15 (by decide), f2.i 16 (by decide), f2.i 17 (by decide), f2.i 18 (by decide), f2.i 20 (by decide), f2.i 21 (by decide), f2.i 22 (by decide), f2.i 23 (by decide), f2.i 24 (by decide), f2.l 19 (by decide), f2.l 25 (by decide)]; exact h.tk), (by rw [f2.i 26 (by decide), f2.i 27 (by decide), f2.l 28 (by decide), f2.i 29 (by decide)]; exact h.wi), (by rw [f2.i 31 (by decide)]; exact h.tr), (by rw [hmm]; exact hv), (by rw [f2.i 36 (by decide), f2.i 37 (by decide), f2.i 38 (by decide), f2.i 39 (by decide)]; exact h.uw), (by rw [f2.i 40 (by decide), f2.i 41 (by decide), f2.i 42 (by decide)]; exact h.ur), (by rw [f2.i 43 (by decide), f2.i 44 (by decide), f2.i 45 (by decide), f2.i 46 (by decide), f2.i 47 (by decide)]; exact ⟨h.la.haw, h.la.har, h.la.hb, h.la.hg, h.la.hinn⟩), (by rw [f2.i 48 (by decide), f2.i 49 (by decide), f2.i 50 (by decide), f2.l 51 (by decide), f2.i 52 (by decide), f2.i 53 (by decide), f2.i 54 (by decide), f2.l 55 (by decide), f2.i 56 (by decide)]; exact h.sw), (by rw [f2.i 57 (by decide), f2.i 58 (by decide), f2.i 59 (by decide), f2.l 60 (by decide), f2.i 61 (by decide), f2.i 62 (by decide), f2.i 63 (by decide), f2.l 64 (by decide), f2.i 65 (by decide)]; exact h.sr), (by rw [f2.i 66 (by decide), f2.i 67 (by decide), f2.i 68 (by decide), f2.i 69 (by decide)]; exact ⟨h.ch.hnums, h.ch.hlat, h.ch.hchb, h.ch.hchr⟩), (by rw [f2.i 70 (by decide), f2.i 71 (by decide)]; exact h.rg), (by unfold maOf; rw [f2.i 72 (by decide), f2.l 73 (by decide), f2.i 74 (by decide), f2.i 75 (by decide), f2.i 76 (by decide), f2.i 77 (by decide), f2.i 78 (by decide), f2.i 79 (by decide), f2.i 80 (by decide), f2.i 81 (by decide), f2.l 82 (by decide), f2.i 83 (by decide), f2.i 84 (by decide), f2.i 85 (by decide), f2.l 86 (by decide), f2.i 87 (by decide)]; exact h.mo), (by rw [f2.i 88 (by decide), f2.i 89 (by decide), f2.l 90 (by decide), f2.i 91 (by decide)]; exact h.wt)⟩
