/-! ALL IS CLEARED: the reference, its loops -/
theorem r_clL42 {Γ : gm_T} {r nm ns : Nat} (hs : 1 ≤ ns ∧ ns ≤ 4) : ∀ (d i fu : Nat) (φ : ph_T), i + d = 16 → d < fu → RL Γ φ r → φ.1 r 2 = nI ns → (∀ j, j < i → φ.1 (r + 1) j = nI (j % ns) ∧ φ.1 (r + 50) j = (0 : Int32) ∧ φ.1 (r + 59) j = (0 : Int32)) →
    ∃ φ', f_Ref_clear_L42 Γ fu φ r (nI i) = f_Ref_clear_L82 Γ jF φ' r (nI 0) ∧ RFr r [1, 50, 59] φ φ' ∧ ∀ j, j < 16 → φ'.1 (r + 1) j = nI (j % ns) ∧ φ'.1 (r + 50) j = (0 : Int32) ∧ φ'.1 (r + 59) j = (0 : Int32) := by
  intro d
  induction d with
  | zero =>
    intro i fu φ hd hfu h h2 hp
    match fu, hfu with
    | fu + 1, _ =>
      refine ⟨φ, ?_, RFr.refl _ _ _, fun j hj => hp j (by omega)⟩
      rw [f_Ref_clear_L42, if_pos (by rw [show (16 : Int32) = nI 16 from rfl, zI_le (by omega) (by omega)]; omega)]
      rfl
  | succ d ih =>
    intro i fu φ hd hfu h h2 hp
    match fu, hfu with
    | fu + 1, hfu =>
      have f1 : RFr r [1, 50, 59] φ (uI (uI (uI φ (r + 1) i (nI i - nI i / (φ.1 r 2) * (φ.1 r 2))) (r + 50) i (0 : Int32)) (r + 59) i (0 : Int32)) := by repeat (first | exact RFr.refl _ _ _ | refine RFr.uI ?_ (by decide) _ _ | refine RFr.uL ?_ (by decide) _ _ | refine rfr_uO ?_ (by decide) _ _)
      obtain ⟨φ', b1, b2, b3⟩ := ih (i + 1) fu (uI (uI (uI φ (r + 1) i (nI i - nI i / (φ.1 r 2) * (φ.1 r 2))) (r + 50) i (0 : Int32)) (r + 59) i (0 : Int32)) (by omega) (by omega) (h.up (congrFun f1.1 r)) (by rw [f1.o (by decide)]; exact h2) (by
        intro j hj
        by_cases e : j = i
        · subst e
          refine ⟨?_, ?_, ?_⟩
          · rw [uI_1, if_neg (show ¬ (r + 1 = r + 59) by omega), uI_1, if_neg (show ¬ (r + 1 = r + 50) by omega), uI_s, vz_same]; rw [h2, zI_mod (by omega) (by omega)]
          · rw [uI_1, if_neg (show ¬ (r + 50 = r + 59) by omega), uI_s, vz_same]
          · rw [uI_s, vz_same]
        · have hq := hp j (by omega)
          refine ⟨?_, ?_, ?_⟩
          · rw [uI_1, if_neg (show ¬ (r + 1 = r + 59) by omega), uI_1, if_neg (show ¬ (r + 1 = r + 50) by omega), uI_s, vz_ne _ e]; exact hq.1
          · rw [uI_1, if_neg (show ¬ (r + 50 = r + 59) by omega), uI_s, vz_ne _ e, uI_1, if_neg (show ¬ (r + 50 = r + 1) by omega)]; exact hq.2.1
          · rw [uI_s, vz_ne _ e, uI_1, if_neg (show ¬ (r + 59 = r + 50) by omega), uI_1, if_neg (show ¬ (r + 59 = r + 1) by omega)]; exact hq.2.2)
      refine ⟨φ', ?_, f1.trans b2, b3⟩
      rw [f_Ref_clear_L42, if_neg (by rw [show (16 : Int32) = nI 16 from rfl, zI_le (by omega) (by omega)]; omega), if_pos h.o, if_neg (by rw [h2, zI_0, zI_eq (by omega) (by omega)]; omega), rf_7 h, Option.bind_some, rg_7 h, Option.bind_some, zix (by omega), Option.bind_some, rf_60 h, Option.bind_some, rg_60 h, Option.bind_some, zix (by omega), Option.bind_some, if_pos (by decide), rf_69 h, Option.bind_some, rg_69 h, Option.bind_some, zix (by omega), Option.bind_some, if_pos (by decide), show nI i + (1 : Int32) = nI (i + 1) from by rw [zI_1, zI_add]]
      exact b1
theorem r_clL82 {Γ : gm_T} {r nm ns : Nat} : ∀ (d i fu : Nat) (φ : ph_T), i + d = 20 → d < fu → RL Γ φ r → (∀ j, j < i → φ.1 (r + 2) j = (65535 : Int32) ∧ φ.1 (r + 3) j = (65535 : Int32)) →
    ∃ φ', f_Ref_clear_L82 Γ fu φ r (nI i) = f_Ref_clear_L114 Γ jF φ' r (nI 0) ∧ RFr r [2, 3] φ φ' ∧ ∀ j, j < 20 → φ'.1 (r + 2) j = (65535 : Int32) ∧ φ'.1 (r + 3) j = (65535 : Int32) := by
  intro d
  induction d with
  | zero =>
    intro i fu φ hd hfu h hp
    match fu, hfu with
    | fu + 1, _ =>
      refine ⟨φ, ?_, RFr.refl _ _ _, fun j hj => hp j (by omega)⟩
      rw [f_Ref_clear_L82, if_pos (by rw [show (20 : Int32) = nI 20 from rfl, zI_le (by omega) (by omega)]; omega)]
      rfl
  | succ d ih =>
    intro i fu φ hd hfu h hp
    match fu, hfu with
    | fu + 1, hfu =>
      have f1 : RFr r [2, 3] φ (uI (uI φ (r + 2) i (65535 : Int32)) (r + 3) i (65535 : Int32)) := by repeat (first | exact RFr.refl _ _ _ | refine RFr.uI ?_ (by decide) _ _ | refine RFr.uL ?_ (by decide) _ _ | refine rfr_uO ?_ (by decide) _ _)
      obtain ⟨φ', b1, b2, b3⟩ := ih (i + 1) fu (uI (uI φ (r + 2) i (65535 : Int32)) (r + 3) i (65535 : Int32)) (by omega) (by omega) (h.up (congrFun f1.1 r)) (by
        intro j hj
        by_cases e : j = i
        · subst e
          refine ⟨?_, ?_⟩
          · rw [uI_1, if_neg (show ¬ (r + 2 = r + 3) by omega), uI_s, vz_same]
          · rw [uI_s, vz_same]
        · have hq := hp j (by omega)
          refine ⟨?_, ?_⟩
          · rw [uI_1, if_neg (show ¬ (r + 2 = r + 3) by omega), uI_s, vz_ne _ e]; exact hq.1
          · rw [uI_s, vz_ne _ e, uI_1, if_neg (show ¬ (r + 3 = r + 2) by omega)]; exact hq.2)
      refine ⟨φ', ?_, f1.trans b2, b3⟩
      rw [f_Ref_clear_L82, if_neg (by rw [show (20 : Int32) = nI 20 from rfl, zI_le (by omega) (by omega)]; omega), if_pos h.o, rf_8 h, Option.bind_some, rg_8 h, Option.bind_some, zix (by omega), Option.bind_some, rf_9 h, Option.bind_some, rg_9 h, Option.bind_some, zix (by omega), Option.bind_some, show nI i + (1 : Int32) = nI (i + 1) from by rw [zI_1, zI_add]]
      exact b1
theorem r_clL157 {Γ : gm_T} {r nm ns : Nat} : ∀ (d i fu : Nat) (φ : ph_T), i + d = 45 → d < fu → RL Γ φ r → (∀ j, j < i → φ.1 (r + 35) j = (0 : Int32)) →
    ∃ φ', f_Ref_clear_L157 Γ fu φ r (nI i) = f_Ref_clear_L178 Γ jF φ' r (nI 0) ∧ RFr r [35] φ φ' ∧ ∀ j, j < 45 → φ'.1 (r + 35) j = (0 : Int32) := by
  intro d
  induction d with
  | zero =>
    intro i fu φ hd hfu h hp
    match fu, hfu with
    | fu + 1, _ =>
      refine ⟨φ, ?_, RFr.refl _ _ _, fun j hj => hp j (by omega)⟩
      rw [f_Ref_clear_L157, if_pos (by rw [show (45 : Int32) = nI 45 from rfl, zI_le (by omega) (by omega)]; omega)]
      rfl
  | succ d ih =>
    intro i fu φ hd hfu h hp
    match fu, hfu with
    | fu + 1, hfu =>
      have f1 : RFr r [35] φ (uI φ (r + 35) i (0 : Int32)) := by repeat (first | exact RFr.refl _ _ _ | refine RFr.uI ?_ (by decide) _ _ | refine RFr.uL ?_ (by decide) _ _ | refine rfr_uO ?_ (by decide) _ _)
      obtain ⟨φ', b1, b2, b3⟩ := ih (i + 1) fu (uI φ (r + 35) i (0 : Int32)) (by omega) (by omega) (h.up (congrFun f1.1 r)) (by
        intro j hj
        by_cases e : j = i
        · subst e
          refine ?_
          · rw [uI_s, vz_same]
        · have hq := hp j (by omega)
          refine ?_
          · rw [uI_s, vz_ne _ e]; exact hq)
      refine ⟨φ', ?_, f1.trans b2, b3⟩
      rw [f_Ref_clear_L157, if_neg (by rw [show (45 : Int32) = nI 45 from rfl, zI_le (by omega) (by omega)]; omega), if_pos h.o, rf_42 h, Option.bind_some, rg_42 h, Option.bind_some, zix (by omega), Option.bind_some, show nI i + (1 : Int32) = nI (i + 1) from by rw [zI_1, zI_add]]
      exact b1
theorem r_clL178 {Γ : gm_T} {r nm ns : Nat} (hs : 1 ≤ nm ∧ nm ≤ 4) : ∀ (d i fu : Nat) (φ : ph_T), i + d = 5 → d < fu → RL Γ φ r → φ.1 r 1 = nI nm → (∀ j, j < i → φ.1 (r + 43) j = (nI (nm - 1) : Int32) ∧ φ.1 (r + 44) j = (nI (nm - 1) : Int32)) →
    ∃ φ', f_Ref_clear_L178 Γ fu φ r (nI i) = f_Ref_clear_L215 Γ jF φ' r (nI 0) ∧ RFr r [43, 44] φ φ' ∧ ∀ j, j < 5 → φ'.1 (r + 43) j = (nI (nm - 1) : Int32) ∧ φ'.1 (r + 44) j = (nI (nm - 1) : Int32) := by
  intro d
  induction d with
  | zero =>
    intro i fu φ hd hfu h h2 hp
    match fu, hfu with
    | fu + 1, _ =>
      refine ⟨φ, ?_, RFr.refl _ _ _, fun j hj => hp j (by omega)⟩
      rw [f_Ref_clear_L178, if_pos (by rw [show (5 : Int32) = nI 5 from rfl, zI_le (by omega) (by omega)]; omega)]
      rfl
  | succ d ih =>
    intro i fu φ hd hfu h h2 hp
    match fu, hfu with
    | fu + 1, hfu =>
      have f1 : RFr r [43, 44] φ (uI (uI φ (r + 43) i ((φ.1 r 1) - (1 : Int32))) (r + 44) i (((uI φ (r + 43) i ((φ.1 r 1) - (1 : Int32))).1 r 1) - (1 : Int32))) := by repeat (first | exact RFr.refl _ _ _ | refine RFr.uI ?_ (by decide) _ _ | refine RFr.uL ?_ (by decide) _ _ | refine rfr_uO ?_ (by decide) _ _)
      obtain ⟨φ', b1, b2, b3⟩ := ih (i + 1) fu (uI (uI φ (r + 43) i ((φ.1 r 1) - (1 : Int32))) (r + 44) i (((uI φ (r + 43) i ((φ.1 r 1) - (1 : Int32))).1 r 1) - (1 : Int32))) (by omega) (by omega) (h.up (congrFun f1.1 r)) (by rw [f1.o (by decide)]; exact h2) (by
        intro j hj
        by_cases e : j = i
        · subst e
          refine ⟨?_, ?_⟩
          · rw [uI_1, if_neg (show ¬ (r + 43 = r + 44) by omega), uI_s, vz_same]; rw [h2, zI_1, zI_sub (by omega)]
          · rw [uI_s, vz_same]; rw [uI_1, if_neg (show ¬ (r = r + 43) by omega), h2, zI_1, zI_sub (by omega)]
        · have hq := hp j (by omega)
          refine ⟨?_, ?_⟩
          · rw [uI_1, if_neg (show ¬ (r + 43 = r + 44) by omega), uI_s, vz_ne _ e]; exact hq.1
          · rw [uI_s, vz_ne _ e, uI_1, if_neg (show ¬ (r + 44 = r + 43) by omega)]; exact hq.2)
      refine ⟨φ', ?_, f1.trans b2, b3⟩
      rw [f_Ref_clear_L178, if_neg (by rw [show (5 : Int32) = nI 5 from rfl, zI_le (by omega) (by omega)]; omega), if_pos h.o, rf_52 h, Option.bind_some, rg_52 h, Option.bind_some, zix (by omega), Option.bind_some, rf_53 h, Option.bind_some, rg_53 h, Option.bind_some, zix (by omega), Option.bind_some, show nI i + (1 : Int32) = nI (i + 1) from by rw [zI_1, zI_add]]
      exact b1
theorem r_clL215 {Γ : gm_T} {r nm ns : Nat} : ∀ (d i fu : Nat) (φ : ph_T), i + d = 4 → d < fu → RL Γ φ r → φ.1 r 2 = nI ns → (∀ j, j < i → φ.1 (r + 4) j = (0 : Int32) ∧ φ.1 (r + 5) j = (0 : Int32) ∧ φ.1 (r + 6) j = (0 : Int32) ∧ φ.1 (r + 45) j = (nI ns : Int32) ∧ φ.1 (r + 46) j = (nI ns : Int32) ∧ φ.1 (r + 47) j = (0 : Int32) ∧ φ.1 (r + 48) j = (0 : Int32) ∧ φ.1 (r + 57) j = (0 : Int32) ∧ φ.1 (r + 66) j = (0 : Int32) ∧ φ.1 (r + 67) j = (m1 : Int32)) →
    ∃ φ', f_Ref_clear_L215 Γ fu φ r (nI i) = f_Ref_clear_L304 Γ jF φ' r (nI 0) ∧ RFr r [4, 5, 6, 45, 46, 47, 48, 57, 66, 67] φ φ' ∧ ∀ j, j < 4 → φ'.1 (r + 4) j = (0 : Int32) ∧ φ'.1 (r + 5) j = (0 : Int32) ∧ φ'.1 (r + 6) j = (0 : Int32) ∧ φ'.1 (r + 45) j = (nI ns : Int32) ∧ φ'.1 (r + 46) j = (nI ns : Int32) ∧ φ'.1 (r + 47) j = (0 : Int32) ∧ φ'.1 (r + 48) j = (0 : Int32) ∧ φ'.1 (r + 57) j = (0 : Int32) ∧ φ'.1 (r + 66) j = (0 : Int32) ∧ φ'.1 (r + 67) j = (m1 : Int32) := by
  intro d
  induction d with
  | zero =>
    intro i fu φ hd hfu h h2 hp
    match fu, hfu with
    | fu + 1, _ =>
      refine ⟨φ, ?_, RFr.refl _ _ _, fun j hj => hp j (by omega)⟩
      rw [f_Ref_clear_L215, if_pos (by rw [show (4 : Int32) = nI 4 from rfl, zI_le (by omega) (by omega)]; omega)]
      rfl
  | succ d ih =>
    intro i fu φ hd hfu h h2 hp
    match fu, hfu with
    | fu + 1, hfu =>
      have f1 : RFr r [4, 5, 6, 45, 46, 47, 48, 57, 66, 67] φ (uI (uI (uI (uI (uI (uI (uI (uI (uI (uI φ (r + 4) i (0 : Int32)) (r + 5) i (0 : Int32)) (r + 6) i (0 : Int32)) (r + 45) i ((uI (uI (uI φ (r + 4) i (0 : Int32)) (r + 5) i (0 : Int32)) (r + 6) i (0 : Int32)).1 r 2)) (r + 46) i ((uI (uI (uI (uI φ (r + 4) i (0 : Int32)) (r + 5) i (0 : Int32)) (r + 6) i (0 : Int32)) (r + 45) i ((uI (uI (uI φ (r + 4) i (0 : Int32)) (r + 5) i (0 : Int32)) (r + 6) i (0 : Int32)).1 r 2)).1 r 2)) (r + 47) i (0 : Int32)) (r + 48) i (0 : Int32)) (r + 57) i (0 : Int32)) (r + 66) i (0 : Int32)) (r + 67) i (-1 : Int32)) := by repeat (first | exact RFr.refl _ _ _ | refine RFr.uI ?_ (by decide) _ _ | refine RFr.uL ?_ (by decide) _ _ | refine rfr_uO ?_ (by decide) _ _)
      obtain ⟨φ', b1, b2, b3⟩ := ih (i + 1) fu (uI (uI (uI (uI (uI (uI (uI (uI (uI (uI φ (r + 4) i (0 : Int32)) (r + 5) i (0 : Int32)) (r + 6) i (0 : Int32)) (r + 45) i ((uI (uI (uI φ (r + 4) i (0 : Int32)) (r + 5) i (0 : Int32)) (r + 6) i (0 : Int32)).1 r 2)) (r + 46) i ((uI (uI (uI (uI φ (r + 4) i (0 : Int32)) (r + 5) i (0 : Int32)) (r + 6) i (0 : Int32)) (r + 45) i ((uI (uI (uI φ (r + 4) i (0 : Int32)) (r + 5) i (0 : Int32)) (r + 6) i (0 : Int32)).1 r 2)).1 r 2)) (r + 47) i (0 : Int32)) (r + 48) i (0 : Int32)) (r + 57) i (0 : Int32)) (r + 66) i (0 : Int32)) (r + 67) i (-1 : Int32)) (by omega) (by omega) (h.up (congrFun f1.1 r)) (by rw [f1.o (by decide)]; exact h2) (by
        intro j hj
        by_cases e : j = i
        · subst e
          refine ⟨?_, ?_, ?_, ?_, ?_, ?_, ?_, ?_, ?_, ?_⟩
          · rw [uI_1, if_neg (show ¬ (r + 4 = r + 67) by omega), uI_1, if_neg (show ¬ (r + 4 = r + 66) by omega), uI_1, if_neg (show ¬ (r + 4 = r + 57) by omega), uI_1, if_neg (show ¬ (r + 4 = r + 48) by omega), uI_1, if_neg (show ¬ (r + 4 = r + 47) by omega), uI_1, if_neg (show ¬ (r + 4 = r + 46) by omega), uI_1, if_neg (show ¬ (r + 4 = r + 45) by omega), uI_1, if_neg (show ¬ (r + 4 = r + 6) by omega), uI_1, if_neg (show ¬ (r + 4 = r + 5) by omega), uI_s, vz_same]
          · rw [uI_1, if_neg (show ¬ (r + 5 = r + 67) by omega), uI_1, if_neg (show ¬ (r + 5 = r + 66) by omega), uI_1, if_neg (show ¬ (r + 5 = r + 57) by omega), uI_1, if_neg (show ¬ (r + 5 = r + 48) by omega), uI_1, if_neg (show ¬ (r + 5 = r + 47) by omega), uI_1, if_neg (show ¬ (r + 5 = r + 46) by omega), uI_1, if_neg (show ¬ (r + 5 = r + 45) by omega), uI_1, if_neg (show ¬ (r + 5 = r + 6) by omega), uI_s, vz_same]
          · rw [uI_1, if_neg (show ¬ (r + 6 = r + 67) by omega), uI_1, if_neg (show ¬ (r + 6 = r + 66) by omega), uI_1, if_neg (show ¬ (r + 6 = r + 57) by omega), uI_1, if_neg (show ¬ (r + 6 = r + 48) by omega), uI_1, if_neg (show ¬ (r + 6 = r + 47) by omega), uI_1, if_neg (show ¬ (r + 6 = r + 46) by omega), uI_1, if_neg (show ¬ (r + 6 = r + 45) by omega), uI_s, vz_same]
          · rw [uI_1, if_neg (show ¬ (r + 45 = r + 67) by omega), uI_1, if_neg (show ¬ (r + 45 = r + 66) by omega), uI_1, if_neg (show ¬ (r + 45 = r + 57) by omega), uI_1, if_neg (show ¬ (r + 45 = r + 48) by omega), uI_1, if_neg (show ¬ (r + 45 = r + 47) by omega), uI_1, if_neg (show ¬ (r + 45 = r + 46) by omega), uI_s, vz_same]; rw [uI_1, if_neg (show ¬ (r = r + 6) by omega), uI_1, if_neg (show ¬ (r = r + 5) by omega), uI_1, if_neg (show ¬ (r = r + 4) by omega), h2]
          · rw [uI_1, if_neg (show ¬ (r + 46 = r + 67) by omega), uI_1, if_neg (show ¬ (r + 46 = r + 66) by omega), uI_1, if_neg (show ¬ (r + 46 = r + 57) by omega), uI_1, if_neg (show ¬ (r + 46 = r + 48) by omega), uI_1, if_neg (show ¬ (r + 46 = r + 47) by omega), uI_s, vz_same]; rw [uI_1, if_neg (show ¬ (r = r + 45) by omega), uI_1, if_neg (show ¬ (r = r + 6) by omega), uI_1, if_neg (show ¬ (r = r + 5) by omega), uI_1, if_neg (show ¬ (r = r + 4) by omega), h2]
          · rw [uI_1, if_neg (show ¬ (r + 47 = r + 67) by omega), uI_1, if_neg (show ¬ (r + 47 = r + 66) by omega), uI_1, if_neg (show ¬ (r + 47 = r + 57) by omega), uI_1, if_neg (show ¬ (r + 47 = r + 48) by omega), uI_s, vz_same]
          · rw [uI_1, if_neg (show ¬ (r + 48 = r + 67) by omega), uI_1, if_neg (show ¬ (r + 48 = r + 66) by omega), uI_1, if_neg (show ¬ (r + 48 = r + 57) by omega), uI_s, vz_same]
          · rw [uI_1, if_neg (show ¬ (r + 57 = r + 67) by omega), uI_1, if_neg (show ¬ (r + 57 = r + 66) by omega), uI_s, vz_same]
          · rw [uI_1, if_neg (show ¬ (r + 66 = r + 67) by omega), uI_s, vz_same]
          · rw [uI_s, vz_same]; rfl
        · have hq := hp j (by omega)
          refine ⟨?_, ?_, ?_, ?_, ?_, ?_, ?_, ?_, ?_, ?_⟩
          · rw [uI_1, if_neg (show ¬ (r + 4 = r + 67) by omega), uI_1, if_neg (show ¬ (r + 4 = r + 66) by omega), uI_1, if_neg (show ¬ (r + 4 = r + 57) by omega), uI_1, if_neg (show ¬ (r + 4 = r + 48) by omega), uI_1, if_neg (show ¬ (r + 4 = r + 47) by omega), uI_1, if_neg (show ¬ (r + 4 = r + 46) by omega), uI_1, if_neg (show ¬ (r + 4 = r + 45) by omega), uI_1, if_neg (show ¬ (r + 4 = r + 6) by omega), uI_1, if_neg (show ¬ (r + 4 = r + 5) by omega), uI_s, vz_ne _ e]; exact hq.1
          · rw [uI_1, if_neg (show ¬ (r + 5 = r + 67) by omega), uI_1, if_neg (show ¬ (r + 5 = r + 66) by omega), uI_1, if_neg (show ¬ (r + 5 = r + 57) by omega), uI_1, if_neg (show ¬ (r + 5 = r + 48) by omega), uI_1, if_neg (show ¬ (r + 5 = r + 47) by omega), uI_1, if_neg (show ¬ (r + 5 = r + 46) by omega), uI_1, if_neg (show ¬ (r + 5 = r + 45) by omega), uI_1, if_neg (show ¬ (r + 5 = r + 6) by omega), uI_s, vz_ne _ e, uI_1, if_neg (show ¬ (r + 5 = r + 4) by omega)]; exact hq.2.1
          · rw [uI_1, if_neg (show ¬ (r + 6 = r + 67) by omega), uI_1, if_neg (show ¬ (r + 6 = r + 66) by omega), uI_1, if_neg (show ¬ (r + 6 = r + 57) by omega), uI_1, if_neg (show ¬ (r + 6 = r + 48) by omega), uI_1, if_neg (show ¬ (r + 6 = r + 47) by omega), uI_1, if_neg (show ¬ (r + 6 = r + 46) by omega), uI_1, if_neg (show ¬ (r + 6 = r + 45) by omega), uI_s, vz_ne _ e, uI_1, if_neg (show ¬ (r + 6 = r + 5) by omega), uI_1, if_neg (show ¬ (r + 6 = r + 4) by omega)]; exact hq.2.2.1
          · rw [uI_1, if_neg (show ¬ (r + 45 = r + 67) by omega), uI_1, if_neg (show ¬ (r + 45 = r + 66) by omega), uI_1, if_neg (show ¬ (r + 45 = r + 57) by omega), uI_1, if_neg (show ¬ (r + 45 = r + 48) by omega), uI_1, if_neg (show ¬ (r + 45 = r + 47) by omega), uI_1, if_neg (show ¬ (r + 45 = r + 46) by omega), uI_s, vz_ne _ e, uI_1, if_neg (show ¬ (r + 45 = r + 6) by omega), uI_1, if_neg (show ¬ (r + 45 = r + 5) by omega), uI_1, if_neg (show ¬ (r + 45 = r + 4) by omega)]; exact hq.2.2.2.1
          · rw [uI_1, if_neg (show ¬ (r + 46 = r + 67) by omega), uI_1, if_neg (show ¬ (r + 46 = r + 66) by omega), uI_1, if_neg (show ¬ (r + 46 = r + 57) by omega), uI_1, if_neg (show ¬ (r + 46 = r + 48) by omega), uI_1, if_neg (show ¬ (r + 46 = r + 47) by omega), uI_s, vz_ne _ e, uI_1, if_neg (show ¬ (r + 46 = r + 45) by omega), uI_1, if_neg (show ¬ (r + 46 = r + 6) by omega), uI_1, if_neg (show ¬ (r + 46 = r + 5) by omega), uI_1, if_neg (show ¬ (r + 46 = r + 4) by omega)]; exact hq.2.2.2.2.1
          · rw [uI_1, if_neg (show ¬ (r + 47 = r + 67) by omega), uI_1, if_neg (show ¬ (r + 47 = r + 66) by omega), uI_1, if_neg (show ¬ (r + 47 = r + 57) by omega), uI_1, if_neg (show ¬ (r + 47 = r + 48) by omega), uI_s, vz_ne _ e, uI_1, if_neg (show ¬ (r + 47 = r + 46) by omega), uI_1, if_neg (show ¬ (r + 47 = r + 45) by omega), uI_1, if_neg (show ¬ (r + 47 = r + 6) by omega), uI_1, if_neg (show ¬ (r + 47 = r + 5) by omega), uI_1, if_neg (show ¬ (r + 47 = r + 4) by omega)]; exact hq.2.2.2.2.2.1
          · rw [uI_1, if_neg (show ¬ (r + 48 = r + 67) by omega), uI_1, if_neg (show ¬ (r + 48 = r + 66) by omega), uI_1, if_neg (show ¬ (r + 48 = r + 57) by omega), uI_s, vz_ne _ e, uI_1, if_neg (show ¬ (r + 48 = r + 47) by omega), uI_1, if_neg (show ¬ (r + 48 = r + 46) by omega), uI_1, if_neg (show ¬ (r + 48 = r + 45) by omega), uI_1, if_neg (show ¬ (r + 48 = r + 6) by omega), uI_1, if_neg (show ¬ (r + 48 = r + 5) by omega), uI_1, if_neg (show ¬ (r + 48 = r + 4) by omega)]; exact hq.2.2.2.2.2.2.1
          · rw [uI_1, if_neg (show ¬ (r + 57 = r + 67) by omega), uI_1, if_neg (show ¬ (r + 57 = r + 66) by omega), uI_s, vz_ne _ e, uI_1, if_neg (show ¬ (r + 57 = r + 48) by omega), uI_1, if_neg (show ¬ (r + 57 = r + 47) by omega), uI_1, if_neg (show ¬ (r + 57 = r + 46) by omega), uI_1, if_neg (show ¬ (r + 57 = r + 45) by omega), uI_1, if_neg (show ¬ (r + 57 = r + 6) by omega), uI_1, if_neg (show ¬ (r + 57 = r + 5) by omega), uI_1, if_neg (show ¬ (r + 57 = r + 4) by omega)]; exact hq.2.2.2.2.2.2.2.1
          · rw [uI_1, if_neg (show ¬ (r + 66 = r + 67) by omega), uI_s, vz_ne _ e, uI_1, if_neg (show ¬ (r + 66 = r + 57) by omega), uI_1, if_neg (show ¬ (r + 66 = r + 48) by omega), uI_1, if_neg (show ¬ (r + 66 = r + 47) by omega), uI_1, if_neg (show ¬ (r + 66 = r + 46) by omega), uI_1, if_neg (show ¬ (r + 66 = r + 45) by omega), uI_1, if_neg (show ¬ (r + 66 = r + 6) by omega), uI_1, if_neg (show ¬ (r + 66 = r + 5) by omega), uI_1, if_neg (show ¬ (r + 66 = r + 4) by omega)]; exact hq.2.2.2.2.2.2.2.2.1
          · rw [uI_s, vz_ne _ e, uI_1, if_neg (show ¬ (r + 67 = r + 66) by omega), uI_1, if_neg (show ¬ (r + 67 = r + 57) by omega), uI_1, if_neg (show ¬ (r + 67 = r + 48) by omega), uI_1, if_neg (show ¬ (r + 67 = r + 47) by omega), uI_1, if_neg (show ¬ (r + 67 = r + 46) by omega), uI_1, if_neg (show ¬ (r + 67 = r + 45) by omega), uI_1, if_neg (show ¬ (r + 67 = r + 6) by omega), uI_1, if_neg (show ¬ (r + 67 = r + 5) by omega), uI_1, if_neg (show ¬ (r + 67 = r + 4) by omega)]; exact hq.2.2.2.2.2.2.2.2.2)
      refine ⟨φ', ?_, f1.trans b2, b3⟩
      rw [f_Ref_clear_L215, if_neg (by rw [show (4 : Int32) = nI 4 from rfl, zI_le (by omega) (by omega)]; omega), if_pos h.o, rf_10 h, Option.bind_some, rg_10 h, Option.bind_some, zix (by omega), Option.bind_some, if_pos (by decide), rf_11 h, Option.bind_some, rg_11 h, Option.bind_some, zix (by omega), Option.bind_some, rf_12 h, Option.bind_some, rg_12 h, Option.bind_some, zix (by omega), Option.bind_some, rf_54 h, Option.bind_some, rg_54 h, Option.bind_some, zix (by omega), Option.bind_some, rf_55 h, Option.bind_some, rg_55 h, Option.bind_some, zix (by omega), Option.bind_some, rf_56 h, Option.bind_some, rg_56 h, Option.bind_some, zix (by omega), Option.bind_some, if_pos (by decide), rf_58 h, Option.bind_some, rg_58 h, Option.bind_some, zix (by omega), Option.bind_some, rf_67 h, Option.bind_some, rg_67 h, Option.bind_some, zix (by omega), Option.bind_some, rf_76 h, Option.bind_some, rg_76 h, Option.bind_some, zix (by omega), Option.bind_some, rf_77 h, Option.bind_some, rg_77 h, Option.bind_some, zix (by omega), Option.bind_some, show nI i + (1 : Int32) = nI (i + 1) from by rw [zI_1, zI_add]]
      exact b1
theorem r_clL304 {Γ : gm_T} {r nm ns : Nat} : ∀ (d i fu : Nat) (φ : ph_T), i + d = 256 → d < fu → RL Γ φ r → (∀ j, j < i → φ.1 (r + 70) j = (m1 : Int32)) →
    ∃ φ', f_Ref_clear_L304 Γ fu φ r (nI i) = f_Ref_clear_L326 Γ jF φ' r (nI 0) ∧ RFr r [70] φ φ' ∧ ∀ j, j < 256 → φ'.1 (r + 70) j = (m1 : Int32) := by
  intro d
  induction d with
  | zero =>
    intro i fu φ hd hfu h hp
    match fu, hfu with
    | fu + 1, _ =>
      refine ⟨φ, ?_, RFr.refl _ _ _, fun j hj => hp j (by omega)⟩
      rw [f_Ref_clear_L304, if_pos (by rw [show (256 : Int32) = nI 256 from rfl, zI_le (by omega) (by omega)]; omega)]
      rfl
  | succ d ih =>
    intro i fu φ hd hfu h hp
    match fu, hfu with
    | fu + 1, hfu =>
      have f1 : RFr r [70] φ (uI φ (r + 70) i (-1 : Int32)) := by repeat (first | exact RFr.refl _ _ _ | refine RFr.uI ?_ (by decide) _ _ | refine RFr.uL ?_ (by decide) _ _ | refine rfr_uO ?_ (by decide) _ _)
      obtain ⟨φ', b1, b2, b3⟩ := ih (i + 1) fu (uI φ (r + 70) i (-1 : Int32)) (by omega) (by omega) (h.up (congrFun f1.1 r)) (by
        intro j hj
        by_cases e : j = i
        · subst e
          refine ?_
          · rw [uI_s, vz_same]; rfl
        · have hq := hp j (by omega)
          refine ?_
          · rw [uI_s, vz_ne _ e]; exact hq)
      refine ⟨φ', ?_, f1.trans b2, b3⟩
      rw [f_Ref_clear_L304, if_neg (by rw [show (256 : Int32) = nI 256 from rfl, zI_le (by omega) (by omega)]; omega), if_pos h.o, rf_80 h, Option.bind_some, rg_80 h, Option.bind_some, zix (by omega), Option.bind_some, show nI i + (1 : Int32) = nI (i + 1) from by rw [zI_1, zI_add]]
      exact b1
theorem r_clL326 {Γ : gm_T} {r nm ns : Nat} : ∀ (d i fu : Nat) (φ : ph_T), i + d = 65536 → d < fu → RL Γ φ r → (∀ j, j < i → φ.1 (r + 7) j = (0 : Int32) ∧ φ.1 (r + 8) j = (0 : Int32)) →
    ∃ φ', f_Ref_clear_L326 Γ fu φ r (nI i) = f_Ref_clear_L354 Γ jF φ' r (nI 0) ∧ RFr r [7, 8] φ φ' ∧ ∀ j, j < 65536 → φ'.1 (r + 7) j = (0 : Int32) ∧ φ'.1 (r + 8) j = (0 : Int32) := by
  intro d
  induction d with
  | zero =>
    intro i fu φ hd hfu h hp
    match fu, hfu with
    | fu + 1, _ =>
      refine ⟨φ, ?_, RFr.refl _ _ _, fun j hj => hp j (by omega)⟩
      rw [f_Ref_clear_L326, if_pos (by rw [show (65536 : Int32) = nI 65536 from rfl, zI_le (by omega) (by omega)]; omega)]
      rfl
  | succ d ih =>
    intro i fu φ hd hfu h hp
    match fu, hfu with
    | fu + 1, hfu =>
      have f1 : RFr r [7, 8] φ (uI (uI φ (r + 7) i (0 : Int32)) (r + 8) i (0 : Int32)) := by repeat (first | exact RFr.refl _ _ _ | refine RFr.uI ?_ (by decide) _ _ | refine RFr.uL ?_ (by decide) _ _ | refine rfr_uO ?_ (by decide) _ _)
      obtain ⟨φ', b1, b2, b3⟩ := ih (i + 1) fu (uI (uI φ (r + 7) i (0 : Int32)) (r + 8) i (0 : Int32)) (by omega) (by omega) (h.up (congrFun f1.1 r)) (by
        intro j hj
        by_cases e : j = i
        · subst e
          refine ⟨?_, ?_⟩
          · rw [uI_1, if_neg (show ¬ (r + 7 = r + 8) by omega), uI_s, vz_same]
          · rw [uI_s, vz_same]
        · have hq := hp j (by omega)
          refine ⟨?_, ?_⟩
          · rw [uI_1, if_neg (show ¬ (r + 7 = r + 8) by omega), uI_s, vz_ne _ e]; exact hq.1
          · rw [uI_s, vz_ne _ e, uI_1, if_neg (show ¬ (r + 8 = r + 7) by omega)]; exact hq.2)
      refine ⟨φ', ?_, f1.trans b2, b3⟩
      rw [f_Ref_clear_L326, if_neg (by rw [show (65536 : Int32) = nI 65536 from rfl, zI_le (by omega) (by omega)]; omega), if_pos h.o, rf_13 h, Option.bind_some, rg_13 h, Option.bind_some, zix (by omega), Option.bind_some, rf_14 h, Option.bind_some, rg_14 h, Option.bind_some, zix (by omega), Option.bind_some, if_pos (by decide), show nI i + (1 : Int32) = nI (i + 1) from by rw [zI_1, zI_add]]
      exact b1
theorem r_show0 {Γ : gm_T} {φ : ph_T} {r i : Nat} (h : RL Γ φ r) (hi : i < 40) : f_Ref_show Γ φ r (nI i) (0 : Int32) (0 : Int64) (0 : Int32) = some ((), uI (uL (uI φ (r + 26) i (0 : Int32)) (r + 28) i (0 : Int64)) (r + 29) i (0 : Int32)) := by
  unfold f_Ref_show
  rw [if_pos h.o, rf_33 h, Option.bind_some, rg_33 h, Option.bind_some, zix (by omega), Option.bind_some, if_pos (by decide), if_pos rfl]
  unfold f_Ref_show_L21
  rw [rf_35 h, Option.bind_some, rg_35 h, Option.bind_some, zix (by omega), Option.bind_some, if_pos h.o, if_pos rfl]
  unfold f_Ref_show_L37
  show (Option.bind (φ.2.2 r 36) _) = _
  rw [rf_36 h, Option.bind_some, rg_36 h, Option.bind_some, zix (by omega), Option.bind_some]
theorem r_clL114 {Γ : gm_T} {r : Nat} : ∀ (d i fu : Nat) (φ : ph_T), i + d = 40 → d < fu → RL Γ φ r → (∀ j, j < i → φ.1 (r + 26) j = (0 : Int32) ∧ φ.1 (r + 27) j = (0 : Int32) ∧ φ.2.1 (r + 28) j = (0 : Int64) ∧ φ.1 (r + 29) j = (0 : Int32) ∧ φ.1 (r + 30) j = (0 : Int32) ∧ φ.1 (r + 31) j = (0 : Int32)) →
    ∃ φ', f_Ref_clear_L114 Γ fu φ r (nI i) = f_Ref_clear_L157 Γ jF φ' r (nI 0) ∧ RFr r [26, 27, 28, 29, 30, 31] φ φ' ∧ ∀ j, j < 40 → φ'.1 (r + 26) j = (0 : Int32) ∧ φ'.1 (r + 27) j = (0 : Int32) ∧ φ'.2.1 (r + 28) j = (0 : Int64) ∧ φ'.1 (r + 29) j = (0 : Int32) ∧ φ'.1 (r + 30) j = (0 : Int32) ∧ φ'.1 (r + 31) j = (0 : Int32) := by
  intro d
  induction d with
  | zero =>
    intro i fu φ hd hfu h hp
    match fu, hfu with
    | fu + 1, _ =>
      refine ⟨φ, ?_, RFr.refl _ _ _, fun j hj => hp j (by omega)⟩
      rw [f_Ref_clear_L114, if_pos (by rw [show (40 : Int32) = nI 40 from rfl, zI_le (by omega) (by omega)]; omega)]
      rfl
  | succ d ih =>
    intro i fu φ hd hfu h hp
    match fu, hfu with
    | fu + 1, hfu =>
      have f1 : RFr r [26, 27, 28, 29, 30, 31] φ (uI (uI (uI (uI (uL (uI φ (r + 26) i (0 : Int32)) (r + 28) i (0 : Int64)) (r + 29) i (0 : Int32)) (r + 27) i (0 : Int32)) (r + 30) i (0 : Int32)) (r + 31) i (0 : Int32)) := by repeat (first | exact RFr.refl _ _ _ | refine RFr.uI ?_ (by decide) _ _ | refine RFr.uL ?_ (by decide) _ _ | refine rfr_uO ?_ (by decide) _ _)
      obtain ⟨φ', b1, b2, b3⟩ := ih (i + 1) fu (uI (uI (uI (uI (uL (uI φ (r + 26) i (0 : Int32)) (r + 28) i (0 : Int64)) (r + 29) i (0 : Int32)) (r + 27) i (0 : Int32)) (r + 30) i (0 : Int32)) (r + 31) i (0 : Int32)) (by omega) (by omega) (h.up (congrFun f1.1 r)) (by
        intro j hj
        by_cases e : j = i
        · subst e
          refine ⟨?_, ?_, ?_, ?_, ?_, ?_⟩
          · rw [uI_1, if_neg (show ¬ (r + 26 = r + 31) by omega), uI_1, if_neg (show ¬ (r + 26 = r + 30) by omega), uI_1, if_neg (show ¬ (r + 26 = r + 27) by omega), uI_1, if_neg (show ¬ (r + 26 = r + 29) by omega), uL_1, uI_s, vz_same]
          · rw [uI_1, if_neg (show ¬ (r + 27 = r + 31) by omega), uI_1, if_neg (show ¬ (r + 27 = r + 30) by omega), uI_s, vz_same]
          · rw [uI_2, uI_2, uI_2, uI_2, uL_2, if_pos rfl, vz_same]
          · rw [uI_1, if_neg (show ¬ (r + 29 = r + 31) by omega), uI_1, if_neg (show ¬ (r + 29 = r + 30) by omega), uI_1, if_neg (show ¬ (r + 29 = r + 27) by omega), uI_s, vz_same]
          · rw [uI_1, if_neg (show ¬ (r + 30 = r + 31) by omega), uI_s, vz_same]
          · rw [uI_s, vz_same]
        · have hq := hp j (by omega)
          refine ⟨?_, ?_, ?_, ?_, ?_, ?_⟩
          · rw [uI_1, if_neg (show ¬ (r + 26 = r + 31) by omega), uI_1, if_neg (show ¬ (r + 26 = r + 30) by omega), uI_1, if_neg (show ¬ (r + 26 = r + 27) by omega), uI_1, if_neg (show ¬ (r + 26 = r + 29) by omega), uL_1, uI_s, vz_ne _ e]; exact hq.1
          · rw [uI_1, if_neg (show ¬ (r + 27 = r + 31) by omega), uI_1, if_neg (show ¬ (r + 27 = r + 30) by omega), uI_s, vz_ne _ e, uI_1, if_neg (show ¬ (r + 27 = r + 29) by omega), uL_1, uI_1, if_neg (show ¬ (r + 27 = r + 26) by omega)]; exact hq.2.1
          · rw [uI_2, uI_2, uI_2, uI_2, uL_2, if_pos rfl, vz_ne _ e, uI_2]; exact hq.2.2.1
          · rw [uI_1, if_neg (show ¬ (r + 29 = r + 31) by omega), uI_1, if_neg (show ¬ (r + 29 = r + 30) by omega), uI_1, if_neg (show ¬ (r + 29 = r + 27) by omega), uI_s, vz_ne _ e, uL_1, uI_1, if_neg (show ¬ (r + 29 = r + 26) by omega)]; exact hq.2.2.2.1
          · rw [uI_1, if_neg (show ¬ (r + 30 = r + 31) by omega), uI_s, vz_ne _ e, uI_1, if_neg (show ¬ (r + 30 = r + 27) by omega), uI_1, if_neg (show ¬ (r + 30 = r + 29) by omega), uL_1, uI_1, if_neg (show ¬ (r + 30 = r + 26) by omega)]; exact hq.2.2.2.2.1
          · rw [uI_s, vz_ne _ e, uI_1, if_neg (show ¬ (r + 31 = r + 30) by omega), uI_1, if_neg (show ¬ (r + 31 = r + 27) by omega), uI_1, if_neg (show ¬ (r + 31 = r + 29) by omega), uL_1, uI_1, if_neg (show ¬ (r + 31 = r + 26) by omega)]; exact hq.2.2.2.2.2)
      refine ⟨φ', ?_, f1.trans b2, b3⟩
      rw [f_Ref_clear_L114, if_neg (by rw [show (40 : Int32) = nI 40 from rfl, zI_le (by omega) (by omega)]; omega), if_pos h.o, r_show0 h (by omega), Option.bind_some]
      show (Option.bind (φ.2.2 r 34) _) = _
      rw [rf_34 h, Option.bind_some, rg_34 h, Option.bind_some, zix (by omega), Option.bind_some, if_pos (by decide)]
      show (Option.bind (φ.2.2 r 37) _) = _
      rw [rf_37 h, Option.bind_some, rg_37 h, Option.bind_some, zix (by omega), Option.bind_some, if_pos (by decide)]
      show (Option.bind (φ.2.2 r 38) _) = _
      rw [rf_38 h, Option.bind_some, rg_38 h, Option.bind_some, zix (by omega), Option.bind_some, show nI i + (1 : Int32) = nI (i + 1) from by rw [zI_1, zI_add]]
      exact b1
