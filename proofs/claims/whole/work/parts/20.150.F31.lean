/-! THE LAW: its cases, with a truth value; told, clear; its loop -/
theorem law_policy_false {Γ : gm_T} {φ : ph_T} {x1 x2 x3 : Nat} {S : XS} {k p L : Nat} {xs : Nat → Int32} {K : ph_T → Nat → Nat → Nat → Int32 → Option (Int32 × ph_T)} (h : LW Γ φ x1 x2 x3 S (k + 1000)) (hp : p + 7 ≤ L) (hL : L ≤ 3587) (hK : ∀ φ S, LW Γ φ x1 x2 x3 S k → ∃ φ', K φ x1 x2 x3 (nI (p + 7)) = some (1, φ')) (hz : xs (p + 2) = 0) : ∃ φ', f_Law_law_L256 Γ L xs K φ x1 x2 x3 (nI p) = some (1, φ') := by
  have hJ : JI k S := JI.lows 1000 h.j
  have i1 : ix (nI p + (1 : Int32)) L = some (p + 1) := ixp hp hL (show 1 < 7 by decide)
  have i2 : ix (nI p + (2 : Int32)) L = some (p + 2) := ixp hp hL (show 2 < 7 by decide)
  obtain ⟨cd, φa, v, φ2, S2, a1, a2, a3, a4, a5, a6⟩ : ∃ (cd : Nat) (φa : ph_T) (v : Int32) (φ2 : ph_T) (S2 : XS), f_Law_policy Γ φ (some x1) (xs (p + 1)) (0 : Int32) (some x3) = some (nI cd, φa) ∧ f_Ref_policy Γ φa x2 (xs (p + 1)) (0 : Int32) = some (v, φ2) ∧ f_Ref_thrown Γ φ2 x2 = some (nI cd, φ2) ∧ (cd = 0 ∨ ¬ nI cd = 0) ∧ (cd = 0 → ∃ φ5, φ2.2.1 x3 = ((fun v φ5 => uL φ5 x3 0 (Int32.toInt64 v)) v φ5).2.1 x3) ∧ LW Γ φ2 x1 x2 x3 S2 k := by
    unfold f_Law_policy
    rw [Option.bind_some, if_pos h.c.lay.o]
    exact Face.law (fun v φ5 => uL φ5 x3 0 (Int32.toInt64 v)) h (q_policy h.c hJ (xs (p + 1)) false) (hd1 IAE) (fun v φ5 => by simp only [Option.bind_some, h.o, i_01]) (fun v φ5 => fr_uL (Fr.refl _ _ _) (by omega) _ _)
  obtain ⟨φ', hφ'⟩ := hK φ2 S2 a6
  have fin : f_Law_law_L2021 Γ L xs K φ2 x1 x2 x3 (nI p) = some (1, φ') := by
    unfold f_Law_law_L2021
    rw [show nI p + (7 : Int32) = nI (p + 7) from zI_add p 7]
    exact hφ'
  refine ⟨φ', ?_⟩
  unfold f_Law_law_L256
  simp only [i1, i2, Option.bind_some]
  rw [if_pos hz]
  unfold f_Law_law_L277
  simp only [i1, i2, Option.bind_some, a1]
  rw [if_pos hz]
  unfold f_Law_law_L304
  simp only [Option.bind_some, a2, a3, h.r.rl.o, if_true]
  rcases a4 with e | e
  · subst e
    obtain ⟨φ5, e5⟩ := a5 rfl
    rw [if_pos (show nI 0 = 0 from rfl), h.o, Option.bind_some, i_01, Option.bind_some, e5, uL_2, if_pos rfl, vz_same, lg_self, if_pos rfl]
    exact fin
  · rw [if_neg e]
    exact fin
theorem law_policy_true {Γ : gm_T} {φ : ph_T} {x1 x2 x3 : Nat} {S : XS} {k p L : Nat} {xs : Nat → Int32} {K : ph_T → Nat → Nat → Nat → Int32 → Option (Int32 × ph_T)} (h : LW Γ φ x1 x2 x3 S (k + 1000)) (hp : p + 7 ≤ L) (hL : L ≤ 3587) (hK : ∀ φ S, LW Γ φ x1 x2 x3 S k → ∃ φ', K φ x1 x2 x3 (nI (p + 7)) = some (1, φ')) (hz : ¬ xs (p + 2) = 0) : ∃ φ', f_Law_law_L256 Γ L xs K φ x1 x2 x3 (nI p) = some (1, φ') := by
  have hJ : JI k S := JI.lows 1000 h.j
  have i1 : ix (nI p + (1 : Int32)) L = some (p + 1) := ixp hp hL (show 1 < 7 by decide)
  have i2 : ix (nI p + (2 : Int32)) L = some (p + 2) := ixp hp hL (show 2 < 7 by decide)
  obtain ⟨cd, φa, v, φ2, S2, a1, a2, a3, a4, a5, a6⟩ : ∃ (cd : Nat) (φa : ph_T) (v : Int32) (φ2 : ph_T) (S2 : XS), f_Law_policy Γ φ (some x1) (xs (p + 1)) (1 : Int32) (some x3) = some (nI cd, φa) ∧ f_Ref_policy Γ φa x2 (xs (p + 1)) (1 : Int32) = some (v, φ2) ∧ f_Ref_thrown Γ φ2 x2 = some (nI cd, φ2) ∧ (cd = 0 ∨ ¬ nI cd = 0) ∧ (cd = 0 → ∃ φ5, φ2.2.1 x3 = ((fun v φ5 => uL φ5 x3 0 (Int32.toInt64 v)) v φ5).2.1 x3) ∧ LW Γ φ2 x1 x2 x3 S2 k := by
    unfold f_Law_policy
    rw [Option.bind_some, if_pos h.c.lay.o]
    exact Face.law (fun v φ5 => uL φ5 x3 0 (Int32.toInt64 v)) h (q_policy h.c hJ (xs (p + 1)) true) (hd1 IAE) (fun v φ5 => by simp only [Option.bind_some, h.o, i_01]) (fun v φ5 => fr_uL (Fr.refl _ _ _) (by omega) _ _)
  obtain ⟨φ', hφ'⟩ := hK φ2 S2 a6
  have fin : f_Law_law_L2021 Γ L xs K φ2 x1 x2 x3 (nI p) = some (1, φ') := by
    unfold f_Law_law_L2021
    rw [show nI p + (7 : Int32) = nI (p + 7) from zI_add p 7]
    exact hφ'
  refine ⟨φ', ?_⟩
  unfold f_Law_law_L256
  simp only [i1, i2, Option.bind_some]
  rw [if_neg hz]
  unfold f_Law_law_L277
  simp only [i1, i2, Option.bind_some, a1]
  rw [if_neg hz]
  unfold f_Law_law_L304
  simp only [Option.bind_some, a2, a3, h.r.rl.o, if_true]
  rcases a4 with e | e
  · subst e
    obtain ⟨φ5, e5⟩ := a5 rfl
    rw [if_pos (show nI 0 = 0 from rfl), h.o, Option.bind_some, i_01, Option.bind_some, e5, uL_2, if_pos rfl, vz_same, lg_self, if_pos rfl]
    exact fin
  · rw [if_neg e]
    exact fin
theorem law_policy {Γ : gm_T} {φ : ph_T} {x1 x2 x3 : Nat} {S : XS} {k p L : Nat} {xs : Nat → Int32} {K : ph_T → Nat → Nat → Nat → Int32 → Option (Int32 × ph_T)} (h : LW Γ φ x1 x2 x3 S (k + 1000)) (hp : p + 7 ≤ L) (hL : L ≤ 3587) (hK : ∀ φ S, LW Γ φ x1 x2 x3 S k → ∃ φ', K φ x1 x2 x3 (nI (p + 7)) = some (1, φ')) : ∃ φ', f_Law_law_L256 Γ L xs K φ x1 x2 x3 (nI p) = some (1, φ') := by
  by_cases hz : xs (p + 2) = 0
  · exact law_policy_false h hp hL hK hz
  · exact law_policy_true h hp hL hK hz
theorem law_early_false {Γ : gm_T} {φ : ph_T} {x1 x2 x3 : Nat} {S : XS} {k p L : Nat} {xs : Nat → Int32} {K : ph_T → Nat → Nat → Nat → Int32 → Option (Int32 × ph_T)} (h : LW Γ φ x1 x2 x3 S (k + 1000)) (hp : p + 7 ≤ L) (hL : L ≤ 3587) (hK : ∀ φ S, LW Γ φ x1 x2 x3 S k → ∃ φ', K φ x1 x2 x3 (nI (p + 7)) = some (1, φ')) (hz : xs (p + 2) = 0) : ∃ φ', f_Law_law_L420 Γ L xs K φ x1 x2 x3 (nI p) = some (1, φ') := by
  have hJ : JI k S := JI.lows 1000 h.j
  have i1 : ix (nI p + (1 : Int32)) L = some (p + 1) := ixp hp hL (show 1 < 7 by decide)
  have i2 : ix (nI p + (2 : Int32)) L = some (p + 2) := ixp hp hL (show 2 < 7 by decide)
  obtain ⟨cd, φa, v, φ2, S2, a1, a2, a3, a4, a5, a6⟩ : ∃ (cd : Nat) (φa : ph_T) (v : Int32) (φ2 : ph_T) (S2 : XS), f_Law_early Γ φ (some x1) (xs (p + 1)) (0 : Int32) (some x3) = some (nI cd, φa) ∧ f_Ref_early Γ φa x2 (xs (p + 1)) (0 : Int32) = some (v, φ2) ∧ f_Ref_thrown Γ φ2 x2 = some (nI cd, φ2) ∧ (cd = 0 ∨ ¬ nI cd = 0) ∧ (cd = 0 → ∃ φ5, φ2.2.1 x3 = ((fun v φ5 => uL φ5 x3 0 (if v = 0 then (0 : Int64) else (1 : Int64))) v φ5).2.1 x3) ∧ LW Γ φ2 x1 x2 x3 S2 k := by
    unfold f_Law_early
    rw [Option.bind_some, if_pos h.c.lay.o]
    refine Face.law (fun v φ5 => uL φ5 x3 0 (if v = 0 then (0 : Int64) else (1 : Int64))) h (q_early h.c hJ (xs (p + 1)) false) (hd1 IOB) (fun v φ5 => ?_) (fun v φ5 => fr_uL (Fr.refl _ _ _) (by omega) _ _)
    unfold f_Law_early_L16
    simp only [Option.bind_some, h.o, i_01]
    by_cases e : v = 0
    · rw [if_pos e, if_pos e]
    · rw [if_neg e, if_neg e]
  obtain ⟨φ', hφ'⟩ := hK φ2 S2 a6
  have fin : f_Law_law_L2021 Γ L xs K φ2 x1 x2 x3 (nI p) = some (1, φ') := by
    unfold f_Law_law_L2021
    rw [show nI p + (7 : Int32) = nI (p + 7) from zI_add p 7]
    exact hφ'
  refine ⟨φ', ?_⟩
  unfold f_Law_law_L420
  simp only [i1, i2, Option.bind_some]
  rw [if_pos hz]
  unfold f_Law_law_L441
  simp only [i1, i2, Option.bind_some, a1]
  rw [if_pos hz]
  unfold f_Law_law_L468
  simp only [Option.bind_some, a2, a3, h.r.rl.o, if_true]
  rcases a4 with e | e
  · subst e
    obtain ⟨φ5, e5⟩ := a5 rfl
    rw [if_pos (show nI 0 = 0 from rfl), h.o, Option.bind_some, i_01, Option.bind_some, e5]
    unfold f_Law_law_L502
    simp only [uL_2, if_true, vz_same]
    by_cases ev : v = 0
    · rw [if_pos ev, if_pos ev, lg_self, if_pos rfl]
      exact fin
    · rw [if_neg ev, if_neg ev, lg_self, if_pos rfl]
      exact fin
  · rw [if_neg e]
    exact fin
theorem law_early_true {Γ : gm_T} {φ : ph_T} {x1 x2 x3 : Nat} {S : XS} {k p L : Nat} {xs : Nat → Int32} {K : ph_T → Nat → Nat → Nat → Int32 → Option (Int32 × ph_T)} (h : LW Γ φ x1 x2 x3 S (k + 1000)) (hp : p + 7 ≤ L) (hL : L ≤ 3587) (hK : ∀ φ S, LW Γ φ x1 x2 x3 S k → ∃ φ', K φ x1 x2 x3 (nI (p + 7)) = some (1, φ')) (hz : ¬ xs (p + 2) = 0) : ∃ φ', f_Law_law_L420 Γ L xs K φ x1 x2 x3 (nI p) = some (1, φ') := by
  have hJ : JI k S := JI.lows 1000 h.j
  have i1 : ix (nI p + (1 : Int32)) L = some (p + 1) := ixp hp hL (show 1 < 7 by decide)
  have i2 : ix (nI p + (2 : Int32)) L = some (p + 2) := ixp hp hL (show 2 < 7 by decide)
  obtain ⟨cd, φa, v, φ2, S2, a1, a2, a3, a4, a5, a6⟩ : ∃ (cd : Nat) (φa : ph_T) (v : Int32) (φ2 : ph_T) (S2 : XS), f_Law_early Γ φ (some x1) (xs (p + 1)) (1 : Int32) (some x3) = some (nI cd, φa) ∧ f_Ref_early Γ φa x2 (xs (p + 1)) (1 : Int32) = some (v, φ2) ∧ f_Ref_thrown Γ φ2 x2 = some (nI cd, φ2) ∧ (cd = 0 ∨ ¬ nI cd = 0) ∧ (cd = 0 → ∃ φ5, φ2.2.1 x3 = ((fun v φ5 => uL φ5 x3 0 (if v = 0 then (0 : Int64) else (1 : Int64))) v φ5).2.1 x3) ∧ LW Γ φ2 x1 x2 x3 S2 k := by
    unfold f_Law_early
    rw [Option.bind_some, if_pos h.c.lay.o]
    refine Face.law (fun v φ5 => uL φ5 x3 0 (if v = 0 then (0 : Int64) else (1 : Int64))) h (q_early h.c hJ (xs (p + 1)) true) (hd1 IOB) (fun v φ5 => ?_) (fun v φ5 => fr_uL (Fr.refl _ _ _) (by omega) _ _)
    unfold f_Law_early_L16
    simp only [Option.bind_some, h.o, i_01]
    by_cases e : v = 0
    · rw [if_pos e, if_pos e]
    · rw [if_neg e, if_neg e]
  obtain ⟨φ', hφ'⟩ := hK φ2 S2 a6
  have fin : f_Law_law_L2021 Γ L xs K φ2 x1 x2 x3 (nI p) = some (1, φ') := by
    unfold f_Law_law_L2021
    rw [show nI p + (7 : Int32) = nI (p + 7) from zI_add p 7]
    exact hφ'
  refine ⟨φ', ?_⟩
  unfold f_Law_law_L420
  simp only [i1, i2, Option.bind_some]
  rw [if_neg hz]
  unfold f_Law_law_L441
  simp only [i1, i2, Option.bind_some, a1]
  rw [if_neg hz]
  unfold f_Law_law_L468
  simp only [Option.bind_some, a2, a3, h.r.rl.o, if_true]
  rcases a4 with e | e
  · subst e
    obtain ⟨φ5, e5⟩ := a5 rfl
    rw [if_pos (show nI 0 = 0 from rfl), h.o, Option.bind_some, i_01, Option.bind_some, e5]
    unfold f_Law_law_L502
    simp only [uL_2, if_true, vz_same]
    by_cases ev : v = 0
    · rw [if_pos ev, if_pos ev, lg_self, if_pos rfl]
      exact fin
    · rw [if_neg ev, if_neg ev, lg_self, if_pos rfl]
      exact fin
  · rw [if_neg e]
    exact fin
theorem law_early {Γ : gm_T} {φ : ph_T} {x1 x2 x3 : Nat} {S : XS} {k p L : Nat} {xs : Nat → Int32} {K : ph_T → Nat → Nat → Nat → Int32 → Option (Int32 × ph_T)} (h : LW Γ φ x1 x2 x3 S (k + 1000)) (hp : p + 7 ≤ L) (hL : L ≤ 3587) (hK : ∀ φ S, LW Γ φ x1 x2 x3 S k → ∃ φ', K φ x1 x2 x3 (nI (p + 7)) = some (1, φ')) : ∃ φ', f_Law_law_L420 Γ L xs K φ x1 x2 x3 (nI p) = some (1, φ') := by
  by_cases hz : xs (p + 2) = 0
  · exact law_early_false h hp hL hK hz
  · exact law_early_true h hp hL hK hz
theorem law_spoil_false {Γ : gm_T} {φ : ph_T} {x1 x2 x3 : Nat} {S : XS} {k p L : Nat} {xs : Nat → Int32} {K : ph_T → Nat → Nat → Nat → Int32 → Option (Int32 × ph_T)} (h : LW Γ φ x1 x2 x3 S (k + 1000)) (hp : p + 7 ≤ L) (hL : L ≤ 3587) (hK : ∀ φ S, LW Γ φ x1 x2 x3 S k → ∃ φ', K φ x1 x2 x3 (nI (p + 7)) = some (1, φ')) (hz : xs (p + 3) = 0) : ∃ φ', f_Law_law_L671 Γ L xs K φ x1 x2 x3 (nI p) = some (1, φ') := by
  have hJ : JI k S := JI.lows 1000 h.j
  have i1 : ix (nI p + (1 : Int32)) L = some (p + 1) := ixp hp hL (show 1 < 7 by decide)
  have i2 : ix (nI p + (2 : Int32)) L = some (p + 2) := ixp hp hL (show 2 < 7 by decide)
  have i3 : ix (nI p + (3 : Int32)) L = some (p + 3) := ixp hp hL (show 3 < 7 by decide)
  obtain ⟨cd, φa, v, φ2, S2, a1, a2, a3, a4, a5, a6⟩ : ∃ (cd : Nat) (φa : ph_T) (v : Int32) (φ2 : ph_T) (S2 : XS), f_Law_spoil Γ φ (some x1) (xs (p + 1)) (xs (p + 2)) (0 : Int32) (some x3) = some (nI cd, φa) ∧ f_Ref_spoil Γ φa x2 (xs (p + 1)) (xs (p + 2)) (0 : Int32) = some (v, φ2) ∧ f_Ref_thrown Γ φ2 x2 = some (nI cd, φ2) ∧ (cd = 0 ∨ ¬ nI cd = 0) ∧ (cd = 0 → ∃ φ5, φ2.2.1 x3 = ((fun v φ5 => uL φ5 x3 0 (Int32.toInt64 v)) v φ5).2.1 x3) ∧ LW Γ φ2 x1 x2 x3 S2 k := by
    unfold f_Law_spoil
    rw [Option.bind_some, if_pos h.c.lay.o]
    exact Face.law (fun v φ5 => uL φ5 x3 0 (Int32.toInt64 v)) h (q_spoil h.c hJ (xs (p + 1)) (xs (p + 2)) false) (hd2 nb2) (fun v φ5 => by simp only [Option.bind_some, h.o, i_01]) (fun v φ5 => fr_uL (Fr.refl _ _ _) (by omega) _ _)
  obtain ⟨φ', hφ'⟩ := hK φ2 S2 a6
  have fin : f_Law_law_L2021 Γ L xs K φ2 x1 x2 x3 (nI p) = some (1, φ') := by
    unfold f_Law_law_L2021
    rw [show nI p + (7 : Int32) = nI (p + 7) from zI_add p 7]
    exact hφ'
  refine ⟨φ', ?_⟩
  unfold f_Law_law_L671
  simp only [i1, i2, i3, Option.bind_some]
  rw [if_pos hz]
  unfold f_Law_law_L698
  simp only [i1, i2, i3, Option.bind_some, a1]
  rw [if_pos hz]
  unfold f_Law_law_L731
  simp only [Option.bind_some, a2, a3, h.r.rl.o, if_true]
  rcases a4 with e | e
  · subst e
    obtain ⟨φ5, e5⟩ := a5 rfl
    rw [if_pos (show nI 0 = 0 from rfl), h.o, Option.bind_some, i_01, Option.bind_some, e5, uL_2, if_pos rfl, vz_same, lg_self, if_pos rfl]
    exact fin
  · rw [if_neg e]
    exact fin
theorem law_spoil_true {Γ : gm_T} {φ : ph_T} {x1 x2 x3 : Nat} {S : XS} {k p L : Nat} {xs : Nat → Int32} {K : ph_T → Nat → Nat → Nat → Int32 → Option (Int32 × ph_T)} (h : LW Γ φ x1 x2 x3 S (k + 1000)) (hp : p + 7 ≤ L) (hL : L ≤ 3587) (hK : ∀ φ S, LW Γ φ x1 x2 x3 S k → ∃ φ', K φ x1 x2 x3 (nI (p + 7)) = some (1, φ')) (hz : ¬ xs (p + 3) = 0) : ∃ φ', f_Law_law_L671 Γ L xs K φ x1 x2 x3 (nI p) = some (1, φ') := by
  have hJ : JI k S := JI.lows 1000 h.j
  have i1 : ix (nI p + (1 : Int32)) L = some (p + 1) := ixp hp hL (show 1 < 7 by decide)
  have i2 : ix (nI p + (2 : Int32)) L = some (p + 2) := ixp hp hL (show 2 < 7 by decide)
  have i3 : ix (nI p + (3 : Int32)) L = some (p + 3) := ixp hp hL (show 3 < 7 by decide)
  obtain ⟨cd, φa, v, φ2, S2, a1, a2, a3, a4, a5, a6⟩ : ∃ (cd : Nat) (φa : ph_T) (v : Int32) (φ2 : ph_T) (S2 : XS), f_Law_spoil Γ φ (some x1) (xs (p + 1)) (xs (p + 2)) (1 : Int32) (some x3) = some (nI cd, φa) ∧ f_Ref_spoil Γ φa x2 (xs (p + 1)) (xs (p + 2)) (1 : Int32) = some (v, φ2) ∧ f_Ref_thrown Γ φ2 x2 = some (nI cd, φ2) ∧ (cd = 0 ∨ ¬ nI cd = 0) ∧ (cd = 0 → ∃ φ5, φ2.2.1 x3 = ((fun v φ5 => uL φ5 x3 0 (Int32.toInt64 v)) v φ5).2.1 x3) ∧ LW Γ φ2 x1 x2 x3 S2 k := by
    unfold f_Law_spoil
    rw [Option.bind_some, if_pos h.c.lay.o]
    exact Face.law (fun v φ5 => uL φ5 x3 0 (Int32.toInt64 v)) h (q_spoil h.c hJ (xs (p + 1)) (xs (p + 2)) true) (hd2 nb2) (fun v φ5 => by simp only [Option.bind_some, h.o, i_01]) (fun v φ5 => fr_uL (Fr.refl _ _ _) (by omega) _ _)
  obtain ⟨φ', hφ'⟩ := hK φ2 S2 a6
  have fin : f_Law_law_L2021 Γ L xs K φ2 x1 x2 x3 (nI p) = some (1, φ') := by
    unfold f_Law_law_L2021
    rw [show nI p + (7 : Int32) = nI (p + 7) from zI_add p 7]
    exact hφ'
  refine ⟨φ', ?_⟩
  unfold f_Law_law_L671
  simp only [i1, i2, i3, Option.bind_some]
  rw [if_neg hz]
  unfold f_Law_law_L698
  simp only [i1, i2, i3, Option.bind_some, a1]
  rw [if_neg hz]
  unfold f_Law_law_L731
  simp only [Option.bind_some, a2, a3, h.r.rl.o, if_true]
  rcases a4 with e | e
  · subst e
    obtain ⟨φ5, e5⟩ := a5 rfl
    rw [if_pos (show nI 0 = 0 from rfl), h.o, Option.bind_some, i_01, Option.bind_some, e5, uL_2, if_pos rfl, vz_same, lg_self, if_pos rfl]
    exact fin
  · rw [if_neg e]
    exact fin
theorem law_spoil {Γ : gm_T} {φ : ph_T} {x1 x2 x3 : Nat} {S : XS} {k p L : Nat} {xs : Nat → Int32} {K : ph_T → Nat → Nat → Nat → Int32 → Option (Int32 × ph_T)} (h : LW Γ φ x1 x2 x3 S (k + 1000)) (hp : p + 7 ≤ L) (hL : L ≤ 3587) (hK : ∀ φ S, LW Γ φ x1 x2 x3 S k → ∃ φ', K φ x1 x2 x3 (nI (p + 7)) = some (1, φ')) : ∃ φ', f_Law_law_L671 Γ L xs K φ x1 x2 x3 (nI p) = some (1, φ') := by
  by_cases hz : xs (p + 3) = 0
  · exact law_spoil_false h hp hL hK hz
  · exact law_spoil_true h hp hL hK hz
theorem law_told {Γ : gm_T} {φ : ph_T} {x1 x2 x3 : Nat} {S : XS} {k p L : Nat} {xs : Nat → Int32} {K : ph_T → Nat → Nat → Nat → Int32 → Option (Int32 × ph_T)} (h : LW Γ φ x1 x2 x3 S (k + 1000)) (hp : p + 7 ≤ L) (hL : L ≤ 3587) (hK : ∀ φ S, LW Γ φ x1 x2 x3 S k → ∃ φ', K φ x1 x2 x3 (nI (p + 7)) = some (1, φ')) : ∃ φ', f_Law_law_L1707 Γ L xs K φ x1 x2 x3 (nI p) = some (1, φ') := by
  have hJ : JI k S := JI.lows 1000 h.j
  have i1 : ix (nI p + (1 : Int32)) L = some (p + 1) := ixp hp hL (show 1 < 7 by decide)
  obtain ⟨an, a1, a2⟩ := q_told h.c hJ (xs (p + 1))
  have a3 := a2 φ x2 h.r
  obtain ⟨b1, b2⟩ := r_errUp h.r 0
  have s1 := h.s1
  have f := b2.fr (by decide)
  have a6 : LW Γ (uI φ x2 0 (nI 0)) x1 x2 x3 (S.w_err 0) k := ⟨(h.c.sm (f.sm (by omega))).err 0, b1, (fun j hj => by rw [b2.i 30 (by decide)]; exact h.h j hj), hJ.err 0, h.o, h.s1, h.s2⟩
  obtain ⟨φ', hφ'⟩ := hK _ _ a6
  refine ⟨φ', ?_⟩
  unfold f_Law_law_L1707
  simp only [i1, Option.bind_some, h.c.lay.o, if_true, a1, h.r.rl.o, a3]
  unfold f_Law_law_L2021
  rw [show nI p + (7 : Int32) = nI (p + 7) from zI_add p 7]
  exact hφ'
theorem law_clear {Γ : gm_T} {φ : ph_T} {x1 x2 x3 : Nat} {S : XS} {k p L : Nat} {xs : Nat → Int32} {K : ph_T → Nat → Nat → Nat → Int32 → Option (Int32 × ph_T)} (h : LW Γ φ x1 x2 x3 S (k + 1000)) (hp : p + 7 ≤ L) (hL : L ≤ 3587) (hK : ∀ φ S, LW Γ φ x1 x2 x3 S k → ∃ φ', K φ x1 x2 x3 (nI (p + 7)) = some (1, φ')) (hk : k + 8 < 2 ^ 24) : ∃ φ', f_Law_law_L2010 Γ L xs K φ x1 x2 x3 (nI p) = some (1, φ') := by
  obtain ⟨φ1, a1, a2, a3⟩ := c_clear h.c
  have s1 := h.s1
  have s2 := h.s2
  have hB := h.j.1.bd
  have sA : Sm x2 (x2 + 92) φ φ1 := a3.sm (by omega)
  have hr := h.r.sm sA
  obtain ⟨φ2, b1, b2, b3, b4⟩ := r_clear hr.rl hB.nm hB.ns hr.sc.nm hr.sc.ns hr.sc.lim hr.mo hr.wt
  have f := b4.fr (by decide)
  have a6 : LW Γ φ2 x1 x2 x3 S.clr k := ⟨a2.sm (f.sm (by show tAd x1 S.nm S.ns + 256 ≤ _ ∨ _; omega)), b2, b3, JI.clr hB.nm hB.ns hB.lim hk, h.o, h.s1, h.s2⟩
  obtain ⟨φ', hφ'⟩ := hK _ _ a6
  refine ⟨φ', ?_⟩
  unfold f_Law_law_L2010
  simp only [Option.bind_some, h.c.lay.o, if_true, a1, h.r.rl.o, b1]
  unfold f_Law_law_L2021
  rw [show nI p + (7 : Int32) = nI (p + 7) from zI_add p 7]
  exact hφ'
theorem law_skip {Γ : gm_T} {φ : ph_T} {x1 x2 x3 : Nat} {S : XS} {k p L : Nat} {xs : Nat → Int32} {K : ph_T → Nat → Nat → Nat → Int32 → Option (Int32 × ph_T)} (h : LW Γ φ x1 x2 x3 S (k + 1000)) (hp : p + 7 ≤ L) (hL : L ≤ 3587) (hK : ∀ φ S, LW Γ φ x1 x2 x3 S k → ∃ φ', K φ x1 x2 x3 (nI (p + 7)) = some (1, φ')) : ∃ φ', f_Law_law_L2021 Γ L xs K φ x1 x2 x3 (nI p) = some (1, φ') := by
  obtain ⟨φ', hφ'⟩ := hK φ S ⟨h.c, h.r, h.h, JI.lows 1000 h.j, h.o, h.s1, h.s2⟩
  refine ⟨φ', ?_⟩
  unfold f_Law_law_L2021
  rw [show nI p + (7 : Int32) = nI (p + 7) from zI_add p 7]
  exact hφ'
