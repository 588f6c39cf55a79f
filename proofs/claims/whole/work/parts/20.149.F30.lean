/-! THE LAW: its cases -/
theorem law_map {Γ : gm_T} {φ : ph_T} {x1 x2 x3 : Nat} {S : XS} {k p L : Nat} {xs : Nat → Int32} {K : ph_T → Nat → Nat → Nat → Int32 → Option (Int32 × ph_T)} (h : LW Γ φ x1 x2 x3 S (k + 1000)) (hp : p + 7 ≤ L) (hL : L ≤ 3587) (hK : ∀ φ S, LW Γ φ x1 x2 x3 S k → ∃ φ', K φ x1 x2 x3 (nI (p + 7)) = some (1, φ')) : ∃ φ', f_Law_law_L188 Γ L xs K φ x1 x2 x3 (nI p) = some (1, φ') := by
  have hJ : JI k S := JI.lows 1000 h.j
  have i1 : ix (nI p + (1 : Int32)) L = some (p + 1) := ixp hp hL (show 1 < 7 by decide)
  have i2 : ix (nI p + (2 : Int32)) L = some (p + 2) := ixp hp hL (show 2 < 7 by decide)
  obtain ⟨cd, φa, v, φ2, S2, a1, a2, a3, a4, a5, a6⟩ : ∃ (cd : Nat) (φa : ph_T) (v : Int32) (φ2 : ph_T) (S2 : XS), f_Law_map Γ φ (some x1) (xs (p + 1)) (xs (p + 2)) (some x3) = some (nI cd, φa) ∧ f_Ref_map Γ φa x2 (xs (p + 1)) (xs (p + 2)) = some (v, φ2) ∧ f_Ref_thrown Γ φ2 x2 = some (nI cd, φ2) ∧ (cd = 0 ∨ ¬ nI cd = 0) ∧ (cd = 0 → ∃ φ5, φ2.2.1 x3 = ((fun v φ5 => uL φ5 x3 0 (Int32.toInt64 v)) v φ5).2.1 x3) ∧ LW Γ φ2 x1 x2 x3 S2 k := by
    unfold f_Law_map
    rw [Option.bind_some, if_pos h.c.lay.o]
    exact Face.law (fun v φ5 => uL φ5 x3 0 (Int32.toInt64 v)) h (q_map h.c hJ (xs (p + 1)) (xs (p + 2))) (hd2 nb3) (fun v φ5 => by simp only [Option.bind_some, h.o, i_01]) (fun v φ5 => fr_uL (Fr.refl _ _ _) (by omega) _ _)
  obtain ⟨φ', hφ'⟩ := hK φ2 S2 a6
  have fin : f_Law_law_L2021 Γ L xs K φ2 x1 x2 x3 (nI p) = some (1, φ') := by
    unfold f_Law_law_L2021
    rw [show nI p + (7 : Int32) = nI (p + 7) from zI_add p 7]
    exact hφ'
  refine ⟨φ', ?_⟩
  unfold f_Law_law_L188
  simp only [i1, i2, Option.bind_some, a1, a2, a3, h.r.rl.o, if_true]
  rcases a4 with e | e
  · subst e
    obtain ⟨φ5, e5⟩ := a5 rfl
    rw [if_pos (show nI 0 = 0 from rfl), h.o, Option.bind_some, i_01, Option.bind_some, e5, uL_2, if_pos rfl, vz_same, lg_self, if_pos rfl]
    exact fin
  · rw [if_neg e]
    exact fin
theorem law_master {Γ : gm_T} {φ : ph_T} {x1 x2 x3 : Nat} {S : XS} {k p L : Nat} {xs : Nat → Int32} {K : ph_T → Nat → Nat → Nat → Int32 → Option (Int32 × ph_T)} (h : LW Γ φ x1 x2 x3 S (k + 1000)) (hp : p + 7 ≤ L) (hL : L ≤ 3587) (hK : ∀ φ S, LW Γ φ x1 x2 x3 S k → ∃ φ', K φ x1 x2 x3 (nI (p + 7)) = some (1, φ')) : ∃ φ', f_Law_law_L340 Γ L xs K φ x1 x2 x3 (nI p) = some (1, φ') := by
  have hJ : JI k S := JI.lows 1000 h.j
  have i1 : ix (nI p + (1 : Int32)) L = some (p + 1) := ixp hp hL (show 1 < 7 by decide)
  have i2 : ix (nI p + (2 : Int32)) L = some (p + 2) := ixp hp hL (show 2 < 7 by decide)
  have i3 : ix (nI p + (3 : Int32)) L = some (p + 3) := ixp hp hL (show 3 < 7 by decide)
  obtain ⟨cd, φa, v, φ2, S2, a1, a2, a3, a4, a5, a6⟩ : ∃ (cd : Nat) (φa : ph_T) (v : Int32) (φ2 : ph_T) (S2 : XS), f_Law_master Γ φ (some x1) (xs (p + 1)) (xs (p + 2)) (xs (p + 3)) (some x3) = some (nI cd, φa) ∧ f_Ref_master Γ φa x2 (xs (p + 1)) (xs (p + 2)) (xs (p + 3)) = some (v, φ2) ∧ f_Ref_thrown Γ φ2 x2 = some (nI cd, φ2) ∧ (cd = 0 ∨ ¬ nI cd = 0) ∧ (cd = 0 → ∃ φ5, φ2.2.1 x3 = ((fun v φ5 => uL φ5 x3 0 (Int32.toInt64 v)) v φ5).2.1 x3) ∧ LW Γ φ2 x1 x2 x3 S2 k := by
    unfold f_Law_master
    rw [Option.bind_some, if_pos h.c.lay.o]
    exact Face.law (fun v φ5 => uL φ5 x3 0 (Int32.toInt64 v)) h (q_master h.c hJ (xs (p + 1)) (xs (p + 2)) (xs (p + 3))) (hd1 IOB) (fun v φ5 => by simp only [Option.bind_some, h.o, i_01]) (fun v φ5 => fr_uL (Fr.refl _ _ _) (by omega) _ _)
  obtain ⟨φ', hφ'⟩ := hK φ2 S2 a6
  have fin : f_Law_law_L2021 Γ L xs K φ2 x1 x2 x3 (nI p) = some (1, φ') := by
    unfold f_Law_law_L2021
    rw [show nI p + (7 : Int32) = nI (p + 7) from zI_add p 7]
    exact hφ'
  refine ⟨φ', ?_⟩
  unfold f_Law_law_L340
  simp only [i1, i2, i3, Option.bind_some, a1, a2, a3, h.r.rl.o, if_true]
  rcases a4 with e | e
  · subst e
    obtain ⟨φ5, e5⟩ := a5 rfl
    rw [if_pos (show nI 0 = 0 from rfl), h.o, Option.bind_some, i_01, Option.bind_some, e5, uL_2, if_pos rfl, vz_same, lg_self, if_pos rfl]
    exact fin
  · rw [if_neg e]
    exact fin
theorem law_slave {Γ : gm_T} {φ : ph_T} {x1 x2 x3 : Nat} {S : XS} {k p L : Nat} {xs : Nat → Int32} {K : ph_T → Nat → Nat → Nat → Int32 → Option (Int32 × ph_T)} (h : LW Γ φ x1 x2 x3 S (k + 1000)) (hp : p + 7 ≤ L) (hL : L ≤ 3587) (hK : ∀ φ S, LW Γ φ x1 x2 x3 S k → ∃ φ', K φ x1 x2 x3 (nI (p + 7)) = some (1, φ')) : ∃ φ', f_Law_law_L511 Γ L xs K φ x1 x2 x3 (nI p) = some (1, φ') := by
  have hJ : JI k S := JI.lows 1000 h.j
  have i1 : ix (nI p + (1 : Int32)) L = some (p + 1) := ixp hp hL (show 1 < 7 by decide)
  have i2 : ix (nI p + (2 : Int32)) L = some (p + 2) := ixp hp hL (show 2 < 7 by decide)
  have i3 : ix (nI p + (3 : Int32)) L = some (p + 3) := ixp hp hL (show 3 < 7 by decide)
  obtain ⟨cd, φa, v, φ2, S2, a1, a2, a3, a4, a5, a6⟩ : ∃ (cd : Nat) (φa : ph_T) (v : Int32) (φ2 : ph_T) (S2 : XS), f_Law_slave Γ φ (some x1) (xs (p + 1)) (xs (p + 2)) (xs (p + 3)) (some x3) = some (nI cd, φa) ∧ f_Ref_slave Γ φa x2 (xs (p + 1)) (xs (p + 2)) (xs (p + 3)) = some (v, φ2) ∧ f_Ref_thrown Γ φ2 x2 = some (nI cd, φ2) ∧ (cd = 0 ∨ ¬ nI cd = 0) ∧ (cd = 0 → ∃ φ5, φ2.2.1 x3 = ((fun v φ5 => uL φ5 x3 0 (Int32.toInt64 v)) v φ5).2.1 x3) ∧ LW Γ φ2 x1 x2 x3 S2 k := by
    unfold f_Law_slave
    rw [Option.bind_some, if_pos h.c.lay.o]
    exact Face.law (fun v φ5 => uL φ5 x3 0 (Int32.toInt64 v)) h (q_slave h.c hJ (xs (p + 1)) (xs (p + 2)) (xs (p + 3))) (hd1 IOB) (fun v φ5 => by simp only [Option.bind_some, h.o, i_01]) (fun v φ5 => fr_uL (Fr.refl _ _ _) (by omega) _ _)
  obtain ⟨φ', hφ'⟩ := hK φ2 S2 a6
  have fin : f_Law_law_L2021 Γ L xs K φ2 x1 x2 x3 (nI p) = some (1, φ') := by
    unfold f_Law_law_L2021
    rw [show nI p + (7 : Int32) = nI (p + 7) from zI_add p 7]
    exact hφ'
  refine ⟨φ', ?_⟩
  unfold f_Law_law_L511
  simp only [i1, i2, i3, Option.bind_some, a1, a2, a3, h.r.rl.o, if_true]
  rcases a4 with e | e
  · subst e
    obtain ⟨φ5, e5⟩ := a5 rfl
    rw [if_pos (show nI 0 = 0 from rfl), h.o, Option.bind_some, i_01, Option.bind_some, e5, uL_2, if_pos rfl, vz_same, lg_self, if_pos rfl]
    exact fin
  · rw [if_neg e]
    exact fin
theorem law_way {Γ : gm_T} {φ : ph_T} {x1 x2 x3 : Nat} {S : XS} {k p L : Nat} {xs : Nat → Int32} {K : ph_T → Nat → Nat → Nat → Int32 → Option (Int32 × ph_T)} (h : LW Γ φ x1 x2 x3 S (k + 1000)) (hp : p + 7 ≤ L) (hL : L ≤ 3587) (hK : ∀ φ S, LW Γ φ x1 x2 x3 S k → ∃ φ', K φ x1 x2 x3 (nI (p + 7)) = some (1, φ')) : ∃ φ', f_Law_law_L591 Γ L xs K φ x1 x2 x3 (nI p) = some (1, φ') := by
  have hJ : JI k S := JI.lows 1000 h.j
  have i1 : ix (nI p + (1 : Int32)) L = some (p + 1) := ixp hp hL (show 1 < 7 by decide)
  have i2 : ix (nI p + (2 : Int32)) L = some (p + 2) := ixp hp hL (show 2 < 7 by decide)
  have i3 : ix (nI p + (3 : Int32)) L = some (p + 3) := ixp hp hL (show 3 < 7 by decide)
  obtain ⟨cd, φa, v, φ2, S2, a1, a2, a3, a4, a5, a6⟩ : ∃ (cd : Nat) (φa : ph_T) (v : Int32) (φ2 : ph_T) (S2 : XS), f_Law_way Γ φ (some x1) (xs (p + 1)) (xs (p + 2)) (xs (p + 3)) (some x3) = some (nI cd, φa) ∧ f_Ref_way Γ φa x2 (xs (p + 1)) (xs (p + 2)) (xs (p + 3)) = some (v, φ2) ∧ f_Ref_thrown Γ φ2 x2 = some (nI cd, φ2) ∧ (cd = 0 ∨ ¬ nI cd = 0) ∧ (cd = 0 → ∃ φ5, φ2.2.1 x3 = ((fun v φ5 => uL φ5 x3 0 (Int32.toInt64 v)) v φ5).2.1 x3) ∧ LW Γ φ2 x1 x2 x3 S2 k := by
    unfold f_Law_way
    rw [Option.bind_some, if_pos h.c.lay.o]
    exact Face.law (fun v φ5 => uL φ5 x3 0 (Int32.toInt64 v)) h (q_way h.c hJ (xs (p + 1)) (xs (p + 2)) (xs (p + 3))) (hd2 nb2) (fun v φ5 => by simp only [Option.bind_some, h.o, i_01]) (fun v φ5 => fr_uL (Fr.refl _ _ _) (by omega) _ _)
  obtain ⟨φ', hφ'⟩ := hK φ2 S2 a6
  have fin : f_Law_law_L2021 Γ L xs K φ2 x1 x2 x3 (nI p) = some (1, φ') := by
    unfold f_Law_law_L2021
    rw [show nI p + (7 : Int32) = nI (p + 7) from zI_add p 7]
    exact hφ'
  refine ⟨φ', ?_⟩
  unfold f_Law_law_L591
  simp only [i1, i2, i3, Option.bind_some, a1, a2, a3, h.r.rl.o, if_true]
  rcases a4 with e | e
  · subst e
    obtain ⟨φ5, e5⟩ := a5 rfl
    rw [if_pos (show nI 0 = 0 from rfl), h.o, Option.bind_some, i_01, Option.bind_some, e5, uL_2, if_pos rfl, vz_same, lg_self, if_pos rfl]
    exact fin
  · rw [if_neg e]
    exact fin
theorem law_poke {Γ : gm_T} {φ : ph_T} {x1 x2 x3 : Nat} {S : XS} {k p L : Nat} {xs : Nat → Int32} {K : ph_T → Nat → Nat → Nat → Int32 → Option (Int32 × ph_T)} (h : LW Γ φ x1 x2 x3 S (k + 1000)) (hp : p + 7 ≤ L) (hL : L ≤ 3587) (hK : ∀ φ S, LW Γ φ x1 x2 x3 S k → ∃ φ', K φ x1 x2 x3 (nI (p + 7)) = some (1, φ')) : ∃ φ', f_Law_law_L767 Γ L xs K φ x1 x2 x3 (nI p) = some (1, φ') := by
  have hJ : JI k S := JI.lows 1000 h.j
  have i1 : ix (nI p + (1 : Int32)) L = some (p + 1) := ixp hp hL (show 1 < 7 by decide)
  have i2 : ix (nI p + (2 : Int32)) L = some (p + 2) := ixp hp hL (show 2 < 7 by decide)
  obtain ⟨cd, φa, v, φ2, S2, a1, a2, a3, a4, a5, a6⟩ : ∃ (cd : Nat) (φa : ph_T) (v : Int32) (φ2 : ph_T) (S2 : XS), f_Law_poke Γ φ (some x1) (xs (p + 1)) (xs (p + 2)) (some x3) = some (nI cd, φa) ∧ f_Ref_poke Γ φa x2 (xs (p + 1)) (xs (p + 2)) = some (v, φ2) ∧ f_Ref_thrown Γ φ2 x2 = some (nI cd, φ2) ∧ (cd = 0 ∨ ¬ nI cd = 0) ∧ (cd = 0 → ∃ φ5, φ2.2.1 x3 = ((fun v φ5 => uL φ5 x3 0 (Int32.toInt64 v)) v φ5).2.1 x3) ∧ LW Γ φ2 x1 x2 x3 S2 k := by
    unfold f_Law_poke
    rw [Option.bind_some, if_pos h.c.lay.o]
    exact Face.law (fun v φ5 => uL φ5 x3 0 (Int32.toInt64 v)) h (q_poke h.c hJ (xs (p + 1)) (xs (p + 2))) (hd2 nb2) (fun v φ5 => by simp only [Option.bind_some, h.o, i_01]) (fun v φ5 => fr_uL (Fr.refl _ _ _) (by omega) _ _)
  obtain ⟨φ', hφ'⟩ := hK φ2 S2 a6
  have fin : f_Law_law_L2021 Γ L xs K φ2 x1 x2 x3 (nI p) = some (1, φ') := by
    unfold f_Law_law_L2021
    rw [show nI p + (7 : Int32) = nI (p + 7) from zI_add p 7]
    exact hφ'
  refine ⟨φ', ?_⟩
  unfold f_Law_law_L767
  simp only [i1, i2, Option.bind_some, a1, a2, a3, h.r.rl.o, if_true]
  rcases a4 with e | e
  · subst e
    obtain ⟨φ5, e5⟩ := a5 rfl
    rw [if_pos (show nI 0 = 0 from rfl), h.o, Option.bind_some, i_01, Option.bind_some, e5, uL_2, if_pos rfl, vz_same, lg_self, if_pos rfl]
    exact fin
  · rw [if_neg e]
    exact fin
theorem law_peek {Γ : gm_T} {φ : ph_T} {x1 x2 x3 : Nat} {S : XS} {k p L : Nat} {xs : Nat → Int32} {K : ph_T → Nat → Nat → Nat → Int32 → Option (Int32 × ph_T)} (h : LW Γ φ x1 x2 x3 S (k + 1000)) (hp : p + 7 ≤ L) (hL : L ≤ 3587) (hK : ∀ φ S, LW Γ φ x1 x2 x3 S k → ∃ φ', K φ x1 x2 x3 (nI (p + 7)) = some (1, φ')) : ∃ φ', f_Law_law_L835 Γ L xs K φ x1 x2 x3 (nI p) = some (1, φ') := by
  have hJ : JI k S := JI.lows 1000 h.j
  have i1 : ix (nI p + (1 : Int32)) L = some (p + 1) := ixp hp hL (show 1 < 7 by decide)
  obtain ⟨cd, φa, v, φ2, S2, a1, a2, a3, a4, a5, a6⟩ : ∃ (cd : Nat) (φa : ph_T) (v : Int32) (φ2 : ph_T) (S2 : XS), f_Law_peek Γ φ (some x1) (xs (p + 1)) (some x3) = some (nI cd, φa) ∧ f_Ref_peek Γ φa x2 (xs (p + 1)) = some (v, φ2) ∧ f_Ref_thrown Γ φ2 x2 = some (nI cd, φ2) ∧ (cd = 0 ∨ ¬ nI cd = 0) ∧ (cd = 0 → ∃ φ5, φ2.2.1 x3 = ((fun v φ5 => uL φ5 x3 0 (Int32.toInt64 v)) v φ5).2.1 x3) ∧ LW Γ φ2 x1 x2 x3 S2 k := by
    unfold f_Law_peek
    rw [Option.bind_some, if_pos h.c.lay.o]
    exact Face.law (fun v φ5 => uL φ5 x3 0 (Int32.toInt64 v)) h (q_peek h.c hJ (xs (p + 1))) (hd1 IOB) (fun v φ5 => by simp only [Option.bind_some, h.o, i_01]) (fun v φ5 => fr_uL (Fr.refl _ _ _) (by omega) _ _)
  obtain ⟨φ', hφ'⟩ := hK φ2 S2 a6
  have fin : f_Law_law_L2021 Γ L xs K φ2 x1 x2 x3 (nI p) = some (1, φ') := by
    unfold f_Law_law_L2021
    rw [show nI p + (7 : Int32) = nI (p + 7) from zI_add p 7]
    exact hφ'
  refine ⟨φ', ?_⟩
  unfold f_Law_law_L835
  simp only [i1, Option.bind_some, a1, a2, a3, h.r.rl.o, if_true]
  rcases a4 with e | e
  · subst e
    obtain ⟨φ5, e5⟩ := a5 rfl
    rw [if_pos (show nI 0 = 0 from rfl), h.o, Option.bind_some, i_01, Option.bind_some, e5, uL_2, if_pos rfl, vz_same, lg_self, if_pos rfl]
    exact fin
  · rw [if_neg e]
    exact fin
theorem law_tick {Γ : gm_T} {φ : ph_T} {x1 x2 x3 : Nat} {S : XS} {k p L : Nat} {xs : Nat → Int32} {K : ph_T → Nat → Nat → Nat → Int32 → Option (Int32 × ph_T)} (h : LW Γ φ x1 x2 x3 S (k + 1000)) (hp : p + 7 ≤ L) (hL : L ≤ 3587) (hK : ∀ φ S, LW Γ φ x1 x2 x3 S k → ∃ φ', K φ x1 x2 x3 (nI (p + 7)) = some (1, φ')) : ∃ φ', f_Law_law_L1029 Γ L xs K φ x1 x2 x3 (nI p) = some (1, φ') := by
  have hJ : JI k S := JI.lows 1000 h.j
  have i1 : ix (nI p + (1 : Int32)) L = some (p + 1) := ixp hp hL (show 1 < 7 by decide)
  obtain ⟨cd, φa, v, φ2, S2, a1, a2, a3, a4, a5, a6⟩ : ∃ (cd : Nat) (φa : ph_T) (v : Int32) (φ2 : ph_T) (S2 : XS), f_Law_tick Γ φ (some x1) (xs (p + 1)) (some x3) = some (nI cd, φa) ∧ f_Ref_tick Γ φa x2 (xs (p + 1)) = some (v, φ2) ∧ f_Ref_thrown Γ φ2 x2 = some (nI cd, φ2) ∧ (cd = 0 ∨ ¬ nI cd = 0) ∧ (cd = 0 → ∃ φ5, φ2.2.1 x3 = ((fun v φ5 => uL φ5 x3 0 (Int32.toInt64 v)) v φ5).2.1 x3) ∧ LW Γ φ2 x1 x2 x3 S2 k := by
    unfold f_Law_tick
    rw [Option.bind_some, if_pos h.c.lay.o]
    exact Face.law (fun v φ5 => uL φ5 x3 0 (Int32.toInt64 v)) h (q_tick h.c h.j (xs (p + 1))) (hd1 IAE) (fun v φ5 => by simp only [Option.bind_some, h.o, i_01]) (fun v φ5 => fr_uL (Fr.refl _ _ _) (by omega) _ _)
  obtain ⟨φ', hφ'⟩ := hK φ2 S2 a6
  have fin : f_Law_law_L2021 Γ L xs K φ2 x1 x2 x3 (nI p) = some (1, φ') := by
    unfold f_Law_law_L2021
    rw [show nI p + (7 : Int32) = nI (p + 7) from zI_add p 7]
    exact hφ'
  refine ⟨φ', ?_⟩
  unfold f_Law_law_L1029
  simp only [i1, Option.bind_some, a1, a2, a3, h.r.rl.o, if_true]
  rcases a4 with e | e
  · subst e
    obtain ⟨φ5, e5⟩ := a5 rfl
    rw [if_pos (show nI 0 = 0 from rfl), h.o, Option.bind_some, i_01, Option.bind_some, e5, uL_2, if_pos rfl, vz_same, lg_self, if_pos rfl]
    exact fin
  · rw [if_neg e]
    exact fin
theorem law_drain {Γ : gm_T} {φ : ph_T} {x1 x2 x3 : Nat} {S : XS} {k p L : Nat} {xs : Nat → Int32} {K : ph_T → Nat → Nat → Nat → Int32 → Option (Int32 × ph_T)} (h : LW Γ φ x1 x2 x3 S (k + 1000)) (hp : p + 7 ≤ L) (hL : L ≤ 3587) (hK : ∀ φ S, LW Γ φ x1 x2 x3 S k → ∃ φ', K φ x1 x2 x3 (nI (p + 7)) = some (1, φ')) : ∃ φ', f_Law_law_L1085 Γ L xs K φ x1 x2 x3 (nI p) = some (1, φ') := by
  have hJ : JI k S := JI.lows 1000 h.j
  have i1 : ix (nI p + (1 : Int32)) L = some (p + 1) := ixp hp hL (show 1 < 7 by decide)
  obtain ⟨cd, φa, v, φ2, S2, a1, a2, a3, a4, a5, a6⟩ : ∃ (cd : Nat) (φa : ph_T) (v : Int32) (φ2 : ph_T) (S2 : XS), f_Law_drain Γ φ (some x1) (xs (p + 1)) (some x3) = some (nI cd, φa) ∧ f_Ref_drain Γ φa x2 (xs (p + 1)) = some (v, φ2) ∧ f_Ref_thrown Γ φ2 x2 = some (nI cd, φ2) ∧ (cd = 0 ∨ ¬ nI cd = 0) ∧ (cd = 0 → ∃ φ5, φ2.2.1 x3 = ((fun v φ5 => uL φ5 x3 0 (Int32.toInt64 v)) v φ5).2.1 x3) ∧ LW Γ φ2 x1 x2 x3 S2 k := by
    unfold f_Law_drain
    rw [Option.bind_some, if_pos h.c.lay.o]
    exact Face.law (fun v φ5 => uL φ5 x3 0 (Int32.toInt64 v)) h (q_drain h.c h.j (xs (p + 1))) (hd1 IAE) (fun v φ5 => by simp only [Option.bind_some, h.o, i_01]) (fun v φ5 => fr_uL (Fr.refl _ _ _) (by omega) _ _)
  obtain ⟨φ', hφ'⟩ := hK φ2 S2 a6
  have fin : f_Law_law_L2021 Γ L xs K φ2 x1 x2 x3 (nI p) = some (1, φ') := by
    unfold f_Law_law_L2021
    rw [show nI p + (7 : Int32) = nI (p + 7) from zI_add p 7]
    exact hφ'
  refine ⟨φ', ?_⟩
  unfold f_Law_law_L1085
  simp only [i1, Option.bind_some, a1, a2, a3, h.r.rl.o, if_true]
  rcases a4 with e | e
  · subst e
    obtain ⟨φ5, e5⟩ := a5 rfl
    rw [if_pos (show nI 0 = 0 from rfl), h.o, Option.bind_some, i_01, Option.bind_some, e5, uL_2, if_pos rfl, vz_same, lg_self, if_pos rfl]
    exact fin
  · rw [if_neg e]
    exact fin
theorem law_ticket {Γ : gm_T} {φ : ph_T} {x1 x2 x3 : Nat} {S : XS} {k p L : Nat} {xs : Nat → Int32} {K : ph_T → Nat → Nat → Nat → Int32 → Option (Int32 × ph_T)} (h : LW Γ φ x1 x2 x3 S (k + 1000)) (hp : p + 7 ≤ L) (hL : L ≤ 3587) (hK : ∀ φ S, LW Γ φ x1 x2 x3 S k → ∃ φ', K φ x1 x2 x3 (nI (p + 7)) = some (1, φ')) : ∃ φ', f_Law_law_L1141 Γ L xs K φ x1 x2 x3 (nI p) = some (1, φ') := by
  have hJ : JI k S := JI.lows 1000 h.j
  have i1 : ix (nI p + (1 : Int32)) L = some (p + 1) := ixp hp hL (show 1 < 7 by decide)
  have i2 : ix (nI p + (2 : Int32)) L = some (p + 2) := ixp hp hL (show 2 < 7 by decide)
  obtain ⟨cd, φa, v, φ2, S2, a1, a2, a3, a4, a5, a6⟩ : ∃ (cd : Nat) (φa : ph_T) (v : Int32) (φ2 : ph_T) (S2 : XS), f_Law_ticket Γ φ (some x1) (xs (p + 1)) (xs (p + 2)) (some x3) = some (nI cd, φa) ∧ f_Ref_ticket Γ φa x2 (xs (p + 1)) (xs (p + 2)) = some (v, φ2) ∧ f_Ref_thrown Γ φ2 x2 = some (nI cd, φ2) ∧ (cd = 0 ∨ ¬ nI cd = 0) ∧ (cd = 0 → ∃ φ5, φ2.2.1 x3 = ((fun v φ5 => uL φ5 x3 0 (Int32.toInt64 v)) v φ5).2.1 x3) ∧ LW Γ φ2 x1 x2 x3 S2 k := by
    unfold f_Law_ticket
    rw [Option.bind_some, if_pos h.c.lay.o]
    exact Face.law (fun v φ5 => uL φ5 x3 0 (Int32.toInt64 v)) h (q_ticket h.c hJ (xs (p + 1)) (xs (p + 2))) (hd2 nb2) (fun v φ5 => by simp only [Option.bind_some, h.o, i_01]) (fun v φ5 => fr_uL (Fr.refl _ _ _) (by omega) _ _)
  obtain ⟨φ', hφ'⟩ := hK φ2 S2 a6
  have fin : f_Law_law_L2021 Γ L xs K φ2 x1 x2 x3 (nI p) = some (1, φ') := by
    unfold f_Law_law_L2021
    rw [show nI p + (7 : Int32) = nI (p + 7) from zI_add p 7]
    exact hφ'
  refine ⟨φ', ?_⟩
  unfold f_Law_law_L1141
  simp only [i1, i2, Option.bind_some, a1, a2, a3, h.r.rl.o, if_true]
  rcases a4 with e | e
  · subst e
    obtain ⟨φ5, e5⟩ := a5 rfl
    rw [if_pos (show nI 0 = 0 from rfl), h.o, Option.bind_some, i_01, Option.bind_some, e5, uL_2, if_pos rfl, vz_same, lg_self, if_pos rfl]
    exact fin
  · rw [if_neg e]
    exact fin
theorem law_data {Γ : gm_T} {φ : ph_T} {x1 x2 x3 : Nat} {S : XS} {k p L : Nat} {xs : Nat → Int32} {K : ph_T → Nat → Nat → Nat → Int32 → Option (Int32 × ph_T)} (h : LW Γ φ x1 x2 x3 S (k + 1000)) (hp : p + 7 ≤ L) (hL : L ≤ 3587) (hK : ∀ φ S, LW Γ φ x1 x2 x3 S k → ∃ φ', K φ x1 x2 x3 (nI (p + 7)) = some (1, φ')) : ∃ φ', f_Law_law_L1209 Γ L xs K φ x1 x2 x3 (nI p) = some (1, φ') := by
  have hJ : JI k S := JI.lows 1000 h.j
  have hbb : ∀ e ∈ S.tk, e.beats ≤ 16 := fun e he => by
    obtain ⟨t, ht⟩ := List.mem_iff_getElem?.mp he
    exact (h.r.tk.hbd t e ht).2.1
  have i1 : ix (nI p + (1 : Int32)) L = some (p + 1) := ixp hp hL (show 1 < 7 by decide)
  have i2 : ix (nI p + (2 : Int32)) L = some (p + 2) := ixp hp hL (show 2 < 7 by decide)
  obtain ⟨cd, φa, v, φ2, S2, a1, a2, a3, a4, a5, a6⟩ : ∃ (cd : Nat) (φa : ph_T) (v : Int64) (φ2 : ph_T) (S2 : XS), f_Law_data Γ φ (some x1) (xs (p + 1)) (xs (p + 2)) (some x3) = some (nI cd, φa) ∧ f_Ref_data Γ φa x2 (xs (p + 1)) (xs (p + 2)) = some (v, φ2) ∧ f_Ref_thrown Γ φ2 x2 = some (nI cd, φ2) ∧ (cd = 0 ∨ ¬ nI cd = 0) ∧ (cd = 0 → ∃ φ5, φ2.2.1 x3 = ((fun v φ5 => uL φ5 x3 0 v) v φ5).2.1 x3) ∧ LW Γ φ2 x1 x2 x3 S2 k := by
    unfold f_Law_data
    rw [Option.bind_some, if_pos h.c.lay.o]
    exact Face.law (fun v φ5 => uL φ5 x3 0 v) h (q_data h.c hJ hbb (xs (p + 1)) (xs (p + 2))) (hd1 IOB) (fun v φ5 => by simp only [Option.bind_some, h.o, i_01]) (fun v φ5 => fr_uL (Fr.refl _ _ _) (by omega) _ _)
  obtain ⟨φ', hφ'⟩ := hK φ2 S2 a6
  have fin : f_Law_law_L2021 Γ L xs K φ2 x1 x2 x3 (nI p) = some (1, φ') := by
    unfold f_Law_law_L2021
    rw [show nI p + (7 : Int32) = nI (p + 7) from zI_add p 7]
    exact hφ'
  refine ⟨φ', ?_⟩
  unfold f_Law_law_L1209
  simp only [i1, i2, Option.bind_some, a1, a2, a3, h.r.rl.o, if_true]
  rcases a4 with e | e
  · subst e
    obtain ⟨φ5, e5⟩ := a5 rfl
    rw [if_pos (show nI 0 = 0 from rfl), h.o, Option.bind_some, i_01, Option.bind_some, e5, uL_2, if_pos rfl, vz_same, lg_self, if_pos rfl]
    exact fin
  · rw [if_neg e]
    exact fin
theorem law_forget {Γ : gm_T} {φ : ph_T} {x1 x2 x3 : Nat} {S : XS} {k p L : Nat} {xs : Nat → Int32} {K : ph_T → Nat → Nat → Nat → Int32 → Option (Int32 × ph_T)} (h : LW Γ φ x1 x2 x3 S (k + 1000)) (hp : p + 7 ≤ L) (hL : L ≤ 3587) (hK : ∀ φ S, LW Γ φ x1 x2 x3 S k → ∃ φ', K φ x1 x2 x3 (nI (p + 7)) = some (1, φ')) : ∃ φ', f_Law_law_L1276 Γ L xs K φ x1 x2 x3 (nI p) = some (1, φ') := by
  have hJ : JI k S := JI.lows 1000 h.j
  obtain ⟨cd, φa, v, φ2, S2, a1, a2, a3, a4, a5, a6⟩ : ∃ (cd : Nat) (φa : ph_T) (v : Int32) (φ2 : ph_T) (S2 : XS), f_Law_forget Γ φ (some x1) (some x3) = some (nI cd, φa) ∧ f_Ref_forget Γ φa x2 = some (v, φ2) ∧ f_Ref_thrown Γ φ2 x2 = some (nI cd, φ2) ∧ (cd = 0 ∨ ¬ nI cd = 0) ∧ (cd = 0 → ∃ φ5, φ2.2.1 x3 = ((fun v φ5 => uL φ5 x3 0 (Int32.toInt64 v)) v φ5).2.1 x3) ∧ LW Γ φ2 x1 x2 x3 S2 k := by
    unfold f_Law_forget
    rw [Option.bind_some, if_pos h.c.lay.o]
    exact Face.law (fun v φ5 => uL φ5 x3 0 (Int32.toInt64 v)) h (q_forget h.c hJ) (hd1 ISE) (fun v φ5 => by simp only [Option.bind_some, h.o, i_01]) (fun v φ5 => fr_uL (Fr.refl _ _ _) (by omega) _ _)
  obtain ⟨φ', hφ'⟩ := hK φ2 S2 a6
  have fin : f_Law_law_L2021 Γ L xs K φ2 x1 x2 x3 (nI p) = some (1, φ') := by
    unfold f_Law_law_L2021
    rw [show nI p + (7 : Int32) = nI (p + 7) from zI_add p 7]
    exact hφ'
  refine ⟨φ', ?_⟩
  unfold f_Law_law_L1276
  simp only [Option.bind_some, a1, a2, a3, h.r.rl.o, if_true]
  rcases a4 with e | e
  · subst e
    obtain ⟨φ5, e5⟩ := a5 rfl
    rw [if_pos (show nI 0 = 0 from rfl), h.o, Option.bind_some, i_01, Option.bind_some, e5, uL_2, if_pos rfl, vz_same, lg_self, if_pos rfl]
    exact fin
  · rw [if_neg e]
    exact fin
theorem law_wire {Γ : gm_T} {φ : ph_T} {x1 x2 x3 : Nat} {S : XS} {k p L : Nat} {xs : Nat → Int32} {K : ph_T → Nat → Nat → Nat → Int32 → Option (Int32 × ph_T)} (h : LW Γ φ x1 x2 x3 S (k + 1000)) (hp : p + 7 ≤ L) (hL : L ≤ 3587) (hK : ∀ φ S, LW Γ φ x1 x2 x3 S k → ∃ φ', K φ x1 x2 x3 (nI (p + 7)) = some (1, φ')) : ∃ φ', f_Law_law_L1320 Γ L xs K φ x1 x2 x3 (nI p) = some (1, φ') := by
  have hJ : JI k S := JI.lows 1000 h.j
  have i1 : ix (nI p + (1 : Int32)) L = some (p + 1) := ixp hp hL (show 1 < 7 by decide)
  have i2 : ix (nI p + (2 : Int32)) L = some (p + 2) := ixp hp hL (show 2 < 7 by decide)
  have i3 : ix (nI p + (3 : Int32)) L = some (p + 3) := ixp hp hL (show 3 < 7 by decide)
  have i4 : ix (nI p + (4 : Int32)) L = some (p + 4) := ixp hp hL (show 4 < 7 by decide)
  obtain ⟨cd, φa, v, φ2, S2, a1, a2, a3, a4, a5, a6⟩ : ∃ (cd : Nat) (φa : ph_T) (v : Int32) (φ2 : ph_T) (S2 : XS), f_Law_wire Γ φ (some x1) (xs (p + 1)) (xs (p + 2)) (xs (p + 3)) (xs (p + 4)) (some x3) = some (nI cd, φa) ∧ f_Ref_wire Γ φa x2 (xs (p + 1)) (xs (p + 2)) (xs (p + 3)) (xs (p + 4)) = some (v, φ2) ∧ f_Ref_thrown Γ φ2 x2 = some (nI cd, φ2) ∧ (cd = 0 ∨ ¬ nI cd = 0) ∧ (cd = 0 → ∃ φ5, φ2.2.1 x3 = ((fun v φ5 => uL φ5 x3 0 (Int32.toInt64 v)) v φ5).2.1 x3) ∧ LW Γ φ2 x1 x2 x3 S2 k := by
    unfold f_Law_wire
    rw [Option.bind_some, if_pos h.c.lay.o]
    exact Face.law (fun v φ5 => uL φ5 x3 0 (Int32.toInt64 v)) h (q_wire h.c hJ (xs (p + 1)) (xs (p + 2)) (xs (p + 3)) (xs (p + 4))) (hd2 nb2) (fun v φ5 => by simp only [Option.bind_some, h.o, i_01]) (fun v φ5 => fr_uL (Fr.refl _ _ _) (by omega) _ _)
  obtain ⟨φ', hφ'⟩ := hK φ2 S2 a6
  have fin : f_Law_law_L2021 Γ L xs K φ2 x1 x2 x3 (nI p) = some (1, φ') := by
    unfold f_Law_law_L2021
    rw [show nI p + (7 : Int32) = nI (p + 7) from zI_add p 7]
    exact hφ'
  refine ⟨φ', ?_⟩
  unfold f_Law_law_L1320
  simp only [i1, i2, i3, i4, Option.bind_some, a1, a2, a3, h.r.rl.o, if_true]
  rcases a4 with e | e
  · subst e
    obtain ⟨φ5, e5⟩ := a5 rfl
    rw [if_pos (show nI 0 = 0 from rfl), h.o, Option.bind_some, i_01, Option.bind_some, e5, uL_2, if_pos rfl, vz_same, lg_self, if_pos rfl]
    exact fin
  · rw [if_neg e]
    exact fin
theorem law_content {Γ : gm_T} {φ : ph_T} {x1 x2 x3 : Nat} {S : XS} {k p L : Nat} {xs : Nat → Int32} {K : ph_T → Nat → Nat → Nat → Int32 → Option (Int32 × ph_T)} (h : LW Γ φ x1 x2 x3 S (k + 1000)) (hp : p + 7 ≤ L) (hL : L ≤ 3587) (hK : ∀ φ S, LW Γ φ x1 x2 x3 S k → ∃ φ', K φ x1 x2 x3 (nI (p + 7)) = some (1, φ')) : ∃ φ', f_Law_law_L1412 Γ L xs K φ x1 x2 x3 (nI p) = some (1, φ') := by
  have hJ : JI k S := JI.lows 1000 h.j
  have i1 : ix (nI p + (1 : Int32)) L = some (p + 1) := ixp hp hL (show 1 < 7 by decide)
  have i2 : ix (nI p + (2 : Int32)) L = some (p + 2) := ixp hp hL (show 2 < 7 by decide)
  have i3 : ix (nI p + (3 : Int32)) L = some (p + 3) := ixp hp hL (show 3 < 7 by decide)
  obtain ⟨cd, φa, v, φ2, S2, a1, a2, a3, a4, a5, a6⟩ : ∃ (cd : Nat) (φa : ph_T) (v : Int64) (φ2 : ph_T) (S2 : XS), f_Law_content Γ φ (some x1) (xs (p + 1)) (xs (p + 2)) (xs (p + 3)) (some x3) = some (nI cd, φa) ∧ f_Ref_content Γ φa x2 (xs (p + 1)) (xs (p + 2)) (xs (p + 3)) = some (v, φ2) ∧ f_Ref_thrown Γ φ2 x2 = some (nI cd, φ2) ∧ (cd = 0 ∨ ¬ nI cd = 0) ∧ (cd = 0 → ∃ φ5, φ2.2.1 x3 = ((fun v φ5 => uL φ5 x3 0 v) v φ5).2.1 x3) ∧ LW Γ φ2 x1 x2 x3 S2 k := by
    unfold f_Law_content
    rw [Option.bind_some, if_pos h.c.lay.o]
    exact Face.law (fun v φ5 => uL φ5 x3 0 v) h (q_content h.c hJ (xs (p + 1)) (xs (p + 2)) (xs (p + 3))) (hd1 IOB) (fun v φ5 => by simp only [Option.bind_some, h.o, i_01]) (fun v φ5 => fr_uL (Fr.refl _ _ _) (by omega) _ _)
  obtain ⟨φ', hφ'⟩ := hK φ2 S2 a6
  have fin : f_Law_law_L2021 Γ L xs K φ2 x1 x2 x3 (nI p) = some (1, φ') := by
    unfold f_Law_law_L2021
    rw [show nI p + (7 : Int32) = nI (p + 7) from zI_add p 7]
    exact hφ'
  refine ⟨φ', ?_⟩
  unfold f_Law_law_L1412
  simp only [i1, i2, i3, Option.bind_some, a1, a2, a3, h.r.rl.o, if_true]
  rcases a4 with e | e
  · subst e
    obtain ⟨φ5, e5⟩ := a5 rfl
    rw [if_pos (show nI 0 = 0 from rfl), h.o, Option.bind_some, i_01, Option.bind_some, e5, uL_2, if_pos rfl, vz_same, lg_self, if_pos rfl]
    exact fin
  · rw [if_neg e]
    exact fin
theorem law_port {Γ : gm_T} {φ : ph_T} {x1 x2 x3 : Nat} {S : XS} {k p L : Nat} {xs : Nat → Int32} {K : ph_T → Nat → Nat → Nat → Int32 → Option (Int32 × ph_T)} (h : LW Γ φ x1 x2 x3 S (k + 1000)) (hp : p + 7 ≤ L) (hL : L ≤ 3587) (hK : ∀ φ S, LW Γ φ x1 x2 x3 S k → ∃ φ', K φ x1 x2 x3 (nI (p + 7)) = some (1, φ')) : ∃ φ', f_Law_law_L1491 Γ L xs K φ x1 x2 x3 (nI p) = some (1, φ') := by
  have hJ : JI k S := JI.lows 1000 h.j
  have i1 : ix (nI p + (1 : Int32)) L = some (p + 1) := ixp hp hL (show 1 < 7 by decide)
  have i2 : ix (nI p + (2 : Int32)) L = some (p + 2) := ixp hp hL (show 2 < 7 by decide)
  have i3 : ix (nI p + (3 : Int32)) L = some (p + 3) := ixp hp hL (show 3 < 7 by decide)
  obtain ⟨cd, φa, v, φ2, S2, a1, a2, a3, a4, a5, a6⟩ : ∃ (cd : Nat) (φa : ph_T) (v : Int32) (φ2 : ph_T) (S2 : XS), f_Law_port Γ φ (some x1) (xs (p + 1)) (xs (p + 2)) (xs (p + 3)) (some x3) = some (nI cd, φa) ∧ f_Ref_port Γ φa x2 (xs (p + 1)) (xs (p + 2)) (xs (p + 3)) = some (v, φ2) ∧ f_Ref_thrown Γ φ2 x2 = some (nI cd, φ2) ∧ (cd = 0 ∨ ¬ nI cd = 0) ∧ (cd = 0 → ∃ φ5, φ2.2.1 x3 = ((fun v φ5 => uL φ5 x3 0 (Int32.toInt64 v)) v φ5).2.1 x3) ∧ LW Γ φ2 x1 x2 x3 S2 k := by
    unfold f_Law_port
    rw [Option.bind_some, if_pos h.c.lay.o]
    exact Face.law (fun v φ5 => uL φ5 x3 0 (Int32.toInt64 v)) h (q_port h.c hJ (xs (p + 1)) (xs (p + 2)) (xs (p + 3))) (hd2 nb2) (fun v φ5 => by simp only [Option.bind_some, h.o, i_01]) (fun v φ5 => fr_uL (Fr.refl _ _ _) (by omega) _ _)
  obtain ⟨φ', hφ'⟩ := hK φ2 S2 a6
  have fin : f_Law_law_L2021 Γ L xs K φ2 x1 x2 x3 (nI p) = some (1, φ') := by
    unfold f_Law_law_L2021
    rw [show nI p + (7 : Int32) = nI (p + 7) from zI_add p 7]
    exact hφ'
  refine ⟨φ', ?_⟩
  unfold f_Law_law_L1491
  simp only [i1, i2, i3, Option.bind_some, a1, a2, a3, h.r.rl.o, if_true]
  rcases a4 with e | e
  · subst e
    obtain ⟨φ5, e5⟩ := a5 rfl
    rw [if_pos (show nI 0 = 0 from rfl), h.o, Option.bind_some, i_01, Option.bind_some, e5, uL_2, if_pos rfl, vz_same, lg_self, if_pos rfl]
    exact fin
  · rw [if_neg e]
    exact fin
theorem law_target {Γ : gm_T} {φ : ph_T} {x1 x2 x3 : Nat} {S : XS} {k p L : Nat} {xs : Nat → Int32} {K : ph_T → Nat → Nat → Nat → Int32 → Option (Int32 × ph_T)} (h : LW Γ φ x1 x2 x3 S (k + 1000)) (hp : p + 7 ≤ L) (hL : L ≤ 3587) (hK : ∀ φ S, LW Γ φ x1 x2 x3 S k → ∃ φ', K φ x1 x2 x3 (nI (p + 7)) = some (1, φ')) : ∃ φ', f_Law_law_L1571 Γ L xs K φ x1 x2 x3 (nI p) = some (1, φ') := by
  have hJ : JI k S := JI.lows 1000 h.j
  have i1 : ix (nI p + (1 : Int32)) L = some (p + 1) := ixp hp hL (show 1 < 7 by decide)
  have i2 : ix (nI p + (2 : Int32)) L = some (p + 2) := ixp hp hL (show 2 < 7 by decide)
  obtain ⟨cd, φa, v, φ2, S2, a1, a2, a3, a4, a5, a6⟩ : ∃ (cd : Nat) (φa : ph_T) (v : Int32) (φ2 : ph_T) (S2 : XS), f_Law_target Γ φ (some x1) (xs (p + 1)) (xs (p + 2)) (some x3) = some (nI cd, φa) ∧ f_Ref_target Γ φa x2 (xs (p + 1)) (xs (p + 2)) = some (v, φ2) ∧ f_Ref_thrown Γ φ2 x2 = some (nI cd, φ2) ∧ (cd = 0 ∨ ¬ nI cd = 0) ∧ (cd = 0 → ∃ φ5, φ2.2.1 x3 = ((fun v φ5 => uL φ5 x3 0 (Int32.toInt64 v)) v φ5).2.1 x3) ∧ LW Γ φ2 x1 x2 x3 S2 k := by
    unfold f_Law_target
    rw [Option.bind_some, if_pos h.c.lay.o]
    exact Face.law (fun v φ5 => uL φ5 x3 0 (Int32.toInt64 v)) h (q_target h.c hJ (xs (p + 1)) (xs (p + 2))) (hd2 nb2) (fun v φ5 => by simp only [Option.bind_some, h.o, i_01]) (fun v φ5 => fr_uL (Fr.refl _ _ _) (by omega) _ _)
  obtain ⟨φ', hφ'⟩ := hK φ2 S2 a6
  have fin : f_Law_law_L2021 Γ L xs K φ2 x1 x2 x3 (nI p) = some (1, φ') := by
    unfold f_Law_law_L2021
    rw [show nI p + (7 : Int32) = nI (p + 7) from zI_add p 7]
    exact hφ'
  refine ⟨φ', ?_⟩
  unfold f_Law_law_L1571
  simp only [i1, i2, Option.bind_some, a1, a2, a3, h.r.rl.o, if_true]
  rcases a4 with e | e
  · subst e
    obtain ⟨φ5, e5⟩ := a5 rfl
    rw [if_pos (show nI 0 = 0 from rfl), h.o, Option.bind_some, i_01, Option.bind_some, e5, uL_2, if_pos rfl, vz_same, lg_self, if_pos rfl]
    exact fin
  · rw [if_neg e]
    exact fin
theorem law_right {Γ : gm_T} {φ : ph_T} {x1 x2 x3 : Nat} {S : XS} {k p L : Nat} {xs : Nat → Int32} {K : ph_T → Nat → Nat → Nat → Int32 → Option (Int32 × ph_T)} (h : LW Γ φ x1 x2 x3 S (k + 1000)) (hp : p + 7 ≤ L) (hL : L ≤ 3587) (hK : ∀ φ S, LW Γ φ x1 x2 x3 S k → ∃ φ', K φ x1 x2 x3 (nI (p + 7)) = some (1, φ')) : ∃ φ', f_Law_law_L1639 Γ L xs K φ x1 x2 x3 (nI p) = some (1, φ') := by
  have hJ : JI k S := JI.lows 1000 h.j
  have i1 : ix (nI p + (1 : Int32)) L = some (p + 1) := ixp hp hL (show 1 < 7 by decide)
  have i2 : ix (nI p + (2 : Int32)) L = some (p + 2) := ixp hp hL (show 2 < 7 by decide)
  obtain ⟨cd, φa, v, φ2, S2, a1, a2, a3, a4, a5, a6⟩ : ∃ (cd : Nat) (φa : ph_T) (v : Int32) (φ2 : ph_T) (S2 : XS), f_Law_right Γ φ (some x1) (xs (p + 1)) (xs (p + 2)) (some x3) = some (nI cd, φa) ∧ f_Ref_right Γ φa x2 (xs (p + 1)) (xs (p + 2)) = some (v, φ2) ∧ f_Ref_thrown Γ φ2 x2 = some (nI cd, φ2) ∧ (cd = 0 ∨ ¬ nI cd = 0) ∧ (cd = 0 → ∃ φ5, φ2.2.1 x3 = ((fun v φ5 => uL φ5 x3 0 (Int32.toInt64 v)) v φ5).2.1 x3) ∧ LW Γ φ2 x1 x2 x3 S2 k := by
    unfold f_Law_right
    rw [Option.bind_some, if_pos h.c.lay.o]
    exact Face.law (fun v φ5 => uL φ5 x3 0 (Int32.toInt64 v)) h (q_right h.c hJ (xs (p + 1)) (xs (p + 2))) (hd2 nb2) (fun v φ5 => by simp only [Option.bind_some, h.o, i_01]) (fun v φ5 => fr_uL (Fr.refl _ _ _) (by omega) _ _)
  obtain ⟨φ', hφ'⟩ := hK φ2 S2 a6
  have fin : f_Law_law_L2021 Γ L xs K φ2 x1 x2 x3 (nI p) = some (1, φ') := by
    unfold f_Law_law_L2021
    rw [show nI p + (7 : Int32) = nI (p + 7) from zI_add p 7]
    exact hφ'
  refine ⟨φ', ?_⟩
  unfold f_Law_law_L1639
  simp only [i1, i2, Option.bind_some, a1, a2, a3, h.r.rl.o, if_true]
  rcases a4 with e | e
  · subst e
    obtain ⟨φ5, e5⟩ := a5 rfl
    rw [if_pos (show nI 0 = 0 from rfl), h.o, Option.bind_some, i_01, Option.bind_some, e5, uL_2, if_pos rfl, vz_same, lg_self, if_pos rfl]
    exact fin
  · rw [if_neg e]
    exact fin
theorem law_judge {Γ : gm_T} {φ : ph_T} {x1 x2 x3 : Nat} {S : XS} {k p L : Nat} {xs : Nat → Int32} {K : ph_T → Nat → Nat → Nat → Int32 → Option (Int32 × ph_T)} (h : LW Γ φ x1 x2 x3 S (k + 1000)) (hp : p + 7 ≤ L) (hL : L ≤ 3587) (hK : ∀ φ S, LW Γ φ x1 x2 x3 S k → ∃ φ', K φ x1 x2 x3 (nI (p + 7)) = some (1, φ')) : ∃ φ', f_Law_law_L1850 Γ L xs K φ x1 x2 x3 (nI p) = some (1, φ') := by
  have hJ : JI k S := JI.lows 1000 h.j
  have i1 : ix (nI p + (1 : Int32)) L = some (p + 1) := ixp hp hL (show 1 < 7 by decide)
  obtain ⟨cd, φa, v, φ2, S2, a1, a2, a3, a4, a5, a6⟩ : ∃ (cd : Nat) (φa : ph_T) (v : Int32) (φ2 : ph_T) (S2 : XS), f_Law_judge Γ φ (some x1) (xs (p + 1)) (some x3) = some (nI cd, φa) ∧ f_Ref_judge Γ φa x2 (xs (p + 1)) = some (v, φ2) ∧ f_Ref_thrown Γ φ2 x2 = some (nI cd, φ2) ∧ (cd = 0 ∨ ¬ nI cd = 0) ∧ (cd = 0 → ∃ φ5, φ2.2.1 x3 = ((fun v φ5 => uL φ5 x3 0 (Int32.toInt64 v)) v φ5).2.1 x3) ∧ LW Γ φ2 x1 x2 x3 S2 k := by
    unfold f_Law_judge
    rw [Option.bind_some, if_pos h.c.lay.o]
    exact Face.law (fun v φ5 => uL φ5 x3 0 (Int32.toInt64 v)) h (q_judge h.c hJ (xs (p + 1))) (hd1 IOB) (fun v φ5 => by simp only [Option.bind_some, h.o, i_01]) (fun v φ5 => fr_uL (Fr.refl _ _ _) (by omega) _ _)
  obtain ⟨φ', hφ'⟩ := hK φ2 S2 a6
  have fin : f_Law_law_L2021 Γ L xs K φ2 x1 x2 x3 (nI p) = some (1, φ') := by
    unfold f_Law_law_L2021
    rw [show nI p + (7 : Int32) = nI (p + 7) from zI_add p 7]
    exact hφ'
  refine ⟨φ', ?_⟩
  unfold f_Law_law_L1850
  simp only [i1, Option.bind_some, a1, a2, a3, h.r.rl.o, if_true]
  rcases a4 with e | e
  · subst e
    obtain ⟨φ5, e5⟩ := a5 rfl
    rw [if_pos (show nI 0 = 0 from rfl), h.o, Option.bind_some, i_01, Option.bind_some, e5, uL_2, if_pos rfl, vz_same, lg_self, if_pos rfl]
    exact fin
  · rw [if_neg e]
    exact fin
theorem law_watched {Γ : gm_T} {φ : ph_T} {x1 x2 x3 : Nat} {S : XS} {k p L : Nat} {xs : Nat → Int32} {K : ph_T → Nat → Nat → Nat → Int32 → Option (Int32 × ph_T)} (h : LW Γ φ x1 x2 x3 S (k + 1000)) (hp : p + 7 ≤ L) (hL : L ≤ 3587) (hK : ∀ φ S, LW Γ φ x1 x2 x3 S k → ∃ φ', K φ x1 x2 x3 (nI (p + 7)) = some (1, φ')) : ∃ φ', f_Law_law_L1906 Γ L xs K φ x1 x2 x3 (nI p) = some (1, φ') := by
  have hJ : JI k S := JI.lows 1000 h.j
  have i1 : ix (nI p + (1 : Int32)) L = some (p + 1) := ixp hp hL (show 1 < 7 by decide)
  have i2 : ix (nI p + (2 : Int32)) L = some (p + 2) := ixp hp hL (show 2 < 7 by decide)
  obtain ⟨cd, φa, v, φ2, S2, a1, a2, a3, a4, a5, a6⟩ : ∃ (cd : Nat) (φa : ph_T) (v : Int32) (φ2 : ph_T) (S2 : XS), f_Law_watched Γ φ (some x1) (xs (p + 1)) (xs (p + 2)) (some x3) = some (nI cd, φa) ∧ f_Ref_watched Γ φa x2 (xs (p + 1)) (xs (p + 2)) = some (v, φ2) ∧ f_Ref_thrown Γ φ2 x2 = some (nI cd, φ2) ∧ (cd = 0 ∨ ¬ nI cd = 0) ∧ (cd = 0 → ∃ φ5, φ2.2.1 x3 = ((fun v φ5 => uL φ5 x3 0 (Int32.toInt64 v)) v φ5).2.1 x3) ∧ LW Γ φ2 x1 x2 x3 S2 k := by
    unfold f_Law_watched
    rw [Option.bind_some, if_pos h.c.lay.o]
    exact Face.law (fun v φ5 => uL φ5 x3 0 (Int32.toInt64 v)) h (q_watched h.c hJ (xs (p + 1)) (xs (p + 2))) (hd2 nb2) (fun v φ5 => by simp only [Option.bind_some, h.o, i_01]) (fun v φ5 => fr_uL (Fr.refl _ _ _) (by omega) _ _)
  obtain ⟨φ', hφ'⟩ := hK φ2 S2 a6
  have fin : f_Law_law_L2021 Γ L xs K φ2 x1 x2 x3 (nI p) = some (1, φ') := by
    unfold f_Law_law_L2021
    rw [show nI p + (7 : Int32) = nI (p + 7) from zI_add p 7]
    exact hφ'
  refine ⟨φ', ?_⟩
  unfold f_Law_law_L1906
  simp only [i1, i2, Option.bind_some, a1, a2, a3, h.r.rl.o, if_true]
  rcases a4 with e | e
  · subst e
    obtain ⟨φ5, e5⟩ := a5 rfl
    rw [if_pos (show nI 0 = 0 from rfl), h.o, Option.bind_some, i_01, Option.bind_some, e5, uL_2, if_pos rfl, vz_same, lg_self, if_pos rfl]
    exact fin
  · rw [if_neg e]
    exact fin
theorem law_request {Γ : gm_T} {φ : ph_T} {x1 x2 x3 : Nat} {S : XS} {k p L : Nat} {xs : Nat → Int32} {K : ph_T → Nat → Nat → Nat → Int32 → Option (Int32 × ph_T)} (h : LW Γ φ x1 x2 x3 S (k + 1000)) (hp : p + 7 ≤ L) (hL : L ≤ 3587) (hK : ∀ φ S, LW Γ φ x1 x2 x3 S k → ∃ φ', K φ x1 x2 x3 (nI (p + 7)) = some (1, φ')) : ∃ φ', f_Law_law_L891 Γ L xs K φ x1 x2 x3 (nI p) = some (1, φ') := by
  have hJ : JI k S := JI.lows 1000 h.j
  have i1 : ix (nI p + (1 : Int32)) L = some (p + 1) := ixp hp hL (show 1 < 7 by decide)
  have i2 : ix (nI p + (2 : Int32)) L = some (p + 2) := ixp hp hL (show 2 < 7 by decide)
  have i3 : ix (nI p + (3 : Int32)) L = some (p + 3) := ixp hp hL (show 3 < 7 by decide)
  have i4 : ix (nI p + (4 : Int32)) L = some (p + 4) := ixp hp hL (show 4 < 7 by decide)
  have i5 : ix (nI p + (5 : Int32)) L = some (p + 5) := ixp hp hL (show 5 < 7 by decide)
  have i6 : ix (nI p + (6 : Int32)) L = some (p + 6) := ixp hp hL (show 6 < 7 by decide)
  obtain ⟨cd, φa, v, φ2, S2, a1, a2, a3, a4, a5, a6⟩ : ∃ (cd : Nat) (φa : ph_T) (v : Int32) (φ2 : ph_T) (S2 : XS), f_Law_request Γ φ (some x1) (xs (p + 1)) (xs (p + 2)) (xs (p + 3)) (xs (p + 4)) (((Int32.toInt64 (xs (p + 5))) <<< (Int32.toInt64 (32 : Int32) &&& 63)) ||| ((Int32.toInt64 (xs (p + 6))) &&& (4294967295 : Int64))) (some x3) = some (nI cd, φa) ∧ f_Ref_request Γ φa x2 (xs (p + 1)) (xs (p + 2)) (xs (p + 3)) (xs (p + 4)) (((Int32.toInt64 (xs (p + 5))) <<< (Int32.toInt64 (32 : Int32) &&& 63)) ||| ((Int32.toInt64 (xs (p + 6))) &&& (4294967295 : Int64))) = some (v, φ2) ∧ f_Ref_thrown Γ φ2 x2 = some (nI cd, φ2) ∧ (cd = 0 ∨ ¬ nI cd = 0) ∧ (cd = 0 → ∃ φ5, φ2.2.1 x3 = ((fun v φ5 => uL φ5 x3 0 (Int32.toInt64 v)) v φ5).2.1 x3) ∧ LW Γ φ2 x1 x2 x3 S2 k := by
    unfold f_Law_request
    rw [Option.bind_some, if_pos h.c.lay.o]
    exact Face.law (fun v φ5 => uL φ5 x3 0 (Int32.toInt64 v)) h (q_request h.c hJ (xs (p + 1)) (xs (p + 2)) (xs (p + 3)) (xs (p + 4)) (((Int32.toInt64 (xs (p + 5))) <<< (Int32.toInt64 (32 : Int32) &&& 63)) ||| ((Int32.toInt64 (xs (p + 6))) &&& (4294967295 : Int64)))) (hd3 nb2 nb4 nb5) (fun v φ5 => by simp only [Option.bind_some, h.o, i_01]) (fun v φ5 => fr_uL (Fr.refl _ _ _) (by omega) _ _)
  obtain ⟨φ', hφ'⟩ := hK φ2 S2 a6
  have fin : f_Law_law_L2021 Γ L xs K φ2 x1 x2 x3 (nI p) = some (1, φ') := by
    unfold f_Law_law_L2021
    rw [show nI p + (7 : Int32) = nI (p + 7) from zI_add p 7]
    exact hφ'
  refine ⟨φ', ?_⟩
  unfold f_Law_law_L891
  simp only [i1, i2, i3, i4, i5, i6, Option.bind_some, a1, a2, a3, h.r.rl.o, if_true]
  rcases a4 with e | e
  · subst e
    obtain ⟨φ5, e5⟩ := a5 rfl
    rw [if_pos (show nI 0 = 0 from rfl), h.o, Option.bind_some, i_01, Option.bind_some, e5, uL_2, if_pos rfl, vz_same, lg_self, if_pos rfl]
    exact fin
  · rw [if_neg e]
    exact fin
theorem law_see {Γ : gm_T} {φ : ph_T} {x1 x2 x3 : Nat} {S : XS} {k p L : Nat} {xs : Nat → Int32} {K : ph_T → Nat → Nat → Nat → Int32 → Option (Int32 × ph_T)} (h : LW Γ φ x1 x2 x3 S (k + 1000)) (hp : p + 7 ≤ L) (hL : L ≤ 3587) (hK : ∀ φ S, LW Γ φ x1 x2 x3 S k → ∃ φ', K φ x1 x2 x3 (nI (p + 7)) = some (1, φ')) : ∃ φ', f_Law_law_L1732 Γ L xs K φ x1 x2 x3 (nI p) = some (1, φ') := by
  have hJ : JI k S := JI.lows 1000 h.j
  have i1 : ix (nI p + (1 : Int32)) L = some (p + 1) := ixp hp hL (show 1 < 7 by decide)
  have i2 : ix (nI p + (2 : Int32)) L = some (p + 2) := ixp hp hL (show 2 < 7 by decide)
  have i3 : ix (nI p + (3 : Int32)) L = some (p + 3) := ixp hp hL (show 3 < 7 by decide)
  have i4 : ix (nI p + (4 : Int32)) L = some (p + 4) := ixp hp hL (show 4 < 7 by decide)
  have i5 : ix (nI p + (5 : Int32)) L = some (p + 5) := ixp hp hL (show 5 < 7 by decide)
  have i6 : ix (nI p + (6 : Int32)) L = some (p + 6) := ixp hp hL (show 6 < 7 by decide)
  obtain ⟨cd, φa, v, φ2, S2, a1, a2, a3, a4, a5, a6⟩ : ∃ (cd : Nat) (φa : ph_T) (v : Unit) (φ2 : ph_T) (S2 : XS), f_Law_see Γ φ (some x1) (xs (p + 1)) (xs (p + 2)) (xs (p + 3)) (((Int32.toInt64 (xs (p + 4))) <<< (Int32.toInt64 (32 : Int32) &&& 63)) ||| ((Int32.toInt64 (xs (p + 5))) &&& (4294967295 : Int64))) (xs (p + 6)) = some (nI cd, φa) ∧ f_Ref_see Γ φa x2 (xs (p + 1)) (xs (p + 2)) (xs (p + 3)) (((Int32.toInt64 (xs (p + 4))) <<< (Int32.toInt64 (32 : Int32) &&& 63)) ||| ((Int32.toInt64 (xs (p + 5))) &&& (4294967295 : Int64))) (xs (p + 6)) = some (v, φ2) ∧ f_Ref_thrown Γ φ2 x2 = some (nI cd, φ2) ∧ (cd = 0 ∨ ¬ nI cd = 0) ∧ (cd = 0 → ∃ φ5, φ2.2.1 x3 = ((fun (_ : Unit) (φ5 : ph_T) => φ5) v φ5).2.1 x3) ∧ LW Γ φ2 x1 x2 x3 S2 k := by
    unfold f_Law_see
    rw [Option.bind_some, if_pos h.c.lay.o]
    exact Face.law (fun (_ : Unit) (φ5 : ph_T) => φ5) h (q_see h.c hJ (xs (p + 1)) (xs (p + 2)) (xs (p + 3)) (((Int32.toInt64 (xs (p + 4))) <<< (Int32.toInt64 (32 : Int32) &&& 63)) ||| ((Int32.toInt64 (xs (p + 5))) &&& (4294967295 : Int64))) (xs (p + 6))) (hd2 nb2) (fun v φ5 => rfl) (fun v φ5 => Fr.refl _ _ _)
  obtain ⟨φ', hφ'⟩ := hK φ2 S2 a6
  have fin : f_Law_law_L2021 Γ L xs K φ2 x1 x2 x3 (nI p) = some (1, φ') := by
    unfold f_Law_law_L2021
    rw [show nI p + (7 : Int32) = nI (p + 7) from zI_add p 7]
    exact hφ'
  refine ⟨φ', ?_⟩
  unfold f_Law_law_L1732
  simp only [i1, i2, i3, i4, i5, i6, Option.bind_some, a1, a2, a3, h.r.rl.o, if_true]
  exact fin
theorem law_again {Γ : gm_T} {φ : ph_T} {x1 x2 x3 : Nat} {S : XS} {k p L : Nat} {xs : Nat → Int32} {K : ph_T → Nat → Nat → Nat → Int32 → Option (Int32 × ph_T)} (h : LW Γ φ x1 x2 x3 S (k + 1000)) (hp : p + 7 ≤ L) (hL : L ≤ 3587) (hK : ∀ φ S, LW Γ φ x1 x2 x3 S k → ∃ φ', K φ x1 x2 x3 (nI (p + 7)) = some (1, φ')) : ∃ φ', f_Law_law_L1974 Γ L xs K φ x1 x2 x3 (nI p) = some (1, φ') := by
  have hJ : JI k S := JI.lows 1000 h.j
  have i1 : ix (nI p + (1 : Int32)) L = some (p + 1) := ixp hp hL (show 1 < 7 by decide)
  obtain ⟨cd, φa, v, φ2, S2, a1, a2, a3, a4, a5, a6⟩ : ∃ (cd : Nat) (φa : ph_T) (v : Unit) (φ2 : ph_T) (S2 : XS), f_Law_again Γ φ (some x1) (xs (p + 1)) = some (nI cd, φa) ∧ f_Ref_again Γ φa x2 (xs (p + 1)) = some (v, φ2) ∧ f_Ref_thrown Γ φ2 x2 = some (nI cd, φ2) ∧ (cd = 0 ∨ ¬ nI cd = 0) ∧ (cd = 0 → ∃ φ5, φ2.2.1 x3 = ((fun (_ : Unit) (φ5 : ph_T) => φ5) v φ5).2.1 x3) ∧ LW Γ φ2 x1 x2 x3 S2 k := by
    unfold f_Law_again
    rw [Option.bind_some, if_pos h.c.lay.o]
    exact Face.law (fun (_ : Unit) (φ5 : ph_T) => φ5) h (q_again h.c hJ (xs (p + 1))) (hd1 IOB) (fun v φ5 => rfl) (fun v φ5 => Fr.refl _ _ _)
  obtain ⟨φ', hφ'⟩ := hK φ2 S2 a6
  have fin : f_Law_law_L2021 Γ L xs K φ2 x1 x2 x3 (nI p) = some (1, φ') := by
    unfold f_Law_law_L2021
    rw [show nI p + (7 : Int32) = nI (p + 7) from zI_add p 7]
    exact hφ'
  refine ⟨φ', ?_⟩
  unfold f_Law_law_L1974
  simp only [i1, Option.bind_some, a1, a2, a3, h.r.rl.o, if_true]
  exact fin
