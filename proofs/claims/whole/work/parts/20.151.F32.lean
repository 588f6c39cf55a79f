/-! THE LAW: its loop -/
theorem nI_l7 {L p : Nat} (hL : L ≤ 3587) (hp : p ≤ 4000) : nI L - (7 : Int32) < nI p ↔ L < p + 7 := by
  rw [Int32.lt_iff_toInt_lt, Int32.toInt_sub, zI_toInt (by omega), zI_toInt (by omega), show (7 : Int32).toInt = 7 from by decide, Int.bmod_eq_of_le (by omega) (by omega)]
  omega
theorem law_loop {Γ : gm_T} {L x1 x2 x3 : Nat} {xs : Nat → Int32} (hL : L ≤ 3587) : ∀ (fu : Nat) (φ : ph_T) (S : XS) (p : Nat), fu ≤ 514 → p ≤ 3590 → L < p + 7 * (fu + 1) → LW Γ φ x1 x2 x3 S (1000 * fu) → ∃ φ', f_Law_law_L53 Γ L xs (fu + 1) φ x1 x2 x3 (nI p) = some (1, φ') := by
  intro fu
  induction fu with
  | zero =>
    intro φ S p hf hp hlt h
    refine ⟨φ, ?_⟩
    rw [f_Law_law_L53, if_pos ((nI_l7 hL (by omega)).mpr (by omega)), if_pos (by decide)]
  | succ fu ih =>
    intro φ S p hf hp hlt h
    by_cases hc : L < p + 7
    · refine ⟨φ, ?_⟩
      rw [f_Law_law_L53, if_pos ((nI_l7 hL (by omega)).mpr hc), if_pos (by decide)]
    · have h' : LW Γ φ x1 x2 x3 S (1000 * fu + 1000) := h
      have hp7 : p + 7 ≤ L := by omega
      have hK : ∀ φ S, LW Γ φ x1 x2 x3 S (1000 * fu) → ∃ φ', f_Law_law_L53 Γ L xs (fu + 1) φ x1 x2 x3 (nI (p + 7)) = some (1, φ') := fun φ S hh => ih φ S (p + 7) (by omega) (by omega) (by omega) hh
      rw [f_Law_law_L53, if_neg (fun hh => hc ((nI_l7 hL (by omega)).mp hh)), zix (by omega) (by omega), Option.bind_some]
      by_cases c0 : (xs p &&& (31 : Int32)) = 0
      · rw [if_pos c0]
        exact law_map h' hp7 hL hK
      rw [if_neg c0]
      by_cases c1 : (xs p &&& (31 : Int32)) = 1
      · rw [if_pos c1]
        exact law_policy h' hp7 hL hK
      rw [if_neg c1]
      by_cases c2 : (xs p &&& (31 : Int32)) = 2
      · rw [if_pos c2]
        exact law_master h' hp7 hL hK
      rw [if_neg c2]
      by_cases c3 : (xs p &&& (31 : Int32)) = 3
      · rw [if_pos c3]
        exact law_early h' hp7 hL hK
      rw [if_neg c3]
      by_cases c4 : (xs p &&& (31 : Int32)) = 4
      · rw [if_pos c4]
        exact law_slave h' hp7 hL hK
      rw [if_neg c4]
      by_cases c5 : (xs p &&& (31 : Int32)) = 5
      · rw [if_pos c5]
        exact law_way h' hp7 hL hK
      rw [if_neg c5]
      by_cases c6 : (xs p &&& (31 : Int32)) = 6
      · rw [if_pos c6]
        exact law_spoil h' hp7 hL hK
      rw [if_neg c6]
      by_cases c7 : (xs p &&& (31 : Int32)) = 7
      · rw [if_pos c7]
        exact law_poke h' hp7 hL hK
      rw [if_neg c7]
      by_cases c8 : (xs p &&& (31 : Int32)) = 8
      · rw [if_pos c8]
        exact law_peek h' hp7 hL hK
      rw [if_neg c8]
      by_cases c9 : (xs p &&& (31 : Int32)) = 9
      · rw [if_pos c9]
        exact law_request h' hp7 hL hK
      rw [if_neg c9]
      by_cases c10 : (xs p &&& (31 : Int32)) = 10
      · rw [if_pos c10]
        exact law_tick h' hp7 hL hK
      rw [if_neg c10]
      by_cases c11 : (xs p &&& (31 : Int32)) = 11
      · rw [if_pos c11]
        exact law_drain h' hp7 hL hK
      rw [if_neg c11]
      by_cases c12 : (xs p &&& (31 : Int32)) = 12
      · rw [if_pos c12]
        exact law_ticket h' hp7 hL hK
      rw [if_neg c12]
      by_cases c13 : (xs p &&& (31 : Int32)) = 13
      · rw [if_pos c13]
        exact law_data h' hp7 hL hK
      rw [if_neg c13]
      by_cases c14 : (xs p &&& (31 : Int32)) = 14
      · rw [if_pos c14]
        exact law_forget h' hp7 hL hK
      rw [if_neg c14]
      by_cases c15 : (xs p &&& (31 : Int32)) = 15
      · rw [if_pos c15]
        exact law_wire h' hp7 hL hK
      rw [if_neg c15]
      by_cases c16 : (xs p &&& (31 : Int32)) = 16
      · rw [if_pos c16]
        exact law_content h' hp7 hL hK
      rw [if_neg c16]
      by_cases c17 : (xs p &&& (31 : Int32)) = 17
      · rw [if_pos c17]
        exact law_port h' hp7 hL hK
      rw [if_neg c17]
      by_cases c18 : (xs p &&& (31 : Int32)) = 18
      · rw [if_pos c18]
        exact law_target h' hp7 hL hK
      rw [if_neg c18]
      by_cases c19 : (xs p &&& (31 : Int32)) = 19
      · rw [if_pos c19]
        exact law_right h' hp7 hL hK
      rw [if_neg c19]
      by_cases c20 : (xs p &&& (31 : Int32)) = 20
      · rw [if_pos c20]
        exact law_told h' hp7 hL hK
      rw [if_neg c20]
      by_cases c21 : (xs p &&& (31 : Int32)) = 21
      · rw [if_pos c21]
        exact law_see h' hp7 hL hK
      rw [if_neg c21]
      by_cases c22 : (xs p &&& (31 : Int32)) = 22
      · rw [if_pos c22]
        exact law_judge h' hp7 hL hK
      rw [if_neg c22]
      by_cases c23 : (xs p &&& (31 : Int32)) = 23
      · rw [if_pos c23]
        exact law_watched h' hp7 hL hK
      rw [if_neg c23]
      by_cases c24 : (xs p &&& (31 : Int32)) = 24
      · rw [if_pos c24]
        exact law_again h' hp7 hL hK
      rw [if_neg c24]
      by_cases c25 : (xs p &&& (31 : Int32)) = 25
      · rw [if_pos c25]
        exact law_clear h' hp7 hL hK (by omega)
      rw [if_neg c25]
      exact law_skip h' hp7 hL hK
