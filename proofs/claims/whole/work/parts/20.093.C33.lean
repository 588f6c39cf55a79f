/-! THE CLASS: a port's wires are told and looked at -/
def tmW (S : XS) (m : Nat) (x : WI) (k : Nat) : WV := if 0 ≤ k ∧ (k = 2 ∨ k = 4) then (match S.row (5 * m + k) with
  | [] => x.w k
  | e :: _ => ⟨true, e.c, e.r⟩) else x.w k
def tmR (S : XS) (m : Nat) (x : WI) (k : Nat) : Bool := if 0 ≤ k ∧ ¬ (k = 2 ∨ k = 4) then S.hasRm (5 * m + k) else x.rd k
theorem wiM {S : XS} {m : Nat} (hR : ∀ c, c = 2 ∨ c = 4 → hdW (S.wi m) c = true → S.row (5 * m + c) ≠ []) (c : Nat) (hc : c < 5) :
    (S.showM m).w c = tmW S m (tlM S m (hdW (S.wi m)) (S.wi m).beg) c ∧ (S.showM m).rd c = tmR S m (tlM S m (hdW (S.wi m)) (S.wi m).beg) c := by
  -- the parts of tlM
  have adr : ∀ (o : Option TK) (on_ : Bool) (h : Bool) (x : WI) (k c : Nat), (adrH o on_ h x k).w c = (if c = k then (if h = true then x.w k else match o with
      | some t => if on_ = true then ⟨true, t.con, 0⟩ else x.w k
      | none => x.w k) else x.w c) ∧ (adrH o on_ h x k).rd c = x.rd c := by
    intro o on_ h x k c
    unfold adrH
    cases h with
    | true => simp only [if_true]; by_cases e : c = k <;> simp [e]
    | false =>
      simp only [Bool.false_eq_true, if_false]
      cases o with
      | none => by_cases e : c = k <;> simp [e]
      | some t =>
        cases on_ with
        | true => simp only [if_true, WI.snd', WI.w_mk, WI.rd_mk, WI.w_w_w, WI.w_w_rd, WI.rd_w_w, WI.rd_w_rd, vz_at]; by_cases e : c = k <;> simp [e]
        | false => simp only [Bool.false_eq_true, if_false]; by_cases e : c = k <;> simp [e]
  have dat : ∀ (o : Option TK) (on_ ea : Bool) (h : Bool) (x : WI) (c : Nat), (datH o on_ ea h x).w c = (if c = 1 then (if h = true then x.w 1 else match o with
      | some t => if on_ = true ∧ (ea = true ∨ t.sent ≠ m1) then ⟨true, t.dat t.beats, t.rst t.beats⟩ else x.w 1
      | none => x.w 1) else x.w c) ∧ (datH o on_ ea h x).rd c = x.rd c := by
    intro o on_ ea h x c
    unfold datH
    cases h with
    | true => simp only [if_true]; by_cases e : c = 1 <;> simp [e]
    | false =>
      simp only [Bool.false_eq_true, if_false]
      cases o with
      | none => by_cases e : c = 1 <;> simp [e]
      | some t =>
        by_cases hq : on_ = true ∧ (ea = true ∨ t.sent ≠ m1)
        · simp only [if_pos hq, WI.snd', WI.w_mk, WI.rd_mk, WI.w_w_w, WI.w_w_rd, WI.rd_w_w, WI.rd_w_rd, vz_at]; by_cases e : c = 1 <;> simp [e]
        · simp only [if_neg hq]; by_cases e : c = 1 <;> simp [e]
  have hbw : ∀ c, (S.wi m).beg.w c = if hdW (S.wi m) c = true then (S.wi m).w c else WV0 := fun c => rfl
  have hc5 : c = 0 ∨ c = 1 ∨ c = 2 ∨ c = 3 ∨ c = 4 := by omega
  unfold XS.showM tmW tmR tlM
  simp only [WI.rdy, WI.w_mk, WI.rd_mk, WI.w_w_w, WI.w_w_rd, WI.rd_w_w, WI.rd_w_rd, vz_at]
  rcases hc5 with rfl | rfl | rfl | rfl | rfl
  · refine ⟨?_, rfl⟩
    simp only [(adr _ _ _ _ _ _).1, (dat _ _ _ _ _ _).1, hbw]
    unfold XS.adrW
    cases hh : hdW (S.wi m) 0 <;> simp
    cases S.tk.find? (isUns m true) <;> simp
  · refine ⟨?_, rfl⟩
    simp only [(adr _ _ _ _ _ _).1, (dat _ _ _ _ _ _).1, hbw]
    unfold XS.datW
    cases hh : hdW (S.wi m) 1 <;> simp
    cases S.tk.find? (isUnf m) <;> simp
  · refine ⟨?_, rfl⟩
    simp only [(adr _ _ _ _ _ _).1, (dat _ _ _ _ _ _).1, hbw]
    cases hr : S.row (5 * m + 2) with
    | nil =>
      cases hh : hdW (S.wi m) 2 with
      | true => exact absurd hr (hR 2 (Or.inl rfl) hh)
      | false => simp [rowW]
    | cons e l => simp [rowW]
  · refine ⟨?_, rfl⟩
    simp only [(adr _ _ _ _ _ _).1, (dat _ _ _ _ _ _).1, hbw]
    unfold XS.adrW
    cases hh : hdW (S.wi m) 3 <;> simp
    cases S.tk.find? (isUns m false) <;> simp
  · refine ⟨?_, rfl⟩
    simp only [(adr _ _ _ _ _ _).1, (dat _ _ _ _ _ _).1, hbw]
    cases hr : S.row (5 * m + 4) with
    | nil =>
      cases hh : hdW (S.wi m) 4 with
      | true => exact absurd hr (hR 4 (Or.inr rfl) hh)
      | false => simp [rowW]
    | cons e l => simp [rowW]
