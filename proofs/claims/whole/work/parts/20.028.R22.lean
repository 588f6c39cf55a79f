/-! THE REFERENCE's watch -/
def kMo : List Nat := [72, 73, 74, 75, 76, 77, 78, 79, 80, 81, 82, 83, 84, 85, 86, 87]
theorem r_rest {Γ : gm_T} {φ : ph_T} {r : Nat} {S : XS} (h : RV Γ φ r S) {p c : Nat} (hp : p < 10) (hc : c < 5) : (p < 8 → Option.bind (φ.2.2 r 36) (fun a => Option.bind (gA Γ a 0) fun N => Option.bind (ix (nI (frW p + c)) N) fun k => some (φ.1 a k)) = some ((S.wi p).w c).r) := by
  intro h8
  have q := (r_wire h hp hc).1 h8
  unfold frW
  simp (disch := first | assumption | omega) only [h8, if_true, h.rl.o, rf_36 h.rl, rg_36 h.rl, rf_86 h.rl, rg_86 h.rl, rf_101 h.rl, rg_101 h.rl, Option.bind_some, zix, q]
theorem mon_setM_wi (S : XS) (p : Nat) (o : MO) : (S.setM p o).wi = S.wi := rfl
theorem note_rs (o : MO) (x c : Nat) : (o.note x c).rs = o.rs := by unfold MO.note; split <;> rfl
/-- the fifth step: data -/
theorem r_go171 {Γ : gm_T} {φ : ph_T} {r : Nat} {S : XS} (h : RV Γ φ r S) {p : Nat} (hp : p < 10) :
    ∃ φ', f_Ref_go_L171 Γ φ r (nI p) (nI (frW p)) (bI (tdW p)) = some ((), φ') ∧ RV Γ φ' r (S.setM p ((S.mon p).go5 (S.wi p))) ∧ RFr r kMo φ φ' := by
  have hm := h.mo p hp
  have e1 : φ.1 (r + 76) p = nI (S.mon p).rule := hm.rul
  have hrl := hm.rl
  have hgo := r_goes h hp (c := 1) (by omega)
  have hw := r_wire h hp (c := 1) (by omega)
  have hfr : frW p < 40 := by unfold frW; split <;> omega
  unfold f_Ref_go_L171 f_Ref_go_L216 f_Ref_go_L219 MO.go5
  simp (disch := first | assumption | omega) only [rf_86 h.rl, rg_86 h.rl, h.rl.o, Option.bind_some, if_true, zix, e1, zI_lit, zI_eq, zI_add, hgo, bI_eq0]
  by_cases h0 : (S.mon p).rule = 0
  · rw [if_pos h0]
    cases hv : mvW (S.wi p) 1 with
    | false =>
      simp only [if_true, h0, Bool.false_eq_true, and_false, if_false]
      exact ⟨φ, rfl, by rw [setM_self]; exact h, RFr.refl _ _ _⟩
    | true =>
      simp only [Bool.true_eq_false, if_false, h0, and_self, if_true]
      obtain ⟨φ', b1, b2, b3⟩ := r_goW h hp ((S.wi p).w 1).r
      refine ⟨φ', ?_, b2, b3.mono (by decide)⟩
      by_cases h8 : p < 8
      · have q := hw.1 h8
        have f5 : frW p = 5 * p := by unfold frW; rw [if_pos h8]
        have t5 : tdW p = false := by unfold tdW; simp [h8]
        rw [t5, f5]
        simp (disch := first | assumption | omega) only [if_true, rf_36 h.rl, rg_36 h.rl, Option.bind_some, zix, q, b1]
      · have q := hw.2 (by omega)
        have f5 : frW p = 5 * (p - 8) := by unfold frW; rw [if_neg h8]
        have t5 : tdW p = true := by unfold tdW; simp [h8]
        rw [t5, f5]
        simp (disch := first | assumption | omega) only [Bool.true_eq_false, if_false, rf_101 h.rl, rg_101 h.rl, Option.bind_some, zix, q, b1]
  · rw [if_neg h0, if_neg (fun hc => h0 hc.1)]
    exact ⟨φ, rfl, by rw [setM_self]; exact h, RFr.refl _ _ _⟩
/-- the fourth: an address for writing -/
theorem r_go123 {Γ : gm_T} {φ : ph_T} {r : Nat} {S : XS} (h : RV Γ φ r S) {p : Nat} (hp : p < 10) (hki : (S.mon p).rule = 0 → mvW (S.wi p) 0 = true → kiN ((S.wi p).w 0).c ≠ 3) :
    ∃ φ', f_Ref_go_L123 Γ φ r (nI p) (nI (frW p)) (bI (tdW p)) = some ((), φ') ∧ RV Γ φ' r (S.setM p (((S.mon p).go4 (S.wi p)).go5 (S.wi p))) ∧ RFr r kMo φ φ' := by
  have hm := h.mo p hp
  have e1 : φ.1 (r + 76) p = nI (S.mon p).rule := hm.rul
  have hrl := hm.rl
  have hgo := r_goes h hp (c := 0) (by omega)
  have hw := r_wire h hp (c := 0) (by omega)
  have hfr : frW p < 40 := by unfold frW; split <;> omega
  have h5 := r_go171 h hp
  unfold f_Ref_go_L123 f_Ref_go_L168 MO.go4
  simp (disch := first | assumption | omega) only [rf_86 h.rl, rg_86 h.rl, h.rl.o, Option.bind_some, if_true, zix, e1, zI_lit, zI_eq, zI_add, hgo, bI_eq0]
  by_cases h0 : (S.mon p).rule = 0
  · rw [if_pos h0]
    cases hv : mvW (S.wi p) 0 with
    | false =>
      simp only [if_true, h0, Bool.false_eq_true, and_false, if_false]
      exact h5
    | true =>
      simp only [Bool.true_eq_false, if_false, h0, and_self, if_true]
      obtain ⟨φ1, b1, b2, b3⟩ := r_goAw h hp ((S.wi p).w 0).c (hki h0 hv) h0
      obtain ⟨φ', c1, c2, c3⟩ := r_go171 b2 hp
      rw [setM_mon, setM_setM, mon_setM_wi] at c2
      refine ⟨φ', ?_, c2, (b3.mono (by decide)).trans c3⟩
      by_cases h8 : p < 8
      · have q := hw.1 h8
        have f5 : frW p = 5 * p := by unfold frW; rw [if_pos h8]
        have t5 : tdW p = false := by unfold tdW; simp [h8]
        rw [t5, f5] at c1 ⊢
        simp (disch := first | assumption | omega) only [if_true, rf_35 h.rl, rg_35 h.rl, Option.bind_some, zix, q, b1]
        exact c1
      · have q := hw.2 (by omega)
        have f5 : frW p = 5 * (p - 8) := by unfold frW; rw [if_neg h8]
        have t5 : tdW p = true := by unfold tdW; simp [h8]
        rw [t5, f5] at c1 ⊢
        simp (disch := first | assumption | omega) only [Bool.true_eq_false, if_false, rf_100 h.rl, rg_100 h.rl, Option.bind_some, zix, q, b1]
        exact c1
  · rw [if_neg h0, if_neg (fun hc => h0 hc.1)]
    exact h5
theorem goAr_rule (o : MO) (c : Int64) (h : (o.goAr c).rule = 0) : o.rule = 0 := by
  unfold MO.goAr MO.note at h
  split at h
  · split at h
    · cases h
    · exact h
  · exact h
/-- the third: an address for reading -/
theorem r_go84 {Γ : gm_T} {φ : ph_T} {r : Nat} {S : XS} (h : RV Γ φ r S) {p : Nat} (hp : p < 10) (hki : (S.mon p).rule = 0 → mvW (S.wi p) 0 = true → kiN ((S.wi p).w 0).c ≠ 3) :
    ∃ φ', f_Ref_go_L84 Γ φ r (nI p) (nI (frW p)) (bI (tdW p)) = some ((), φ') ∧ RV Γ φ' r (S.setM p ((((S.mon p).go3 (S.wi p)).go4 (S.wi p)).go5 (S.wi p))) ∧ RFr r kMo φ φ' := by
  have hgo := r_goes h hp (c := 3) (by omega)
  have hw := r_wire h hp (c := 3) (by omega)
  have h5 := r_go123 h hp hki
  unfold f_Ref_go_L84 f_Ref_go_L120 MO.go3
  simp only [h.rl.o, Option.bind_some, if_true, zI_lit, zI_add, hgo, bI_eq0]
  cases hv : mvW (S.wi p) 3 with
  | false =>
    simp only [if_true, Bool.false_eq_true, if_false]
    exact h5
  | true =>
    simp only [Bool.true_eq_false, if_false, if_true]
    obtain ⟨φ1, b1, b2, b3⟩ := r_goAr h hp ((S.wi p).w 3).c
    obtain ⟨φ', c1, c2, c3⟩ := r_go123 b2 hp (fun h0 hv0 => hki (by rw [setM_mon] at h0; exact goAr_rule _ _ h0) hv0)
    rw [setM_mon, setM_setM, mon_setM_wi] at c2
    refine ⟨φ', ?_, c2, (b3.mono (by decide)).trans c3⟩
    by_cases h8 : p < 8
    · have q := hw.1 h8
      have f5 : frW p = 5 * p := by unfold frW; rw [if_pos h8]
      have t5 : tdW p = false := by unfold tdW; simp [h8]
      rw [t5, f5] at c1 ⊢
      simp (disch := first | assumption | omega) only [if_true, rf_35 h.rl, rg_35 h.rl, Option.bind_some, zix, q, b1]
      exact c1
    · have q := hw.2 (by omega)
      have f5 : frW p = 5 * (p - 8) := by unfold frW; rw [if_neg h8]
      have t5 : tdW p = true := by unfold tdW; simp [h8]
      rw [t5, f5] at c1 ⊢
      simp (disch := first | assumption | omega) only [Bool.true_eq_false, if_false, rf_100 h.rl, rg_100 h.rl, Option.bind_some, zix, q, b1]
      exact c1
/-- the second: a beat of a read -/
theorem r_go42 {Γ : gm_T} {φ : ph_T} {r : Nat} {S : XS} (h : RV Γ φ r S) {p : Nat} (hp : p < 10) (hki : (S.mon p).rule = 0 → mvW (S.wi p) 0 = true → kiN ((S.wi p).w 0).c ≠ 3) (hrs : ∀ e ∈ (S.mon p).rs, e.n < leN e.con) :
    ∃ φ', f_Ref_go_L42 Γ φ r (nI p) (nI (frW p)) (bI (tdW p)) = some ((), φ') ∧ RV Γ φ' r (S.setM p (((((S.mon p).go2 (S.wi p)).go3 (S.wi p)).go4 (S.wi p)).go5 (S.wi p))) ∧ RFr r kMo φ φ' := by
  have hgo := r_goes h hp (c := 4) (by omega)
  have hw := r_wire h hp (c := 4) (by omega)
  have h5 := r_go84 h hp hki
  unfold f_Ref_go_L42 f_Ref_go_L78 MO.go2
  simp only [h.rl.o, Option.bind_some, if_true, zI_lit, zI_add, hgo, bI_eq0]
  cases hv : mvW (S.wi p) 4 with
  | false =>
    simp only [if_true, Bool.false_eq_true, if_false]
    exact h5
  | true =>
    simp only [Bool.true_eq_false, if_false, if_true]
    obtain ⟨φ1, b1, b2, b3⟩ := r_goR h hp ((S.wi p).w 4).r hrs
    obtain ⟨φ', c1, c2, c3⟩ := r_go84 b2 hp (fun h0 hv0 => hki (by rw [setM_mon] at h0; exact h0) hv0)
    rw [setM_mon, setM_setM, mon_setM_wi] at c2
    refine ⟨φ', ?_, c2, (b3.mono (by decide)).trans c3⟩
    by_cases h8 : p < 8
    · have q := hw.1 h8
      have f5 : frW p = 5 * p := by unfold frW; rw [if_pos h8]
      have t5 : tdW p = false := by unfold tdW; simp [h8]
      rw [t5, f5] at c1 ⊢
      simp (disch := first | assumption | omega) only [if_true, rf_36 h.rl, rg_36 h.rl, Option.bind_some, zix, q, rId_eq, b1]
      exact c1
    · have q := hw.2 (by omega)
      have f5 : frW p = 5 * (p - 8) := by unfold frW; rw [if_neg h8]
      have t5 : tdW p = true := by unfold tdW; simp [h8]
      rw [t5, f5] at c1 ⊢
      simp (disch := first | assumption | omega) only [Bool.true_eq_false, if_false, rf_101 h.rl, rg_101 h.rl, Option.bind_some, zix, q, rId_eq, b1]
      exact c1
theorem r_go {Γ : gm_T} {φ : ph_T} {r : Nat} {S : XS} (h : RV Γ φ r S) {p : Nat} (hp : p < 10) (hki : (S.mon p).rule = 0 → mvW (S.wi p) 0 = true → kiN ((S.wi p).w 0).c ≠ 3) (hrs : ∀ e ∈ (S.mon p).rs, e.n < leN e.con) (h0 : (S.mon p).rule = 0) :
    ∃ φ', f_Ref_go Γ φ r (nI p) (nI (frW p)) (bI (tdW p)) = some ((), φ') ∧ RV Γ φ' r (S.setM p ((S.mon p).go (S.wi p))) ∧ RFr r kMo φ φ' := by
  have hgo := r_goes h hp (c := 2) (by omega)
  have hw := r_wire h hp (c := 2) (by omega)
  have h5 := r_go42 h hp hki hrs
  unfold f_Ref_go f_Ref_go_L36 MO.go
  rw [if_pos h0]
  unfold MO.go1
  simp only [h.rl.o, Option.bind_some, if_true, zI_lit, zI_add, hgo, bI_eq0]
  cases hv : mvW (S.wi p) 2 with
  | false =>
    simp only [if_true, Bool.false_eq_true, if_false]
    exact h5
  | true =>
    simp only [Bool.true_eq_false, if_false, if_true]
    obtain ⟨φ1, b1, b2, b3⟩ := r_goB h hp ((S.wi p).w 2).r
    obtain ⟨φ', c1, c2, c3⟩ := r_go42 b2 hp (fun h0 hv0 => hki (by rw [setM_mon] at h0; exact h0) hv0) (by rw [setM_mon]; exact hrs)
    rw [setM_mon, setM_setM, mon_setM_wi] at c2
    refine ⟨φ', ?_, c2, (b3.mono (by decide)).trans c3⟩
    by_cases h8 : p < 8
    · have q := hw.1 h8
      have f5 : frW p = 5 * p := by unfold frW; rw [if_pos h8]
      have t5 : tdW p = false := by unfold tdW; simp [h8]
      rw [t5, f5] at c1 ⊢
      simp (disch := first | assumption | omega) only [if_true, rf_36 h.rl, rg_36 h.rl, Option.bind_some, zix, q, rId_eq, b1]
      exact c1
    · have q := hw.2 (by omega)
      have f5 : frW p = 5 * (p - 8) := by unfold frW; rw [if_neg h8]
      have t5 : tdW p = true := by unfold tdW; simp [h8]
      rw [t5, f5] at c1 ⊢
      simp (disch := first | assumption | omega) only [Bool.true_eq_false, if_false, rf_101 h.rl, rg_101 h.rl, Option.bind_some, zix, q, rId_eq, b1]
      exact c1
