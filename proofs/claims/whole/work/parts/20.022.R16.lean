/-! THE REFERENCE's monitors look -/
theorem lg0 (a b : Int64) : (lg_cmp a b = nI 0) ↔ a = b := by
  unfold lg_cmp
  by_cases h : a > b
  · rw [if_pos h]
    constructor
    · intro h2; exact absurd h2 (by decide)
    · intro h2
      subst h2
      exact absurd h (Int64.lt_irrefl)
  · rw [if_neg h]
    by_cases h2 : a = b
    · rw [if_pos h2]
      exact ⟨fun _ => h2, fun _ => rfl⟩
    · rw [if_neg h2]
      constructor
      · intro h3; exact absurd h3 (by decide)
      · intro h3; exact absurd h3 h2
theorem r_monW_L {Γ : gm_T} {φ : ph_T} {r : Nat} {S : XS} (h : RV Γ φ r S) {p id : Nat} (hp : p < 10) (hid : id < 64) : ∀ d k fu, k + d = (S.mon p).ws.length → d < fu →
    f_Ref_monitoredWrite_L2 Γ fu φ r (nI p) (nI id) (nI k) = some (oI ((fiF (isMwA id) (S.mon p).ws k).map (16 * p + ·)) m1, φ) := by
  have hm := h.mo p hp
  have hle := hm.lw
  have e1 : φ.1 (r + 79) p = nI (S.mon p).ws.length := hm.nw
  intro d
  induction d with
  | zero =>
    intro k fu hd hf
    match fu, hf with
    | fu + 1, _ =>
      unfold f_Ref_monitoredWrite_L2
      simp (disch := first | assumption | omega) only [h.rl.o, rf_89 h.rl, rg_89 h.rl, rf_91 h.rl, rg_91 h.rl, rf_92 h.rl, rg_92 h.rl, rf_94 h.rl, rg_94 h.rl, Option.bind_some, if_true, zix, e1, ↓zm1, zI_ne_m, zI_m_ne, zI_lit, zI_le, zI_eq, zI_mul, zI_lt, zI_modn, zI_div, zI_sub, zI_add, zN_mod]
      rw [if_pos (show (S.mon p).ws.length ≤ k by omega), fiF_end (by omega)]
      rfl
  | succ d ih =>
    intro k fu hd hf
    match fu, hf with
    | fu + 1, hf =>
      obtain ⟨e, he⟩ := lget (l := (S.mon p).ws) (t := k) (by omega)
      have hw := hm.ws k e he
      have w1 : φ.1 (r + 81) (16 * p + k) = bI e.has := hw.1
      have w4 : φ.1 (r + 84) (16 * p + k) = bI e.last := hw.2.2.2.1
      have hidl := idN_lt e.con
      have ih' := ih (k + 1) fu (by omega) (by omega)
      unfold f_Ref_monitoredWrite_L2 f_Ref_monitoredWrite_L57
      simp (disch := first | assumption | omega) only [h.rl.o, rf_89 h.rl, rg_89 h.rl, rf_91 h.rl, rg_91 h.rl, rf_92 h.rl, rg_92 h.rl, rf_94 h.rl, rg_94 h.rl, Option.bind_some, if_true, zix, e1, ↓zm1, zI_ne_m, zI_m_ne, zI_lit, zI_le, zI_eq, zI_mul, zI_lt, zI_modn, zI_div, zI_sub, zI_add, zN_mod, w1, w4, bI_eq0, ih', e_Ref_idOf]
      rw [if_neg (show ¬ (S.mon p).ws.length ≤ k by omega), fiF_step he]
      unfold isMwA
      cases hh : e.has with
      | false => simp
      | true =>
        have w2 : φ.2.1 (r + 82) (16 * p + k) = e.con := (hw.2.1 hh).1
        rw [w2]
        cases hl : e.last with
        | false => simp
        | true =>
          simp (disch := first | assumption | omega) only [zI_eq]
          by_cases hi : idN e.con = id
          · simp [hi, oI]
          · simp [hi]
theorem r_monW {Γ : gm_T} {φ : ph_T} {r : Nat} {S : XS} (h : RV Γ φ r S) {p id : Nat} (hp : p < 10) (hid : id < 64) : f_Ref_monitoredWrite Γ φ r (nI p) (nI id) = some (oI (((S.mon p).ws.findIdx? (isMwA id)).map (16 * p + ·)) m1, φ) := by
  have hle := (h.mo p hp).lw
  unfold f_Ref_monitoredWrite
  rw [zI_0, r_monW_L h hp hid (S.mon p).ws.length 0 jF (by omega) (by unfold jF; omega), fiF_0]
def isMr (id : Nat) (e : MR) : Bool := decide (idN e.con = id)
theorem r_monR_L {Γ : gm_T} {φ : ph_T} {r : Nat} {S : XS} (h : RV Γ φ r S) {p id : Nat} (hp : p < 10) (hid : id < 64) : ∀ d k fu, k + d = (S.mon p).rs.length → d < fu →
    f_Ref_monitoredRead_L2 Γ fu φ r (nI p) (nI id) (nI k) = some (oI ((fiF (isMr id) (S.mon p).rs k).map (16 * p + ·)) m1, φ) := by
  have hm := h.mo p hp
  have hle := hm.lr
  have e1 : φ.1 (r + 80) p = nI (S.mon p).rs.length := hm.nr
  intro d
  induction d with
  | zero =>
    intro k fu hd hf
    match fu, hf with
    | fu + 1, _ =>
      unfold f_Ref_monitoredRead_L2
      simp (disch := first | assumption | omega) only [h.rl.o, rf_90 h.rl, rg_90 h.rl, rf_96 h.rl, rg_96 h.rl, Option.bind_some, if_true, zix, e1, ↓zm1, zI_ne_m, zI_m_ne, zI_lit, zI_le, zI_eq, zI_mul, zI_lt, zI_modn, zI_div, zI_sub, zI_add, zN_mod]
      rw [if_pos (show (S.mon p).rs.length ≤ k by omega), fiF_end (by omega)]
      rfl
  | succ d ih =>
    intro k fu hd hf
    match fu, hf with
    | fu + 1, hf =>
      obtain ⟨e, he⟩ := lget (l := (S.mon p).rs) (t := k) (by omega)
      have hw := hm.rs k e he
      have w1 : φ.2.1 (r + 86) (16 * p + k) = e.con := hw.1
      have hidl := idN_lt e.con
      have ih' := ih (k + 1) fu (by omega) (by omega)
      unfold f_Ref_monitoredRead_L2
      simp (disch := first | assumption | omega) only [h.rl.o, rf_90 h.rl, rg_90 h.rl, rf_96 h.rl, rg_96 h.rl, Option.bind_some, if_true, zix, e1, ↓zm1, zI_ne_m, zI_m_ne, zI_lit, zI_le, zI_eq, zI_mul, zI_lt, zI_modn, zI_div, zI_sub, zI_add, zN_mod, w1, ih', e_Ref_idOf]
      rw [if_neg (show ¬ (S.mon p).rs.length ≤ k by omega), fiF_step he]
      unfold isMr
      by_cases hi : idN e.con = id
      · simp [hi, oI]
      · simp [hi]
theorem r_monR {Γ : gm_T} {φ : ph_T} {r : Nat} {S : XS} (h : RV Γ φ r S) {p id : Nat} (hp : p < 10) (hid : id < 64) : f_Ref_monitoredRead Γ φ r (nI p) (nI id) = some (oI (((S.mon p).rs.findIdx? (isMr id)).map (16 * p + ·)) m1, φ) := by
  have hle := (h.mo p hp).lr
  unfold f_Ref_monitoredRead
  rw [zI_0, r_monR_L h hp hid (S.mon p).rs.length 0 jF (by omega) (by unfold jF; omega), fiF_0]
theorem ruN_lt (c : Int64) : ruN c < 7 := by unfold ruN; repeat' split <;> try omega
theorem note0 (o : MO) (c : Nat) : o.note 0 c = o := by unfold MO.note; rw [if_neg (fun h => h.2 rfl)]
theorem r_note {Γ : gm_T} {φ : ph_T} {r : Nat} {S : XS} (h : RV Γ φ r S) (p c : Nat) : ∃ φ', some ((), φ) = some ((), φ') ∧ RV Γ φ' r (S.setM p ((S.mon p).note 0 c)) ∧ RFr r [76, 77, 78] φ φ' := ⟨φ, rfl, by rw [note0, setM_self]; exact h, RFr.refl _ _ _⟩
theorem r_lookAt {Γ : gm_T} {φ : ph_T} {r : Nat} {S : XS} (h : RV Γ φ r S) {p c : Nat} (hp : p < 10) (hc : c < 5) (w : WV) :
    ∃ φ', f_Ref_lookAt Γ φ r (nI p) (nI c) (bI w.v) w.c w.r = some ((), φ') ∧ RV Γ φ' r (S.setM p ((S.mon p).note ((S.mon p).look1 c w) c)) ∧ RFr r [76, 77, 78] φ φ' := by
  have hm := h.mo p hp
  have hhe := hm.hel c hc
  have w1 : φ.1 (r + 72) (5 * p + c) = bI ((S.mon p).held c) := hhe.1
  have w2 : φ.2.1 (r + 73) (5 * p + c) = (S.mon p).hc c := hhe.2.1
  have w3 : φ.1 (r + 74) (5 * p + c) = (S.mon p).hr c := hhe.2.2
  have hru := ruN_lt w.c
  have hid := rId_lt w.r
  have B : ∀ x, 0 < x → x < 13 → ∃ φ', (f_Ref_breakAt Γ φ r (nI p) (nI x) (nI c)).bind (fun q => some ((), q.2)) = some ((), φ') ∧ RV Γ φ' r (S.setM p ((S.mon p).note x c)) ∧ RFr r [76, 77, 78] φ φ' := by
    intro x h0 h13
    obtain ⟨φ', e1, e2, e3⟩ := r_break h (p := p) (x := x) (c := c) hp h0 h13
    exact ⟨φ', by rw [e1]; rfl, e2, e3⟩
  have l94 : f_Ref_lookAt_L94 Γ φ r (nI p) (nI c) w.c = if ruN w.c ≤ 0 then some ((), φ) else Option.bind (f_Ref_breakAt Γ φ r (nI p) (nI (ruN w.c)) (nI c)) fun q15 => some ((), q15.2) := by
    unfold f_Ref_lookAt_L94 f_Ref_lookAt_L114 f_Ref_lookAt_L291
    simp (disch := first | assumption | omega) only [h.rl.o, if_true, e_Ref_breaks, Option.bind_some, zI_lit, zI_le]
  have mW := r_monW h hp hid
  have mR := r_monR h hp hid
  unfold f_Ref_lookAt f_Ref_lookAt_L56 f_Ref_lookAt_L63 MO.look1
  simp only [h.rl.o, if_true, rf_82 h.rl, rg_82 h.rl, rf_83 h.rl, rg_83 h.rl, rf_84 h.rl, rg_84 h.rl, Option.bind_some, zI_lit, zI_mul, zI_add, zix (show 5 * p + c < 50 by omega), w1, w2, w3, bI_eq0, rId_eq, lg0, l94, mW, mR, ↓zm1]
  simp (disch := first | assumption | omega) only [zI_eq]
  cases hh : (S.mon p).held c with
  | true =>
    simp only [Bool.true_eq_false, if_false, if_true]
    cases hv : w.v with
    | false =>
      simp only [if_true]
      exact B 1 (by omega) (by omega)
    | true =>
      simp only [Bool.true_eq_false, if_false]
      by_cases h1 : w.c = (S.mon p).hc c
      · by_cases h2 : w.r = (S.mon p).hr c
        · rw [if_pos h1, if_pos h2, if_pos ⟨h1, h2⟩]
          exact r_note h p c
        · rw [if_pos h1, if_neg h2, if_neg (fun x => h2 x.2)]
          exact B 2 (by omega) (by omega)
      · rw [if_neg h1, if_neg (fun x => h1 x.1)]
        exact B 2 (by omega) (by omega)
  | false =>
    simp only [Bool.false_eq_true, if_false, if_true]
    cases hv : w.v with
    | false =>
      simp only [if_true]
      exact r_note h p c
    | true =>
      simp only [Bool.true_eq_false, if_false]
      have R : ∃ φ', (if ruN w.c ≤ 0 then some ((), φ) else Option.bind (f_Ref_breakAt Γ φ r (nI p) (nI (ruN w.c)) (nI c)) fun q15 => some ((), q15.2)) = some ((), φ') ∧ RV Γ φ' r (S.setM p ((S.mon p).note (ruN w.c) c)) ∧ RFr r [76, 77, 78] φ φ' := by
        by_cases h0 : ruN w.c = 0
        · rw [if_pos (by omega), h0]
          exact r_note h p c
        · rw [if_neg (by omega)]
          exact B (ruN w.c) (by omega) (by omega)
      by_cases c0 : c = 0
      · subst c0
        simp only [if_true, true_or]
        exact R
      · by_cases c3 : c = 3
        · subst c3
          simp only [if_true, or_true, show ¬ (3 = 0) by omega, if_false]
          exact R
        · simp only [c0, c3, if_false, or_self]
          by_cases c2 : c = 2
          · subst c2
            simp only [if_true]
            cases hf : (S.mon p).ws.findIdx? (isMwA (rId w.r)) with
            | none =>
              rw [fi_none hf]
              unfold f_Ref_lookAt_L175 f_Ref_lookAt_L291
              simp only [Option.map_none, oI, if_true]
              exact B 9 (by omega) (by omega)
            | some k =>
              obtain ⟨e, he, hf2, hpe⟩ := fi_some hf
              have hk := llt he
              have hlw := hm.lw
              have hhas : e.has = true := by unfold isMwA at hpe; simp at hpe; exact hpe.1.1
              have hcon : φ.2.1 (r + 82) (16 * p + k) = e.con := ((hm.ws k e he).2.1 hhas).1
              have hex := exN_lt e.con
              have hre := rRe_lt w.r
              rw [hf2]
              unfold f_Ref_lookAt_L175 f_Ref_lookAt_L291
              simp (disch := first | assumption | omega) only [Option.map_some, oI, zI_ne_m, if_false, rRe_eq, zI_eq, zix, Option.bind_some, hcon, e_Ref_isAlone, rf_92 h.rl, rg_92 h.rl]
              by_cases r1 : rRe w.r = 1
              · by_cases r2 : exN e.con = 0
                · rw [if_pos r1, if_pos r2, if_pos ⟨r1, r2⟩]
                  exact B 11 (by omega) (by omega)
                · rw [if_pos r1, if_neg r2, if_neg (fun x => r2 x.2)]
                  exact r_note h p 2
              · rw [if_neg r1, if_neg (fun x => r1 x.1)]
                exact r_note h p 2
          · simp only [c2, if_false]
            by_cases c4 : c = 4
            · subst c4
              simp only [if_true]
              have hfe : (fun e : MR => decide (idN e.con = rId w.r)) = isMr (rId w.r) := rfl
              rw [hfe]
              cases hf : (S.mon p).rs.findIdx? (isMr (rId w.r)) with
              | none =>
                rw [fi_none hf]
                unfold f_Ref_lookAt_L291
                simp only [Option.map_none, oI, if_true]
                exact B 10 (by omega) (by omega)
              | some k =>
                obtain ⟨e, he, hf2, hpe⟩ := fi_some hf
                have hk := llt he
                have hlw := hm.lr
                have hrs := hm.rs k e he
                have hcon : φ.2.1 (r + 86) (16 * p + k) = e.con := hrs.1
                have hn : φ.1 (r + 87) (16 * p + k) = nI e.n := hrs.2.1
                have hle := leN_le e.con
                have hpos := leN_pos e.con
                have hex := exN_lt e.con
                have hre := rRe_lt w.r
                rw [hf2]
                unfold f_Ref_lookAt_L236 f_Ref_lookAt_L250 f_Ref_lookAt_L291
                simp (disch := first | assumption | omega) only [Option.map_some, oI, zI_ne_m, if_false, zI_lit, rRe_eq, zI_eq, zix, Option.bind_some, hcon, hn, e_Ref_isAlone, e_Ref_lengthOf, rf_96 h.rl, rg_96 h.rl, rf_97 h.rl, rg_97 h.rl, h.rl.o, if_true, zI_sub, rLa_eq]
                have tail : ∃ φ', (if rRe w.r = 1 then if exN e.con = 0 then (Option.bind (f_Ref_breakAt Γ φ r (nI p) (nI 11) (nI 4)) fun q6 => some ((), q6.2)) else some ((), φ) else some ((), φ)) = some ((), φ') ∧ RV Γ φ' r (S.setM p ((S.mon p).note (if rRe w.r = 1 ∧ exN e.con = 0 then 11 else 0) 4)) ∧ RFr r [76, 77, 78] φ φ' := by
                  by_cases r1 : rRe w.r = 1
                  · by_cases r2 : exN e.con = 0
                    · rw [if_pos r1, if_pos r2, if_pos ⟨r1, r2⟩]
                      exact B 11 (by omega) (by omega)
                    · rw [if_pos r1, if_neg r2, if_neg (fun x => r2 x.2)]
                      exact r_note h p 4
                  · rw [if_neg r1, if_neg (fun x => r1 x.1)]
                    exact r_note h p 4
                by_cases hd : e.n = leN e.con - 1
                · rw [if_pos hd]
                  cases hL : rLa w.r with
                  | true =>
                    simp only [hd, Bool.true_eq_false, if_false, if_true, decide_true, ne_eq, not_true]
                    exact tail
                  | false =>
                    simp only [hd, Bool.true_eq_false, if_false, if_true, decide_true, ne_eq, not_false_eq_true, show ¬ (1 = 0) by omega]
                    exact B 7 (by omega) (by omega)
                · rw [if_neg hd]
                  cases hL : rLa w.r with
                  | true =>
                    simp only [hd, Bool.true_eq_false, Bool.false_eq_true, if_false, if_true, decide_false, ne_eq, not_false_eq_true, show ¬ (0 = 1) by omega]
                    exact B 7 (by omega) (by omega)
                  | false =>
                    simp only [hd, if_false, if_true, decide_false, ne_eq, not_true]
                    exact tail
            · simp only [c4, if_false]
              exact r_note h p c
