/-! THE REFERENCE's monitors: a beat of a write; all that goes; the watch -/
theorem r_goW69 {Γ : gm_T} {φ : ph_T} {r : Nat} {S : XS} (h : RV Γ φ r S) {p j : Nat} (hp : p < 10) {e : MW} (he : (S.mon p).ws[j]? = some e) (x : Int32) :
    ∃ φ', f_Ref_goW_L69 Γ φ r (nI p) x (nI (16 * p + j)) = some ((), φ') ∧ RV Γ φ' r (S.setM p (if e.n = 16 then (S.mon p).note 7 1 else (((S.mon p).w_ws ((S.mon p).ws.set j (e.beat x))) : MO).note (if e.has = true then badB (e.beat x) e.n else 0) 1)) ∧ RFr r [76, 77, 78, 83, 84, 85] φ φ' := by
  have hm := h.mo p hp
  have hj := llt he
  have hlw := hm.lw
  have hw := hm.ws j e he
  have w1 : φ.1 (r + 81) (16 * p + j) = bI e.has := hw.1
  have w3 : φ.1 (r + 83) (16 * p + j) = nI e.n := hw.2.2.1
  have hn := hw.2.2.2.2
  unfold f_Ref_goW_L69
  simp only [h.rl.o, if_true, rf_93 h.rl, rg_93 h.rl, rf_94 h.rl, rf_95 h.rl, rg_95 h.rl, Option.bind_some, ↓zm1, zI_lit, zI_mul, zix (show 16 * p + j < 160 by omega), w3, zI_add]
  simp (disch := first | assumption | omega) only [zI_ne_m, if_false, zI_eq]
  by_cases h16 : e.n = 16
  · rw [if_pos h16, if_pos h16]
    obtain ⟨φ', b1, b2, b3⟩ := r_break h (p := p) (x := 7) (c := 1) hp (by omega) (by omega)
    exact ⟨φ', by rw [b1]; rfl, b2, b3.mono (by decide)⟩
  · rw [if_neg h16, if_neg h16]
    rw [zix (show 16 * (16 * p + j) + e.n < 2560 by omega)]
    simp (disch := first | assumption | omega) only [Option.bind_some, uI_1, uI_2, uI_3, uL_1, uL_2, uL_3, vz_at, Nat.add_left_cancel_iff, Nat.reduceEqDiff, if_false, zr1, zr2, w3, zI_add, rLa_eq]
    have hv := VMo.beat h.mo hp he x (by omega)
    have f1 : RFr r [76, 77, 78, 83, 84, 85] φ (uI (uI (uI φ (r + 85) (16 * (16 * p + j) + e.n) x) (r + 83) (16 * p + j) (nI (e.n + 1))) (r + 84) (16 * p + j) (bI (rLa x))) := by repeat (first | exact RFr.refl _ _ _ | refine RFr.uI ?_ (by decide) _ _ | refine RFr.uL ?_ (by decide) _ _ | refine rfr_uO ?_ (by decide) _ _)
    have h1 := h.setM_mo (f1.mono (by decide)) hv
    have he1 : ((S.setM p (((S.mon p).w_ws ((S.mon p).ws.set j (e.beat x))) : MO)).mon p).ws[j]? = some (e.beat x) := by rw [setM_mon]; exact List.getElem?_set_self hj
    have key : ∀ b : Bool, b = rLa x → ∃ φ', f_Ref_goW_L141 Γ (uI (uI φ (r + 85) (16 * (16 * p + j) + e.n) x) (r + 83) (16 * p + j) (nI (e.n + 1))) r (nI p) (nI (16 * p + j)) (bI b) (nI (16 * p + j)) (some (r + 84)) = some ((), φ') ∧ RV Γ φ' r (S.setM p ((((S.mon p).w_ws ((S.mon p).ws.set j (e.beat x))) : MO).note (if e.has = true then badB (e.beat x) e.n else 0) 1)) ∧ RFr r [76, 77, 78, 83, 84, 85] φ φ' := by
      intro b hb
      subst hb
      unfold f_Ref_goW_L141 f_Ref_goW_L166
      simp only [Option.bind_some, rg_94 h.rl, zix (show 16 * p + j < 160 by omega), bI_ok, if_true, h.rl.o, uI_3, rf_91 h.rl, rg_91 h.rl, rf_93 h.rl, rg_93 h.rl]
      simp (disch := first | assumption | omega) only [uI_1, uI_2, uI_3, uL_1, uL_2, uL_3, vz_at, Nat.add_left_cancel_iff, Nat.reduceEqDiff, if_false, zr1, zr2, w1, zI_lit, bI_eq0, bI_ok, bI_ok2, vz_same, if_true]
      cases hh : e.has with
      | false =>
        simp only [if_true, Bool.false_eq_true, if_false]
        refine ⟨_, rfl, ?_, f1⟩
        rw [note0]
        exact h1
      | true =>
        simp only [Bool.true_eq_false, if_false, if_true]
        have hk : e.n < (e.beat x).n := Nat.lt_succ_self _
        obtain ⟨φ2, b1, b2, b3⟩ := r_checkBeat h1 (p := p) (j := j) (k := e.n) (ch := 1) hp he1 hh hk
        rw [setM_mon, setM_setM] at b2
        rw [zI_sub (show 1 ≤ e.n + 1 by omega), Nat.add_sub_cancel, b1]
        exact ⟨φ2, rfl, b2, f1.trans (b3.mono (by decide))⟩
    cases hL : rLa x with
    | false =>
      simp only [if_true]
      exact key false hL.symm
    | true =>
      simp only [Bool.true_eq_false, if_false]
      exact key true hL.symm
theorem r_goW5 {Γ : gm_T} {φ : ph_T} {r : Nat} {S : XS} (h : RV Γ φ r S) {p : Nat} (hp : p < 10) (x : Int32) : ∀ d k fu, k + d = (S.mon p).ws.length → d < fu →
    f_Ref_goW_L5 Γ fu φ r (nI p) x m1 (nI k) = f_Ref_goW_L54 Γ φ r (nI p) x (oI ((fiF (fun e => !e.last) (S.mon p).ws k).map (16 * p + ·)) m1) := by
  have hm := h.mo p hp
  have hlw := hm.lw
  have e1 : φ.1 (r + 79) p = nI (S.mon p).ws.length := hm.nw
  intro d
  induction d with
  | zero =>
    intro k fu hd hf
    match fu, hf with
    | fu + 1, _ =>
      unfold f_Ref_goW_L5
      simp (disch := first | assumption | omega) only [h.rl.o, rf_89 h.rl, rg_89 h.rl, rf_94 h.rl, rg_94 h.rl, Option.bind_some, if_true, zix, e1, ↓zm1, zI_ne_m, zI_m_ne, zI_lit, zI_le, zI_eq, zI_mul, zI_lt, zI_modn, zI_div, zI_sub, zI_add, zN_mod]
      rw [if_pos (show (S.mon p).ws.length ≤ k by omega), fiF_end (by omega)]
      rfl
  | succ d ih =>
    intro k fu hd hf
    match fu, hf with
    | fu + 1, hf =>
      obtain ⟨e, he⟩ := lget (l := (S.mon p).ws) (t := k) (by omega)
      have w1 : φ.1 (r + 84) (16 * p + k) = bI e.last := (hm.ws k e he).2.2.2.1
      unfold f_Ref_goW_L5 f_Ref_goW_L47
      simp (disch := first | assumption | omega) only [h.rl.o, rf_89 h.rl, rg_89 h.rl, rf_94 h.rl, rg_94 h.rl, Option.bind_some, if_true, zix, e1, w1, ↓zm1, zI_ne_m, zI_m_ne, zI_lit, zI_le, zI_eq, zI_mul, zI_lt, zI_modn, zI_div, zI_sub, zI_add, zN_mod, bI_eq0]
      rw [if_neg (show ¬ (S.mon p).ws.length ≤ k by omega), fiF_step he]
      cases hh : e.last with
      | true =>
        simp only [Bool.true_eq_false, if_false, Bool.not_true, Bool.false_eq_true]
        exact ih (k + 1) fu (by omega) (by omega)
      | false =>
        simp only [if_true, Bool.not_false, Option.map_some, oI]
        match fu, hf with
        | fu + 1, hf =>
          unfold f_Ref_goW_L5
          simp (disch := first | assumption | omega) only [h.rl.o, rf_89 h.rl, rg_89 h.rl, rf_94 h.rl, rg_94 h.rl, Option.bind_some, if_true, zix, e1, ↓zm1, zI_ne_m, zI_m_ne, zI_lit, zI_le, zI_eq, zI_mul, zI_lt, zI_modn, zI_div, zI_sub, zI_add, zN_mod, if_false, ite_self]
theorem r_goW {Γ : gm_T} {φ : ph_T} {r : Nat} {S : XS} (h : RV Γ φ r S) {p : Nat} (hp : p < 10) (x : Int32) :
    ∃ φ', f_Ref_goW Γ φ r (nI p) x = some ((), φ') ∧ RV Γ φ' r (S.setM p ((S.mon p).goW x)) ∧ RFr r kAll φ φ' := by
  have hm := h.mo p hp
  have hlw := hm.lw
  unfold f_Ref_goW MO.goW
  rw [zI_0, zm1, r_goW5 h hp x (S.mon p).ws.length 0 jF (Nat.zero_add _) (by unfold jF; omega), fiF_0]
  unfold f_Ref_goW_L54
  cases hf : (S.mon p).ws.findIdx? (fun e => !e.last) with
  | some i =>
    obtain ⟨e, he, _, _⟩ := fi_some hf
    have hi := llt he
    simp (disch := first | assumption | omega) only [Option.map_some, oI, ↓zm1, zI_ne_m, if_false, he]
    obtain ⟨φ', b1, b2, b3⟩ := r_goW69 h hp he x
    exact ⟨φ', b1, b2, b3.mono (by decide)⟩
  | none =>
    simp only [Option.map_none, oI, ↓zm1, if_true, h.rl.o, zI_lit]
    rcases r_newWrite h (p := p) (c := 1) hp with ⟨hl, φ', b1, b2, b3⟩ | ⟨hl, φ1, b1, b2, b3⟩
    · rw [b1, if_pos hl]
      refine ⟨φ', ?_, b2, b3.mono (by decide)⟩
      unfold f_Ref_goW_L69
      simp only [Option.bind_some, ↓zm1, if_true]
    · rw [b1, if_neg (by omega)]
      simp only [Option.bind_some]
      obtain ⟨φ', c1, c2, c3⟩ := r_goW69 b2 hp (j := (S.mon p).ws.length) (e := mw0) (by rw [setM_mon]; show ((S.mon p).ws ++ [mw0])[(S.mon p).ws.length]? = some mw0; simp) x
      refine ⟨φ', c1, ?_, (b3.mono (by decide)).trans (c3.mono (by decide))⟩
      rw [setM_mon, setM_setM, if_neg (show ¬ mw0.n = 16 from by decide), if_neg (show ¬ mw0.has = true from by decide), note0] at c2
      have e1 : ((S.mon p).ws ++ [mw0]).set (S.mon p).ws.length (mw0.beat x) = (S.mon p).ws ++ [mw0.beat x] := by simp
      simp only [MO.ws_w_ws] at c2
      rw [e1] at c2
      exact c2
/-- the wires that a monitor sees: a port's, or those that were told -/
theorem r_wire {Γ : gm_T} {φ : ph_T} {r : Nat} {S : XS} (h : RV Γ φ r S) {p c : Nat} (hp : p < 10) (hc : c < 5) :
    (p < 8 → φ.1 (r + 26) (5 * p + c) = bI ((S.wi p).w c).v ∧ φ.1 (r + 27) (5 * p + c) = bI ((S.wi p).rd c) ∧ φ.2.1 (r + 28) (5 * p + c) = ((S.wi p).w c).c ∧ φ.1 (r + 29) (5 * p + c) = ((S.wi p).w c).r) ∧
    (8 ≤ p → φ.1 (r + 88) (5 * (p - 8) + c) = bI ((S.wi p).w c).v ∧ φ.1 (r + 89) (5 * (p - 8) + c) = bI ((S.wi p).rd c) ∧ φ.2.1 (r + 90) (5 * (p - 8) + c) = ((S.wi p).w c).c ∧ φ.1 (r + 91) (5 * (p - 8) + c) = ((S.wi p).w c).r) := by
  refine ⟨fun h8 => h.wi p c h8 hc, fun h8 => ?_⟩
  have := h.wt (p - 8) c (by omega) hc
  simp only [show 8 + (p - 8) = p by omega] at this
  exact this
def frW (p : Nat) : Nat := if p < 8 then 5 * p else 5 * (p - 8)
def tdW (p : Nat) : Bool := !decide (p < 8)
theorem r_goes {Γ : gm_T} {φ : ph_T} {r : Nat} {S : XS} (h : RV Γ φ r S) {p c : Nat} (hp : p < 10) (hc : c < 5) : f_Ref_goes Γ φ r (nI (frW p + c)) (bI (tdW p)) = some (bI (mvW (S.wi p) c), φ) := by
  have hw := r_wire h hp hc
  unfold f_Ref_goes f_Ref_goes_L26 f_Ref_goes_L52 f_Ref_goes_L53 frW tdW mvW
  by_cases h8 : p < 8
  · have q := hw.1 h8
    simp (disch := first | assumption | omega) only [h8, if_true, decide_true, Bool.not_true, show bI false = nI 0 from rfl, zI_lit, h.rl.o, rf_33 h.rl, rg_33 h.rl, rf_34 h.rl, rg_34 h.rl, rf_98 h.rl, rg_98 h.rl, rf_99 h.rl, rg_99 h.rl, Option.bind_some, zix, q, bI_eq0, z_or0, z_or1]
    cases ((S.wi p).w c).v <;> cases (S.wi p).rd c <;> rfl
  · have q := hw.2 (by omega)
    simp (disch := first | assumption | omega) only [h8, if_false, decide_false, Bool.not_false, show bI true = nI 1 from rfl, zI_lit, h.rl.o, rf_33 h.rl, rg_33 h.rl, rf_34 h.rl, rg_34 h.rl, rf_98 h.rl, rg_98 h.rl, rf_99 h.rl, rg_99 h.rl, Option.bind_some, zix, q, bI_eq0, z_or0, z_or1, zI_eq, if_true]
    simp only [show ¬ (1 = 0) by omega, if_false]
    cases ((S.wi p).w c).v <;> cases (S.wi p).rd c <;> rfl
