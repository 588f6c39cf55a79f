/-! THE REFERENCE's monitors: an address, a beat -/
theorem VMo.adr {φ : ph_T} {r : Nat} {mon : Nat → MO} (h : VMo (maOf φ r) mon) {p k : Nat} (hp : p < 10) {e : MW} (he : (mon p).ws[k]? = some e) (c : Int64) (hc : kiN c ≠ 3) :
    VMo (maOf (uL (uI φ (r + 81) (16 * p + k) (nI 1)) (r + 82) (16 * p + k) c) r) (va_up mon p ((mon p).w_ws ((mon p).ws.set k ((e.w_has (true)).w_con (c))))) := by
  have hm := h p hp
  have hk := llt he
  have hlr := hm.lw
  have hA : maOf (uL (uI φ (r + 81) (16 * p + k) (nI 1)) (r + 82) (16 * p + k) c) r = (((maOf φ r).w_has (va_up (φ.1 (r + 81)) (16 * p + k) (nI 1))).w_bur (va_up (φ.2.1 (r + 82)) (16 * p + k) c)) := by simp [maOf, uI_1, uI_2, uI_3, uL_1, uL_2, uL_3, vz_at]
  rw [hA]
  refine VMo.set h ?_ (fun q hq hne => ?_)
  · refine ⟨by show ((mon p).ws.set k _).length ≤ 16; rw [List.length_set]; exact hm.lw, hm.lr, hm.hel, hm.tks, hm.rul, hm.rl, hm.cha, hm.tic, ?_, hm.nr, fun j x hx => ?_, fun j x hx i hi => ?_, hm.rs, hm.leg⟩
    · show _ = nI ((mon p).ws.set k _).length
      rw [List.length_set]
      exact hm.nw
    · have hx' : ((mon p).ws.set k ((e.w_has (true)).w_con (c)))[j]? = some x := hx
      show va_up (φ.1 (r + 81)) (16 * p + k) (nI 1) (16 * p + j) = bI x.has ∧ (x.has = true → va_up (φ.2.1 (r + 82)) (16 * p + k) c (16 * p + j) = x.con ∧ kiN x.con ≠ 3) ∧ φ.1 (r + 83) (16 * p + j) = nI x.n ∧ φ.1 (r + 84) (16 * p + j) = bI x.last ∧ x.n ≤ 16
      by_cases hjk : j = k
      · subst hjk
        rw [List.getElem?_set_self hk] at hx'
        cases hx'
        have hw := hm.ws j e he
        exact ⟨vz_same _ _ _, fun _ => ⟨vz_same _ _ _, hc⟩, hw.2.2⟩
      · rw [List.getElem?_set_ne (Ne.symm hjk)] at hx'
        rw [vz_at, vz_at, if_neg (by omega), if_neg (by omega)]
        exact hm.ws j x hx'
    · have hx' : ((mon p).ws.set k ((e.w_has (true)).w_con (c)))[j]? = some x := hx
      show φ.1 (r + 85) (16 * (16 * p + j) + i) = x.rst i
      by_cases hjk : j = k
      · subst hjk
        rw [List.getElem?_set_self hk] at hx'
        cases hx'
        exact hm.st j e he i hi
      · rw [List.getElem?_set_ne (Ne.symm hjk)] at hx'
        exact hm.st j x hx' i hi
  · refine VM1.fr (h q hq) (fun c _ => ⟨rfl, rfl, rfl⟩) ⟨rfl, rfl, rfl, rfl, rfl, rfl⟩ (fun i hi => ⟨?_, ?_, rfl, rfl, rfl, rfl⟩) (fun k i _ _ => rfl)
    · show va_up (φ.1 (r + 81)) (16 * p + k) (nI 1) (16 * q + i) = φ.1 (r + 81) (16 * q + i)
      rw [vz_at, if_neg (by omega)]
    · show va_up (φ.2.1 (r + 82)) (16 * p + k) c (16 * q + i) = φ.2.1 (r + 82) (16 * q + i)
      rw [vz_at, if_neg (by omega)]
theorem VMo.beat {φ : ph_T} {r : Nat} {mon : Nat → MO} (h : VMo (maOf φ r) mon) {p k : Nat} (hp : p < 10) {e : MW} (he : (mon p).ws[k]? = some e) (x : Int32) (hn : e.n < 16) :
    VMo (maOf (uI (uI (uI φ (r + 85) (16 * (16 * p + k) + e.n) x) (r + 83) (16 * p + k) (nI (e.n + 1))) (r + 84) (16 * p + k) (bI (rLa x))) r) (va_up mon p ((mon p).w_ws ((mon p).ws.set k (e.beat x)))) := by
  have hm := h p hp
  have hk := llt he
  have hlr := hm.lw
  have hA : maOf (uI (uI (uI φ (r + 85) (16 * (16 * p + k) + e.n) x) (r + 83) (16 * p + k) (nI (e.n + 1))) (r + 84) (16 * p + k) (bI (rLa x))) r = ((((maOf φ r).w_bea (va_up (φ.1 (r + 83)) (16 * p + k) (nI (e.n + 1)))).w_las (va_up (φ.1 (r + 84)) (16 * p + k) (bI (rLa x)))).w_str (va_up (φ.1 (r + 85)) (16 * (16 * p + k) + e.n) x)) := by simp [maOf, uI_1, uI_2, uI_3, uL_1, uL_2, uL_3, vz_at]
  rw [hA]
  refine VMo.set h ?_ (fun q hq hne => ?_)
  · refine ⟨by show ((mon p).ws.set k _).length ≤ 16; rw [List.length_set]; exact hm.lw, hm.lr, hm.hel, hm.tks, hm.rul, hm.rl, hm.cha, hm.tic, ?_, hm.nr, fun j y hy => ?_, fun j y hy i hi => ?_, hm.rs, hm.leg⟩
    · show _ = nI ((mon p).ws.set k _).length
      rw [List.length_set]
      exact hm.nw
    · have hy' : ((mon p).ws.set k (e.beat x))[j]? = some y := hy
      show φ.1 (r + 81) (16 * p + j) = bI y.has ∧ (y.has = true → φ.2.1 (r + 82) (16 * p + j) = y.con ∧ kiN y.con ≠ 3) ∧ va_up (φ.1 (r + 83)) (16 * p + k) (nI (e.n + 1)) (16 * p + j) = nI y.n ∧ va_up (φ.1 (r + 84)) (16 * p + k) (bI (rLa x)) (16 * p + j) = bI y.last ∧ y.n ≤ 16
      by_cases hjk : j = k
      · subst hjk
        rw [List.getElem?_set_self hk] at hy'
        cases hy'
        have hw := hm.ws j e he
        exact ⟨hw.1, hw.2.1, vz_same _ _ _, vz_same _ _ _, by show e.n + 1 ≤ 16; omega⟩
      · rw [List.getElem?_set_ne (Ne.symm hjk)] at hy'
        rw [vz_at, vz_at, if_neg (by omega), if_neg (by omega)]
        exact hm.ws j y hy'
    · have hy' : ((mon p).ws.set k (e.beat x))[j]? = some y := hy
      show va_up (φ.1 (r + 85)) (16 * (16 * p + k) + e.n) x (16 * (16 * p + j) + i) = y.rst i
      by_cases hjk : j = k
      · subst hjk
        rw [List.getElem?_set_self hk] at hy'
        cases hy'
        show _ = va_up e.rst e.n x i
        have hi' : i < e.n + 1 := hi
        rw [vz_at, vz_at]
        by_cases hie : i = e.n
        · rw [if_pos (by omega), if_pos hie]
        · rw [if_neg (by omega), if_neg hie]
          exact hm.st j e he i (by omega)
      · rw [List.getElem?_set_ne (Ne.symm hjk)] at hy'
        have h9 := (hm.ws j y hy').2.2.2.2
        rw [vz_at, if_neg (by omega)]
        exact hm.st j y hy' i hi
  · refine VM1.fr (h q hq) (fun c _ => ⟨rfl, rfl, rfl⟩) ⟨rfl, rfl, rfl, rfl, rfl, rfl⟩ (fun i hi => ⟨rfl, rfl, ?_, ?_, rfl, rfl⟩) (fun i j hi hj => ?_)
    · show va_up (φ.1 (r + 83)) (16 * p + k) (nI (e.n + 1)) (16 * q + i) = φ.1 (r + 83) (16 * q + i)
      rw [vz_at, if_neg (by omega)]
    · show va_up (φ.1 (r + 84)) (16 * p + k) (bI (rLa x)) (16 * q + i) = φ.1 (r + 84) (16 * q + i)
      rw [vz_at, if_neg (by omega)]
    · show va_up (φ.1 (r + 85)) (16 * (16 * p + k) + e.n) x (16 * (16 * q + i) + j) = φ.1 (r + 85) (16 * (16 * q + i) + j)
      rw [vz_at, if_neg (by omega)]
def kAll : List Nat := [76, 77, 78, 79, 80, 81, 82, 83, 84, 85, 86, 87]
theorem note_r (o : MO) (x c : Nat) (h : o.rule ≠ 0) : o.note x c = o := by unfold MO.note; rw [if_neg (fun hc => h hc.1)]
theorem note_ws (o : MO) (x c : Nat) : (o.note x c).ws = o.ws := by unfold MO.note; split <;> rfl
theorem r_goAw_L {Γ : gm_T} {r : Nat} {p j : Nat} (hp : p < 10) {e : MW} (hh : e.has = true) : ∀ (d k fu : Nat) (φ : ph_T) (S : XS), k + d = e.n → d < fu → RV Γ φ r S → (S.mon p).ws[j]? = some e → (S.mon p).rule = 0 →
    ∃ φ', f_Ref_goAw_L102 Γ fu φ r (nI p) (nI (16 * p + j)) (nI k) = some ((), φ') ∧ RV Γ φ' r (S.setM p ((S.mon p).note (badAll e d k) 0)) ∧ RFr r [76, 77, 78] φ φ' := by
  intro d
  induction d with
  | zero =>
    intro k fu φ S hd hf h he h0
    match fu, hf with
    | fu + 1, _ =>
      have hm := h.mo p hp
      have hj := llt he
      have hlw := hm.lw
      have hw := hm.ws j e he
      have w3 : φ.1 (r + 83) (16 * p + j) = nI e.n := hw.2.2.1
      have hn := hw.2.2.2.2
      unfold f_Ref_goAw_L102 f_Ref_goAw_L139 badAll
      simp (disch := first | assumption | omega) only [h.rl.o, rf_86 h.rl, rg_86 h.rl, rf_93 h.rl, rg_93 h.rl, Option.bind_some, if_true, zix, w3, ↓zm1, zI_ne_m, zI_m_ne, zI_lit, zI_le, zI_eq, zI_mul, zI_lt, zI_modn, zI_div, zI_sub, zI_add, zN_mod]
      rw [if_pos (show e.n ≤ k by omega)]
      exact r_note h p 0
  | succ d ih =>
    intro k fu φ S hd hf h he h0
    match fu, hf with
    | fu + 1, hf =>
      have hm := h.mo p hp
      have hj := llt he
      have hlw := hm.lw
      have hw := hm.ws j e he
      have w3 : φ.1 (r + 83) (16 * p + j) = nI e.n := hw.2.2.1
      have hn := hw.2.2.2.2
      have w0 : φ.1 (r + 76) p = nI 0 := by have : φ.1 (r + 76) p = nI (S.mon p).rule := hm.rul; rw [this, h0]
      obtain ⟨φ1, a1, a2, a3⟩ := r_checkBeat h (p := p) (j := j) (k := k) (ch := 0) hp he hh (by omega)
      unfold f_Ref_goAw_L102 f_Ref_goAw_L139
      simp (disch := first | assumption | omega) only [h.rl.o, rf_86 h.rl, rg_86 h.rl, rf_93 h.rl, rg_93 h.rl, Option.bind_some, if_true, zix, w3, w0, ↓zm1, zI_ne_m, zI_m_ne, zI_lit, zI_le, zI_eq, zI_mul, zI_lt, zI_modn, zI_div, zI_sub, zI_add, zN_mod, a1]
      rw [if_neg (show ¬ e.n ≤ k by omega)]
      unfold badAll
      by_cases hb : badB e k = 0
      · rw [if_neg (fun hc => hc hb)]
        rw [hb, note0, setM_self] at a2
        obtain ⟨φ2, b1, b2, b3⟩ := ih (k + 1) fu φ1 S (by omega) (by omega) a2 he h0
        exact ⟨φ2, b1, b2, a3.trans b3⟩
      · rw [if_pos hb]
        match fu, hf with
        | fu + 1, hf =>
          have hm1 := a2.mo p hp
          rw [setM_mon] at hm1
          have hr1 : ((S.mon p).note (badB e k) 0).rule ≠ 0 := by unfold MO.note; rw [if_pos ⟨h0, hb⟩]; exact hb
          have hws : ((S.mon p).note (badB e k) 0).ws[j]? = some e := by rw [note_ws]; exact he
          have w3' : φ1.1 (r + 83) (16 * p + j) = nI e.n := (hm1.ws j e hws).2.2.1
          have w0' : φ1.1 (r + 76) p = nI ((S.mon p).note (badB e k) 0).rule := hm1.rul
          have hrl := hm1.rl
          refine ⟨φ1, ?_, a2, a3⟩
          unfold f_Ref_goAw_L102 f_Ref_goAw_L139
          simp (disch := first | assumption | omega) only [rf_93 a2.rl, rg_93 a2.rl, rf_86 a2.rl, rg_86 a2.rl, a2.rl.o, Option.bind_some, if_true, zix, w3', w0', ↓zm1, zI_ne_m, zI_m_ne, zI_lit, zI_le, zI_eq, zI_mul, zI_lt, zI_modn, zI_div, zI_sub, zI_add, zN_mod]
          by_cases hk2 : e.n ≤ k + 1
          · rw [if_pos hk2]
          · rw [if_neg hk2, if_neg hr1]
theorem r_goAw74 {Γ : gm_T} {φ : ph_T} {r : Nat} {S : XS} (h : RV Γ φ r S) {p j : Nat} (hp : p < 10) {e : MW} (he : (S.mon p).ws[j]? = some e) (c : Int64) (hc : kiN c ≠ 3) (h0 : (S.mon p).rule = 0) :
    ∃ φ', f_Ref_goAw_L74 Γ φ r (nI p) c (nI (16 * p + j)) = some ((), φ') ∧ RV Γ φ' r (S.setM p ((((S.mon p).w_ws ((S.mon p).ws.set j ((e.w_has (true)).w_con (c)))) : MO).note (badAll ((e.w_has (true)).w_con (c)) e.n 0) 0)) ∧ RFr r [76, 77, 78, 81, 82] φ φ' := by
  have hm := h.mo p hp
  have hj := llt he
  have hlw := hm.lw
  have hn := (hm.ws j e he).2.2.2.2
  have hv := VMo.adr h.mo hp he c hc
  have f1 : RFr r [76, 77, 78, 81, 82] φ (uL (uI φ (r + 81) (16 * p + j) (nI 1)) (r + 82) (16 * p + j) c) := by repeat (first | exact RFr.refl _ _ _ | refine RFr.uI ?_ (by decide) _ _ | refine RFr.uL ?_ (by decide) _ _ | refine rfr_uO ?_ (by decide) _ _)
  have h1 := h.setM_mo (f1.mono (by decide)) hv
  obtain ⟨φ', b1, b2, b3⟩ := r_goAw_L (Γ := Γ) (r := r) hp (j := j) (e := ((e.w_has (true)).w_con (c))) rfl e.n 0 jF _ _ (Nat.zero_add _) (by unfold jF; omega) h1 (by rw [setM_mon]; exact List.getElem?_set_self hj) (by rw [setM_mon]; exact h0)
  rw [setM_mon, setM_setM] at b2
  refine ⟨φ', ?_, b2, f1.trans (b3.mono (by decide))⟩
  unfold f_Ref_goAw_L74
  simp (disch := first | assumption | omega) only [h.rl.o, rf_91 h.rl, rg_91 h.rl, rf_92 h.rl, rg_92 h.rl, Option.bind_some, if_true, zix, ↓zm1, zI_ne_m, zI_m_ne, zI_lit, zI_le, zI_eq, zI_mul, zI_lt, zI_modn, zI_div, zI_sub, zI_add, zN_mod, z_or1, if_false]
  exact b1
theorem r_goAw6 {Γ : gm_T} {φ : ph_T} {r : Nat} {S : XS} (h : RV Γ φ r S) {p : Nat} (hp : p < 10) (c : Int64) : ∀ d k fu, k + d = (S.mon p).ws.length → d < fu →
    f_Ref_goAw_L6 Γ fu φ r (nI p) c m1 (nI k) = f_Ref_goAw_L57 Γ φ r (nI p) c (oI ((fiF (fun e => !e.has) (S.mon p).ws k).map (16 * p + ·)) m1) := by
  have hm := h.mo p hp
  have hlw := hm.lw
  have e1 : φ.1 (r + 79) p = nI (S.mon p).ws.length := hm.nw
  intro d
  induction d with
  | zero =>
    intro k fu hd hf
    match fu, hf with
    | fu + 1, _ =>
      unfold f_Ref_goAw_L6
      simp (disch := first | assumption | omega) only [h.rl.o, rf_89 h.rl, rg_89 h.rl, rf_91 h.rl, rg_91 h.rl, Option.bind_some, if_true, zix, e1, ↓zm1, zI_ne_m, zI_m_ne, zI_lit, zI_le, zI_eq, zI_mul, zI_lt, zI_modn, zI_div, zI_sub, zI_add, zN_mod]
      rw [if_pos (show (S.mon p).ws.length ≤ k by omega), fiF_end (by omega)]
      rfl
  | succ d ih =>
    intro k fu hd hf
    match fu, hf with
    | fu + 1, hf =>
      obtain ⟨e, he⟩ := lget (l := (S.mon p).ws) (t := k) (by omega)
      have w1 : φ.1 (r + 81) (16 * p + k) = bI e.has := (hm.ws k e he).1
      unfold f_Ref_goAw_L6 f_Ref_goAw_L49
      simp (disch := first | assumption | omega) only [h.rl.o, rf_89 h.rl, rg_89 h.rl, rf_91 h.rl, rg_91 h.rl, Option.bind_some, if_true, zix, e1, w1, ↓zm1, zI_ne_m, zI_m_ne, zI_lit, zI_le, zI_eq, zI_mul, zI_lt, zI_modn, zI_div, zI_sub, zI_add, zN_mod, bI_eq0]
      rw [if_neg (show ¬ (S.mon p).ws.length ≤ k by omega), fiF_step he]
      cases hh : e.has with
      | true =>
        simp only [Bool.true_eq_false, if_false, Bool.not_true, Bool.false_eq_true]
        exact ih (k + 1) fu (by omega) (by omega)
      | false =>
        simp only [if_true, Bool.not_false, Option.map_some, oI]
        match fu, hf with
        | fu + 1, hf =>
          unfold f_Ref_goAw_L6
          simp (disch := first | assumption | omega) only [h.rl.o, rf_89 h.rl, rg_89 h.rl, rf_91 h.rl, rg_91 h.rl, Option.bind_some, if_true, zix, e1, ↓zm1, zI_ne_m, zI_m_ne, zI_lit, zI_le, zI_eq, zI_mul, zI_lt, zI_modn, zI_div, zI_sub, zI_add, zN_mod, if_false, ite_self]
theorem r_goAw {Γ : gm_T} {φ : ph_T} {r : Nat} {S : XS} (h : RV Γ φ r S) {p : Nat} (hp : p < 10) (c : Int64) (hc : kiN c ≠ 3) (h0 : (S.mon p).rule = 0) :
    ∃ φ', f_Ref_goAw Γ φ r (nI p) c = some ((), φ') ∧ RV Γ φ' r (S.setM p ((S.mon p).goAw c)) ∧ RFr r kAll φ φ' := by
  have hm := h.mo p hp
  have hlw := hm.lw
  unfold f_Ref_goAw MO.goAw
  rw [zI_0, zm1, r_goAw6 h hp c (S.mon p).ws.length 0 jF (Nat.zero_add _) (by unfold jF; omega), fiF_0]
  unfold f_Ref_goAw_L57
  cases hf : (S.mon p).ws.findIdx? (fun e => !e.has) with
  | some i =>
    obtain ⟨e, he, _, _⟩ := fi_some hf
    have hi := llt he
    simp (disch := first | assumption | omega) only [Option.map_some, oI, ↓zm1, zI_ne_m, if_false, he]
    obtain ⟨φ', b1, b2, b3⟩ := r_goAw74 h hp he c hc h0
    exact ⟨φ', b1, b2, b3.mono (by decide)⟩
  | none =>
    simp only [Option.map_none, oI, ↓zm1, if_true, h.rl.o, zI_lit]
    rcases r_newWrite h (p := p) (c := 0) hp with ⟨hl, φ', b1, b2, b3⟩ | ⟨hl, φ1, b1, b2, b3⟩
    · rw [b1, if_pos hl]
      refine ⟨φ', ?_, b2, b3.mono (by decide)⟩
      unfold f_Ref_goAw_L74
      simp only [Option.bind_some, ↓zm1, if_true]
    · rw [b1, if_neg (by omega)]
      simp only [Option.bind_some]
      obtain ⟨φ', c1, c2, c3⟩ := r_goAw74 b2 hp (j := (S.mon p).ws.length) (e := mw0) (by rw [setM_mon]; show ((S.mon p).ws ++ [mw0])[(S.mon p).ws.length]? = some mw0; simp) c hc (by rw [setM_mon]; exact h0)
      refine ⟨φ', c1, ?_, (b3.mono (by decide)).trans (c3.mono (by decide))⟩
      rw [setM_mon, setM_setM] at c2
      have e1 : ((S.mon p).ws ++ [mw0]).set (S.mon p).ws.length ((mw0.w_has (true)).w_con (c)) = (S.mon p).ws ++ [((mw0.w_has (true)).w_con (c))] := by simp
      have e2 : badAll ((mw0.w_has (true)).w_con (c)) mw0.n 0 = 0 := rfl
      rw [e2, note0] at c2
      simp only [MO.ws_w_ws] at c2
      rw [e1] at c2
      exact c2
