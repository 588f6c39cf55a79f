/-! THE REFERENCE shows a slave's wires, on -/
theorem bI_ok2 (b : Bool) : (b = false ∨ bI b = nI 1) ↔ True := by cases b <;> decide
def fin2 (T : XS) (s : Nat) (ob oR : Option Nat) : XS := (((T.setW (4 + s) 2 (wB_of (T.sw s) ob)).w_chr (va_up T.chr s oR)) : XS).setW (4 + s) 4 (wR_of (T.sr s) oR)
def pkR (T : XS) (s : Nat) (hd : Bool) : Option Nat := if hd = true then T.chr s else if on (T.spat s 4) T.time = true then T.chR s else none
def pkB (T : XS) (s : Nat) (hd : Bool) : Option Nat := if hd = true then T.chb s else if on (T.spat s 2) T.time = true then T.chW s else none
theorem r_sl346 {Γ : gm_T} {φ : ph_T} {r : Nat} {T : XS} (h : RV Γ φ r T) (hB : Bd T) {s : Nat} (hs : s < 4) {hd : Bool} (hh : φ.1 (r + 30) (5 * (4 + s) + 4) = bI hd) (hI : hd = true → ∃ i, T.chr s = some i) {o : Option Nat} (hch : φ.1 (r + 68) s = plW (T.sw s) o) (ho : ∀ i, o = some i → ∃ e, (T.sw s)[i]? = some e ∧ e.got = leN e.con) :
    ∃ φ', f_Ref_showSlave_L346 Γ φ r (nI s) (nI (5 * (4 + s))) = some ((), φ') ∧ RV Γ φ' r (fin2 T s o (pkR T s hd)) ∧ RFr r [26, 28, 29, 69] φ φ' := by
  unfold f_Ref_showSlave_L346 f_Ref_showSlave_L369
  cases o with
  | none =>
    obtain ⟨φ', e1, e2, e3⟩ := r_sl_R h hB hs hh hI false 0 0
    have e1' : f_Ref_showSlave_L401 Γ φ r (nI s) (nI (5 * (4 + s))) (nI 0) (nL 0) (nI 0) (nI (5 * (4 + s) + 2)) r = some ((), φ') := e1
    refine ⟨φ', ?_, e2, e3⟩
    simp (disch := first | assumption | omega) only [h.rl.o, rf_78 h.rl, rg_78 h.rl, Option.bind_some, if_true, zix, hch, plW_none, ↓zm1, zI_ne_m, zI_m_ne, zI_lit, zI_le, zI_eq, zI_mul, zI_lt, zI_modn, zI_div, zI_sub, zI_add, zN_mod, zL_lit, e1']
  | some i =>
    obtain ⟨e, he, hg⟩ := ho i rfl
    have h1 := h.sw.hat s i e hs he
    have h2 := h.sw.hent s i e hs he
    have h3 := hB.sw s e (lmem he)
    have hid := idN_lt e.con
    obtain ⟨φ', e1, e2, e3⟩ := r_sl_R h hB hs hh hI true 0 (nI (ansR (idN e.con) e.resp false))
    have e1' : f_Ref_showSlave_L401 Γ φ r (nI s) (nI (5 * (4 + s))) (nI (idN e.con + 64 * e.resp)) (nL 0) (nI 1) (nI (5 * (4 + s) + 2)) r = some ((), φ') := e1
    refine ⟨φ', ?_, by unfold fin2; rw [wB_some he]; exact e2, e3⟩
    rw [plW_some he] at hch
    simp (disch := first | assumption | omega) only [h.rl.o, rf_61 h.rl, rg_61 h.rl, rf_64 h.rl, rg_64 h.rl, rf_78 h.rl, rg_78 h.rl, Option.bind_some, if_true, zix, hch, h2, h2.2.2.2 hg, e_Ref_idOf, ↓zm1, zI_ne_m, zI_m_ne, zI_lit, zI_le, zI_eq, zI_mul, zI_lt, zI_modn, zI_div, zI_sub, zI_add, zN_mod, zL_lit]
    exact e1'
theorem r_sl287 {Γ : gm_T} {φ : ph_T} {r : Nat} {T : XS} (h : RV Γ φ r T) (hB : Bd T) {s : Nat} (hs : s < 4) {hd hd2 : Bool} (hh : φ.1 (r + 30) (5 * (4 + s) + 4) = bI hd) (hI : hd = true → ∃ i, T.chr s = some i) (hh2 : φ.1 (r + 30) (5 * (4 + s) + 2) = bI hd2) (hI2 : hd2 = true → ∃ i e, T.chb s = some i ∧ (T.sw s)[i]? = some e ∧ e.got = leN e.con) (b : Bool) :
    ∃ φ', f_Ref_showSlave_L287 Γ φ r (nI s) (nI (5 * (4 + s))) (bI b) (nI (5 * (4 + s) + 3)) (some (r + 27)) = some ((), φ') ∧ RV Γ φ' r (fin2 ((T.setR (4 + s) 3 b).w_chb (va_up T.chb s (pkB T s hd2))) s (pkB T s hd2) (pkR T s hd)) ∧ RFr r [26, 27, 28, 29, 68, 69] φ φ' := by
  obtain ⟨a2, a3⟩ := r_rdy h (p := 4 + s) (k := 3) (by omega) (by omega) b
  have hB1 : Bd (T.setR (4 + s) 3 b) := ⟨hB.nm, hB.ns, hB.lim, hB.pol, hB.time, hB.db, hB.moved, hB.pages, hB.mpat, hB.spat, hB.delay, hB.way, hB.mem, hB.sw, hB.sr, hB.rnum, hB.lat, hB.uw, hB.ur, hB.la, hB.lr, hB.lb, hB.lg, hB.rgt, hB.rowT, hB.tk⟩
  have hpat := hB.spat s 2
  have htm := hB.time
  unfold f_Ref_showSlave_L287 f_Ref_showSlave_L345
  simp only [Option.bind_some, h.rl.o, if_true, rg_34 h.rl, bI_ok, bI_ok2, zI_lit, rf_37 h.rl, rg_37 h.rl, zI_add]
  rw [zix (show 5 * (4 + s) + 3 < 40 by omega)]
  simp only [Option.bind_some]
  rw [zix (show 5 * (4 + s) + 2 < 40 by omega)]
  simp only [Option.bind_some, a3.i 30 (by decide), hh2]
  unfold pkB
  cases hd2 with
  | true =>
    obtain ⟨i, e, hi, he, hg⟩ := hI2 rfl
    rw [if_neg (by decide)]
    obtain ⟨e', he', hce⟩ := h.ch.hchb s i hs hi
    rw [he] at he'
    cases he'
    obtain ⟨φ2, b1, b2, b3⟩ := r_sl346 a2 hB1 hs (hd := hd) (by rw [a3.i 30 (by decide)]; exact hh) hI (o := some i) (by rw [a3.i 68 (by decide), hce]; exact (plW_some he).symm) (fun j hj => by cases hj; exact ⟨e, he, hg⟩)
    refine ⟨φ2, b1, ?_, (a3.mono (by decide)).trans (b3.mono (by decide))⟩
    simp only [if_true, hi]
    have : va_up T.chb s (some i) = T.chb := by
      funext q
      simp only [vz_at]
      split
      · rename_i hq; rw [hq, hi]
      · rfl
    rw [this]
    exact b2
  | false =>
    rw [if_pos (by decide)]
    have hcr : f_Ref_chooseWrite Γ (uI φ (r + 27) (5 * (4 + s) + 3) (bI b)) r (nI s) = some (plW (T.sw s) (T.chW s), uI φ (r + 27) (5 * (4 + s) + 3) (bI b)) := r_chooseW a2 hB1 hs
    have hp' : (uI φ (r + 27) (5 * (4 + s) + 3) (bI b)).1 (r + 3) (5 * s + 2) = nI (T.spat s 2) := a2.sp s 2 hs (by omega)
    have ht' : (uI φ (r + 27) (5 * (4 + s) + 3) (bI b)).1 r 6 = nI T.time := a2.sc.time
    generalize hφ1 : uI φ (r + 27) (5 * (4 + s) + 3) (bI b) = φ1 at *
    have hrl : RL Γ φ1 r := a2.rl
    simp only [hcr, Option.bind_some, rf_78 h.rl, rg_78 h.rl, rf_78 hrl, rg_78 hrl, rf_9 hrl, rg_9 hrl, zI_mul, zI_add, uI_3]
    simp (disch := first | assumption | omega) only [zix, Option.bind_some, uI_1, uI_2, uI_3, uL_1, uL_2, uL_3, vz_at, Nat.add_left_cancel_iff, Nat.reduceEqDiff, if_false, zr1, zr2, hp', ht', e_tells, rf_78 hrl, rg_78 hrl, bI_eq0, if_true, vz_same, ↓zm1]
    have fin : ∀ o : Option Nat, (∀ i, o = some i → ∃ e, (T.sw s)[i]? = some e ∧ e.got = leN e.con) → ∃ φ', f_Ref_showSlave_L346 Γ (uI (uI φ1 (r + 68) s (plW (T.sw s) (T.chW s))) (r + 68) s (plW (T.sw s) o)) r (nI s) (nI (5 * (4 + s))) = some ((), φ') ∧ RV Γ φ' r (fin2 ((T.setR (4 + s) 3 b).w_chb (va_up T.chb s o)) s o (pkR T s hd)) ∧ RFr r [26, 27, 28, 29, 68, 69] φ φ' := by
      intro o ho
      have f : RFr r [68] φ1 (uI (uI φ1 (r + 68) s (plW (T.sw s) (T.chW s))) (r + 68) s (plW (T.sw s) o)) := by repeat (first | exact RFr.refl _ _ _ | refine RFr.uI ?_ (by decide) _ _ | refine RFr.uL ?_ (by decide) _ _ | refine rfr_uO ?_ (by decide) _ _)
      have hv : VCh (φ1.1 (r + 66)) (φ1.1 (r + 67)) (va_up (va_up (φ1.1 (r + 68)) s (plW (T.sw s) (T.chW s))) s (plW (T.sw s) o)) (φ1.1 (r + 69)) ((T.setR (4 + s) 3 b).w_chb (va_up T.chb s o)) := by
        rw [vz_va]
        exact VCh.setB a2.ch (fun i hi => by obtain ⟨e, he, _⟩ := ho i hi; exact llt he)
      have h2 : RV Γ (uI (uI φ1 (r + 68) s (plW (T.sw s) (T.chW s))) (r + 68) s (plW (T.sw s) o)) r ((T.setR (4 + s) 3 b).w_chb (va_up T.chb s o)) := ⟨(RL.up a2.rl (congrFun f.1 r)), (by rw [f.o (by decide)]; exact ⟨a2.sc.nm, a2.sc.ns, a2.sc.lim, a2.sc.pol, a2.sc.whole, a2.sc.time, a2.sc.tk, a2.sc.wm, a2.sc.rm, a2.sc.db, a2.sc.er⟩), (by rw [f.i 1 (by decide)]; exact a2.pg), (by rw [f.i 2 (by decide)]; exact a2.mp), (by rw [f.i 3 (by decide)]; exact a2.sp), (by rw [f.i 4 (by decide)]; exact a2.ea), (by rw [f.i 5 (by decide)]; exact a2.de), (by rw [f.i 6 (by decide)]; exact a2.wa), (by rw [f.i 7 (by decide), f.i 8 (by decide)]; exact a2.me), (by rw [f.i 9 (by decide), f.i 10 (by decide), f.i 11 (by decide), f.i 12 (by decide), f.i 13 (by decide), f.i 14 (by decide), f.i 15 (by decide), f.i 16 (by decide), f.i 17 (by decide), f.i 18 (by decide), f.i 20 (by decide), f.i 21 (by decide), f.i 22 (by decide), f.i 23 (by decide), f.i 24 (by decide), f.l 19 (by decide), f.l 25 (by decide)]; exact a2.tk), (by rw [f.i 26 (by decide), f.i 27 (by decide), f.l 28 (by decide), f.i 29 (by decide)]; exact a2.wi), (by rw [f.i 31 (by decide)]; exact a2.tr), (by rw [f.l 32 (by decide), f.i 33 (by decide), f.i 34 (by decide), f.i 35 (by decide)]; exact a2.row), (by rw [f.i 36 (by decide), f.i 37 (by decide), f.i 38 (by decide), f.i 39 (by decide)]; exact a2.uw), (by rw [f.i 40 (by decide), f.i 41 (by decide), f.i 42 (by decide)]; exact a2.ur), (by rw [f.i 43 (by decide), f.i 44 (by decide), f.i 45 (by decide), f.i 46 (by decide), f.i 47 (by decide)]; exact ⟨a2.la.haw, a2.la.har, a2.la.hb, a2.la.hg, a2.la.hinn⟩), (by rw [f.i 48 (by decide), f.i 49 (by decide), f.i 50 (by decide), f.l 51 (by decide), f.i 52 (by decide), f.i 53 (by decide), f.i 54 (by decide), f.l 55 (by decide), f.i 56 (by decide)]; exact a2.sw), (by rw [f.i 57 (by decide), f.i 58 (by decide), f.i 59 (by decide), f.l 60 (by decide), f.i 61 (by decide), f.i 62 (by decide), f.i 63 (by decide), f.l 64 (by decide), f.i 65 (by decide)]; exact a2.sr), (by simpa [uI_1, uI_2, uI_3, uL_1, uL_2, uL_3, vz_at] using hv), (by rw [f.i 70 (by decide), f.i 71 (by decide)]; exact a2.rg), (by unfold maOf; rw [f.i 72 (by decide), f.l 73 (by decide), f.i 74 (by decide), f.i 75 (by decide), f.i 76 (by decide), f.i 77 (by decide), f.i 78 (by decide), f.i 79 (by decide), f.i 80 (by decide), f.i 81 (by decide), f.l 82 (by decide), f.i 83 (by decide), f.i 84 (by decide), f.i 85 (by decide), f.l 86 (by decide), f.i 87 (by decide)]; exact a2.mo), (by rw [f.i 88 (by decide), f.i 89 (by decide), f.l 90 (by decide), f.i 91 (by decide)]; exact a2.wt)⟩
      obtain ⟨φ2, b1, b2, b3⟩ := r_sl346 h2 (⟨hB.nm, hB.ns, hB.lim, hB.pol, hB.time, hB.db, hB.moved, hB.pages, hB.mpat, hB.spat, hB.delay, hB.way, hB.mem, hB.sw, hB.sr, hB.rnum, hB.lat, hB.uw, hB.ur, hB.la, hB.lr, hB.lb, hB.lg, hB.rgt, hB.rowT, hB.tk⟩) hs (hd := hd) (by rw [f.i 30 (by decide), a3.i 30 (by decide)]; exact hh) hI (o := o) (by simp [uI_1, uI_2, uI_3, uL_1, uL_2, uL_3, vz_at]; rfl) ho
      exact ⟨φ2, b1, b2, ((a3.mono (by decide)).trans (f.mono (by decide))).trans (b3.mono (by decide))⟩
    cases hon : on (T.spat s 2) T.time with
    | true =>
      have := fin (T.chW s) (fun i hi => chW_done T s hi)
      simp only [Bool.false_eq_true, Bool.true_eq_false, if_false, if_true]
      exact this
    | false =>
      have := fin none (by intro i hi; cases hi)
      simp only [Bool.false_eq_true, if_false, if_true]
      exact this
theorem r_sl244 {Γ : gm_T} {φ : ph_T} {r : Nat} {T : XS} (h : RV Γ φ r T) (hB : Bd T) {s : Nat} (hs : s < 4) {hd hd2 : Bool} (hh : φ.1 (r + 30) (5 * (4 + s) + 4) = bI hd) (hI : hd = true → ∃ i, T.chr s = some i) (hh2 : φ.1 (r + 30) (5 * (4 + s) + 2) = bI hd2) (hI2 : hd2 = true → ∃ i e, T.chb s = some i ∧ (T.sw s)[i]? = some e ∧ e.got = leN e.con) (b : Bool) :
    ∃ φ', f_Ref_showSlave_L244 Γ φ r (nI s) (nI (5 * (4 + s))) (bI b) (nI (5 * (4 + s) + 1)) (some (r + 27)) = some ((), φ') ∧ RV Γ φ' r (fin2 (((T.setR (4 + s) 1 b).setR (4 + s) 3 (on (T.spat s 3) T.time && decide ((T.sr s).length < 4))).w_chb (va_up T.chb s (pkB T s hd2))) s (pkB T s hd2) (pkR T s hd)) ∧ RFr r [26, 27, 28, 29, 68, 69] φ φ' := by
  obtain ⟨a2, a3⟩ := r_rdy h (p := 4 + s) (k := 1) (by omega) (by omega) b
  have hB1 : Bd (T.setR (4 + s) 1 b) := ⟨hB.nm, hB.ns, hB.lim, hB.pol, hB.time, hB.db, hB.moved, hB.pages, hB.mpat, hB.spat, hB.delay, hB.way, hB.mem, hB.sw, hB.sr, hB.rnum, hB.lat, hB.uw, hB.ur, hB.la, hB.lr, hB.lb, hB.lg, hB.rgt, hB.rowT, hB.tk⟩
  have hpat := hB.spat s 3
  have htm := hB.time
  have hle := h.sr.hle s hs
  have hp' : (uI φ (r + 27) (5 * (4 + s) + 1) (bI b)).1 (r + 3) (5 * s + 3) = nI (T.spat s 3) := a2.sp s 3 hs (by omega)
  have ht' : (uI φ (r + 27) (5 * (4 + s) + 1) (bI b)).1 r 6 = nI T.time := a2.sc.time
  have hm' : (uI φ (r + 27) (5 * (4 + s) + 1) (bI b)).1 (r + 57) s = nI (T.sr s).length := a2.sr.hmany s hs
  have key := fun b2 : Bool => r_sl287 a2 hB1 hs (hd := hd) (hd2 := hd2) (by rw [a3.i 30 (by decide)]; exact hh) hI (by rw [a3.i 30 (by decide)]; exact hh2) hI2 b2
  generalize hφ1 : uI φ (r + 27) (5 * (4 + s) + 1) (bI b) = φ1 at *
  have hrl : RL Γ φ1 r := a2.rl
  unfold f_Ref_showSlave_L244 f_Ref_showSlave_L286
  simp (disch := first | assumption | omega) only [Option.bind_some, h.rl.o, if_true, rg_34 h.rl, rf_34 h.rl, bI_ok, bI_ok2, zI_lit, rf_9 h.rl, rg_9 h.rl, zI_add, zI_mul, zix, hφ1, hp', ht', e_tells, bI_eq0, rf_67 hrl, rg_67 hrl, hm', zI_le]
  have fin : ∀ b2 : Bool, b2 = (on (T.spat s 3) T.time && decide ((T.sr s).length < 4)) → ∃ φ', f_Ref_showSlave_L287 Γ φ1 r (nI s) (nI (5 * (4 + s))) (bI b2) (nI (5 * (4 + s) + 3)) (some (r + 27)) = some ((), φ') ∧ RV Γ φ' r (fin2 (((T.setR (4 + s) 1 b).setR (4 + s) 3 (on (T.spat s 3) T.time && decide ((T.sr s).length < 4))).w_chb (va_up T.chb s (pkB T s hd2))) s (pkB T s hd2) (pkR T s hd)) ∧ RFr r [26, 27, 28, 29, 68, 69] φ φ' := by
    intro b2 hb2
    obtain ⟨φ2, g1, g2, g3⟩ := key b2
    rw [← hb2]
    exact ⟨φ2, g1, g2, (a3.mono (by decide)).trans g3⟩
  cases hon : on (T.spat s 3) T.time with
  | false =>
    rw [hon] at fin
    simp only [if_true]
    exact fin false rfl
  | true =>
    rw [hon] at fin
    simp only [Bool.true_eq_false, if_false]
    by_cases hl : 4 ≤ (T.sr s).length
    · rw [if_pos hl]
      exact fin false (by simp; omega)
    · rw [if_neg hl]
      exact fin true (by simp; omega)
theorem r_sl207 {Γ : gm_T} {φ : ph_T} {r : Nat} {T : XS} (h : RV Γ φ r T) (hB : Bd T) {s : Nat} (hs : s < 4) {hd hd2 : Bool} (hh : φ.1 (r + 30) (5 * (4 + s) + 4) = bI hd) (hI : hd = true → ∃ i, T.chr s = some i) (hh2 : φ.1 (r + 30) (5 * (4 + s) + 2) = bI hd2) (hI2 : hd2 = true → ∃ i e, T.chb s = some i ∧ (T.sw s)[i]? = some e ∧ e.got = leN e.con) (b la : Bool) :
    ∃ φ', f_Ref_showSlave_L207 Γ φ r (nI s) (nI (5 * (4 + s))) (bI la) (bI b) (nI (5 * (4 + s) + 0)) (some (r + 27)) = some ((), φ') ∧ RV Γ φ' r (fin2 ((((T.setR (4 + s) 0 b).setR (4 + s) 1 (on (T.spat s 1) T.time && la)).setR (4 + s) 3 (on (T.spat s 3) T.time && decide ((T.sr s).length < 4))).w_chb (va_up T.chb s (pkB T s hd2))) s (pkB T s hd2) (pkR T s hd)) ∧ RFr r [26, 27, 28, 29, 68, 69] φ φ' := by
  obtain ⟨a2, a3⟩ := r_rdy h (p := 4 + s) (k := 0) (by omega) (by omega) b
  have hB1 : Bd (T.setR (4 + s) 0 b) := ⟨hB.nm, hB.ns, hB.lim, hB.pol, hB.time, hB.db, hB.moved, hB.pages, hB.mpat, hB.spat, hB.delay, hB.way, hB.mem, hB.sw, hB.sr, hB.rnum, hB.lat, hB.uw, hB.ur, hB.la, hB.lr, hB.lb, hB.lg, hB.rgt, hB.rowT, hB.tk⟩
  have hpat := hB.spat s 1
  have htm := hB.time
  have hp' : (uI φ (r + 27) (5 * (4 + s) + 0) (bI b)).1 (r + 3) (5 * s + 1) = nI (T.spat s 1) := a2.sp s 1 hs (by omega)
  have ht' : (uI φ (r + 27) (5 * (4 + s) + 0) (bI b)).1 r 6 = nI T.time := a2.sc.time
  have key := fun b2 : Bool => r_sl244 a2 hB1 hs (hd := hd) (hd2 := hd2) (by rw [a3.i 30 (by decide)]; exact hh) hI (by rw [a3.i 30 (by decide)]; exact hh2) hI2 b2
  generalize hφ1 : uI φ (r + 27) (5 * (4 + s) + 0) (bI b) = φ1 at *
  unfold f_Ref_showSlave_L207 f_Ref_showSlave_L243
  simp (disch := first | assumption | omega) only [Option.bind_some, h.rl.o, if_true, rg_34 h.rl, rf_34 h.rl, bI_ok, bI_ok2, zI_lit, rf_9 h.rl, rg_9 h.rl, zI_add, zI_mul, zix, hφ1, hp', ht', e_tells, bI_eq0]
  have fin : ∀ b2 : Bool, b2 = (on (T.spat s 1) T.time && la) → ∃ φ', f_Ref_showSlave_L244 Γ φ1 r (nI s) (nI (5 * (4 + s))) (bI b2) (nI (5 * (4 + s) + 1)) (some (r + 27)) = some ((), φ') ∧ RV Γ φ' r (fin2 ((((T.setR (4 + s) 0 b).setR (4 + s) 1 (on (T.spat s 1) T.time && la)).setR (4 + s) 3 (on (T.spat s 3) T.time && decide ((T.sr s).length < 4))).w_chb (va_up T.chb s (pkB T s hd2))) s (pkB T s hd2) (pkR T s hd)) ∧ RFr r [26, 27, 28, 29, 68, 69] φ φ' := by
    intro b2 hb2
    obtain ⟨φ2, g1, g2, g3⟩ := key b2
    rw [← hb2]
    exact ⟨φ2, g1, g2, (a3.mono (by decide)).trans g3⟩
  cases hon : on (T.spat s 1) T.time with
  | false =>
    rw [hon] at fin
    simp only [if_true]
    exact fin false rfl
  | true =>
    rw [hon] at fin
    simp only [Bool.true_eq_false, if_false]
    cases la with
    | false =>
      simp only [if_true]
      exact fin false rfl
    | true =>
      simp only [Bool.true_eq_false, if_false]
      exact fin true rfl
