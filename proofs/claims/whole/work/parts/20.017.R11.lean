/-! THE REFERENCE shows a slave's wires -/
theorem plR_some {l : List QE} {i : Nat} {e : QE} (h : l[i]? = some e) : plR l (some i) = nI e.place := by unfold plR; simp [h, oI]
theorem plR_none (l : List QE) : plR l none = m1 := rfl
theorem plW_some {l : List WE} {i : Nat} {e : WE} (h : l[i]? = some e) : plW l (some i) = nI e.place := by unfold plW; simp [h, oI]
theorem plW_none (l : List WE) : plW l none = m1 := rfl
def wR_of (l : List QE) (o : Option Nat) : WV := match o.bind (fun i => l[i]?) with
  | some e => wvR e
  | none => WV0
def wB_of (l : List WE) (o : Option Nat) : WV := match o.bind (fun i => l[i]?) with
  | some e => wvB e
  | none => WV0
theorem wR_some {l : List QE} {i : Nat} {e : QE} (h : l[i]? = some e) : wR_of l (some i) = wvR e := by unfold wR_of; simp [h]
theorem wB_some {l : List WE} {i : Nat} {e : WE} (h : l[i]? = some e) : wB_of l (some i) = wvB e := by unfold wB_of; simp [h]
theorem r_sl462 {Γ : gm_T} {φ : ph_T} {r : Nat} {T : XS} (h : RV Γ φ r T) (hB : Bd T) {s : Nat} (hs : s < 4) {o : Option Nat} (hch : φ.1 (r + 69) s = plR (T.sr s) o) (ho : ∀ i, o = some i → i < (T.sr s).length) :
    ∃ φ', f_Ref_showSlave_L462 Γ φ r (nI s) (nI (5 * (4 + s))) = some ((), φ') ∧ RV Γ φ' r (T.setW (4 + s) 4 (wR_of (T.sr s) o)) ∧ RFr r [26, 28, 29] φ φ' := by
  cases o with
  | none =>
    obtain ⟨φ', e1, e2, e3⟩ := r_show h (p := 4 + s) (k := 4) (by omega) (by omega) false 0 0
    have e1' : f_Ref_show Γ φ r (nI (5 * (4 + s) + 4)) (nI 0) (nL 0) (nI 0) = some ((), φ') := e1
    refine ⟨φ', ?_, e2, e3⟩
    unfold f_Ref_showSlave_L462
    simp (disch := first | assumption | omega) only [h.rl.o, rf_70 h.rl, rg_70 h.rl, rf_71 h.rl, rg_71 h.rl, rf_79 h.rl, rg_79 h.rl, Option.bind_some, if_true, zix, hch, plR_none, ↓zm1, zI_ne_m, zI_m_ne, zI_lit, zI_le, zI_eq, zI_mul, zI_lt, zI_modn, zI_div, zI_sub, zI_add, zN_mod, zL_lit, e1']
  | some i =>
    obtain ⟨e, he⟩ := lget (l := T.sr s) (t := i) (ho i rfl)
    have h1 := h.sr.hat s i e hs he
    have h2 := h.sr.hent s i e hs he
    have h3 := hB.sr s e (lmem he)
    have h4 := h.sr.hdat s i e hs he e.got h3.2.2.1
    have hle := leN_le e.con
    have hid := idN_lt e.con
    have h5 := h3.2.2.2.2 e.got
    obtain ⟨φ', e1, e2, e3⟩ := r_show h (p := 4 + s) (k := 4) (by omega) (by omega) true (e.dat e.got) (nI (ansR (idN e.con) (e.rsp e.got) (decide (e.got = leN e.con - 1))))
    have e1' : f_Ref_show Γ φ r (nI (5 * (4 + s) + 4)) (nI 1) (e.dat e.got) (nI (ansR (idN e.con) (e.rsp e.got) (decide (e.got = leN e.con - 1)))) = some ((), φ') := e1
    refine ⟨φ', ?_, by rw [wR_some he]; exact e2, e3⟩
    unfold f_Ref_showSlave_L462 f_Ref_showSlave_L518 f_Ref_showSlave_L577
    rw [plR_some he] at hch
    simp (disch := first | assumption | omega) only [h.rl.o, rf_70 h.rl, rg_70 h.rl, rf_71 h.rl, rg_71 h.rl, rf_74 h.rl, rg_74 h.rl, rf_75 h.rl, rg_75 h.rl, rf_79 h.rl, rg_79 h.rl, Option.bind_some, if_true, zix, hch, h2, e_Ref_lengthOf, e_Ref_idOf, ↓zm1, zI_ne_m, zI_m_ne, zI_lit, zI_le, zI_eq, zI_mul, zI_lt, zI_modn, zI_div, zI_sub, zI_add, zN_mod]
    simp (disch := first | assumption | omega) only [h4, zix, Option.bind_some, ↓zm1, zI_ne_m, zI_m_ne, zI_lit, zI_le, zI_eq, zI_mul, zI_lt, zI_modn, zI_div, zI_sub, zI_add, zN_mod, h.rl.o, rf_70 h.rl, rg_70 h.rl, rf_71 h.rl, rg_71 h.rl, rf_74 h.rl, rg_74 h.rl, rf_75 h.rl, rg_75 h.rl, rf_79 h.rl, rg_79 h.rl]
    unfold ansR at e1'
    by_cases hc : e.got = leN e.con - 1
    · simp only [hc, if_true, decide_true] at e1' ⊢
      simp only [show ¬ (1 = 0) by omega, if_false, e1', Option.bind_some]
    · simp only [hc, if_false, decide_false, Bool.false_eq_true] at e1' ⊢
      simp only [if_true, e1', Option.bind_some]
theorem VCh.setR {nums lat chb chr : aI} {S : XS} (h : VCh nums lat chb chr S) {s : Nat} {o : Option Nat} (ho : ∀ i, o = some i → i < (S.sr s).length) : VCh nums lat chb (va_up chr s (plR (S.sr s) o)) (S.w_chr (va_up S.chr s o)) := by
  refine ⟨h.hnums, h.hlat, h.hchb, fun q i hq hi => ?_⟩
  simp only [XS.chr_w_chr, XS.sr_w_chr, vz_at] at hi ⊢
  by_cases hqs : q = s
  · subst hqs
    simp only [if_true] at hi ⊢
    subst hi
    obtain ⟨e, he⟩ := lget (l := S.sr q) (t := i) (ho i rfl)
    exact ⟨e, he, plR_some he⟩
  · simp only [hqs, if_false] at hi ⊢
    exact h.hchr q i hq hi
theorem VCh.setB {nums lat chb chr : aI} {S : XS} (h : VCh nums lat chb chr S) {s : Nat} {o : Option Nat} (ho : ∀ i, o = some i → i < (S.sw s).length) : VCh nums lat (va_up chb s (plW (S.sw s) o)) chr (S.w_chb (va_up S.chb s o)) := by
  refine ⟨h.hnums, h.hlat, fun q i hq hi => ?_, h.hchr⟩
  simp only [XS.chb_w_chb, XS.sw_w_chb, vz_at] at hi ⊢
  by_cases hqs : q = s
  · subst hqs
    simp only [if_true] at hi ⊢
    subst hi
    obtain ⟨e, he⟩ := lget (l := S.sw q) (t := i) (ho i rfl)
    exact ⟨e, he, plW_some he⟩
  · simp only [hqs, if_false] at hi ⊢
    exact h.hchb q i hq hi
theorem orlt {a b : Option Nat} {n : Nat} (ha : ∀ i, a = some i → i < n) (hb : ∀ i, b = some i → i < n) : ∀ i, a.or b = some i → i < n := by
  intro i h
  cases a with
  | none => exact hb i (by simpa using h)
  | some x => exact ha i (by simpa using h)
theorem chR_lt (S : XS) (s : Nat) : ∀ i, S.chR s = some i → i < (S.sr s).length := by
  intro i h
  unfold XS.chR at h
  split at h
  · exact orlt (fun _ => frsN_lt) (fun _ => frsN_lt) i h
  · split at h
    · exact orlt (fun _ => frsN_lt) (fun _ => lstN_lt) i h
    · exact lstN_lt h
theorem chW_lt (S : XS) (s : Nat) : ∀ i, S.chW s = some i → i < (S.sw s).length := fun i h => lstN_lt h
theorem lstN_p {p : Nat → Bool} : ∀ {n i : Nat}, lstN p n = some i → p i = true := by
  intro n
  induction n with
  | zero => intro i h; cases h
  | succ n ih =>
    intro i h
    rw [lstN_succ] at h
    split at h
    · cases h; assumption
    · exact ih h
theorem chW_done (S : XS) (s : Nat) {i : Nat} (h : S.chW s = some i) : ∃ e, (S.sw s)[i]? = some e ∧ e.got = leN e.con := by
  have h1 := lstN_p h
  unfold XS.canW at h1
  split at h1
  · cases h1
  · rename_i e he
    refine ⟨e, he, ?_⟩
    unfold XS.ripeW at h1
    simp at h1
    exact h1.1.1
def InvR (S : XS) (s : Nat) : Prop := hdW (S.wi (4 + s)) 4 = true → ∃ i e, S.chr s = some i ∧ (S.sr s)[i]? = some e ∧ (S.wi (4 + s)).w 4 = wvR e
def InvB (S : XS) (s : Nat) : Prop := hdW (S.wi (4 + s)) 2 = true → ∃ i e, S.chb s = some i ∧ (S.sw s)[i]? = some e ∧ e.got = leN e.con ∧ (S.wi (4 + s)).w 2 = wvB e
/-- the last part: the beat of a read -/
theorem r_sl_R {Γ : gm_T} {φ : ph_T} {r : Nat} {T : XS} (h : RV Γ φ r T) (hB : Bd T) {s : Nat} (hs : s < 4) {hd : Bool} (hh : φ.1 (r + 30) (5 * (4 + s) + 4) = bI hd) (hI : hd = true → ∃ i, T.chr s = some i) (b : Bool) (c : Int64) (rr : Int32) :
    ∃ φ', f_Ref_showSlave_L401 Γ φ r (nI s) (nI (5 * (4 + s))) rr c (bI b) (nI (5 * (4 + s) + 2)) r = some ((), φ') ∧
      RV Γ φ' r ((((T.setW (4 + s) 2 ⟨b, if b = true then c else 0, if b = true then rr else 0⟩).w_chr (va_up T.chr s (if hd = true then T.chr s else if on (T.spat s 4) T.time = true then T.chR s else none))) : XS).setW (4 + s) 4 (wR_of (T.sr s) (if hd = true then T.chr s else if on (T.spat s 4) T.time = true then T.chR s else none))) ∧ RFr r [26, 28, 29, 69] φ φ' := by
  obtain ⟨φ1, a1, a2, a3⟩ := r_show h (p := 4 + s) (k := 2) (by omega) (by omega) b c rr
  have hB1 : Bd (T.setW (4 + s) 2 ⟨b, if b = true then c else 0, if b = true then rr else 0⟩) := ⟨hB.nm, hB.ns, hB.lim, hB.pol, hB.time, hB.db, hB.moved, hB.pages, hB.mpat, hB.spat, hB.delay, hB.way, hB.mem, hB.sw, hB.sr, hB.rnum, hB.lat, hB.uw, hB.ur, hB.la, hB.lr, hB.lb, hB.lg, hB.rgt, hB.rowT, hB.tk⟩
  have hpat := hB.spat s 4
  have htm := hB.time
  unfold f_Ref_showSlave_L401 f_Ref_showSlave_L461
  simp only [h.rl.o, if_true, a1, Option.bind_some, rf_37 a2.rl, rg_37 a2.rl, zI_lit, zI_add]
  rw [zix (show 5 * (4 + s) + 4 < 40 by omega)]
  simp only [Option.bind_some, a3.i 30 (by decide), hh]
  cases hd with
  | true =>
    obtain ⟨i, hi⟩ := hI rfl
    rw [if_neg (by decide)]
    obtain ⟨e, he, hce⟩ := h.ch.hchr s i hs hi
    obtain ⟨φ2, b1, b2, b3⟩ := r_sl462 a2 hB1 hs (o := some i) (by rw [a3.i 69 (by decide), hce]; exact (plR_some he).symm) (fun j hj => by cases hj; exact llt he)
    refine ⟨φ2, b1, ?_, (a3.mono (by decide)).trans (b3.mono (by decide))⟩
    simp only [if_true, hi]
    have : va_up T.chr s (some i) = T.chr := by
      funext q
      simp only [vz_at]
      split
      · rename_i hq; rw [hq, hi]
      · rfl
    rw [this]
    exact b2
  | false =>
    rw [if_pos (by decide)]
    have hcr := r_chooseR a2 hB1 hs
    have hp := a2.sp s 4 hs (by omega)
    have ht := a2.sc.time
    have hchR : (T.setW (4 + s) 2 ⟨b, if b = true then c else 0, if b = true then rr else 0⟩).chR s = T.chR s := rfl
    rw [hchR] at hcr
    have hcr' : f_Ref_chooseRead Γ φ1 r (nI s) = some (plR (T.sr s) (T.chR s), φ1) := hcr
    have hp' : φ1.1 (r + 3) (5 * s + 4) = nI (T.spat s 4) := hp
    have ht' : φ1.1 r 6 = nI T.time := ht
    simp only [hcr', Option.bind_some, rf_79 a2.rl, rg_79 a2.rl, rf_9 a2.rl, rg_9 a2.rl, zI_mul, zI_add, uI_3]
    simp (disch := first | assumption | omega) only [zix, Option.bind_some, uI_1, uI_2, uI_3, uL_1, uL_2, uL_3, vz_at, Nat.add_left_cancel_iff, Nat.reduceEqDiff, if_false, zr1, zr2, hp', ht', e_tells, rf_79 a2.rl, rg_79 a2.rl, bI_eq0, if_true, vz_same, ↓zm1]
    have fin : ∀ o : Option Nat, (∀ i, o = some i → i < (T.sr s).length) → ∃ φ', f_Ref_showSlave_L462 Γ (uI (uI φ1 (r + 69) s (plR (T.sr s) (T.chR s))) (r + 69) s (plR (T.sr s) o)) r (nI s) (nI (5 * (4 + s))) = some ((), φ') ∧ RV Γ φ' r ((((T.setW (4 + s) 2 ⟨b, if b = true then c else 0, if b = true then rr else 0⟩).w_chr (va_up T.chr s o)) : XS).setW (4 + s) 4 (wR_of (T.sr s) o)) ∧ RFr r [26, 28, 29, 69] φ φ' := by
      intro o ho
      have f : RFr r [69] φ1 (uI (uI φ1 (r + 69) s (plR (T.sr s) (T.chR s))) (r + 69) s (plR (T.sr s) o)) := by repeat (first | exact RFr.refl _ _ _ | refine RFr.uI ?_ (by decide) _ _ | refine RFr.uL ?_ (by decide) _ _ | refine rfr_uO ?_ (by decide) _ _)
      have hv : VCh (φ1.1 (r + 66)) (φ1.1 (r + 67)) (φ1.1 (r + 68)) (va_up (va_up (φ1.1 (r + 69)) s (plR (T.sr s) (T.chR s))) s (plR (T.sr s) o)) ((T.setW (4 + s) 2 ⟨b, if b = true then c else 0, if b = true then rr else 0⟩).w_chr (va_up T.chr s o)) := by
        rw [vz_va]
        exact VCh.setR a2.ch ho
      have h2 : RV Γ (uI (uI φ1 (r + 69) s (plR (T.sr s) (T.chR s))) (r + 69) s (plR (T.sr s) o)) r ((T.setW (4 + s) 2 ⟨b, if b = true then c else 0, if b = true then rr else 0⟩).w_chr (va_up T.chr s o)) := ⟨(RL.up a2.rl (congrFun f.1 r)), (by rw [f.o (by decide)]; exact ⟨a2.sc.nm, a2.sc.ns, a2.sc.lim, a2.sc.pol, a2.sc.whole, a2.sc.time, a2.sc.tk, a2.sc.wm, a2.sc.rm, a2.sc.db, a2.sc.er⟩), (by rw [f.i 1 (by decide)]; exact a2.pg), (by rw [f.i 2 (by decide)]; exact a2.mp), (by rw [f.i 3 (by decide)]; exact a2.sp), (by rw [f.i 4 (by decide)]; exact a2.ea), (by rw [f.i 5 (by decide)]; exact a2.de), (by rw [f.i 6 (by decide)]; exact a2.wa), (by rw [f.i 7 (by decide), f.i 8 (by decide)]; exact a2.me), (by rw [f.i 9 (by decide), f.i 10 (by decide), f.i 11 (by decide), f.i 12 (by decide), f.i 13 (by decide), f.i 14 (by decide), f.i 15 (by decide), f.i 16 (by decide), f.i 17 (by decide), f.i 18 (by decide), f.i 20 (by decide), f.i 21 (by decide), f.i 22 (by decide), f.i 23 (by decide), f.i 24 (by decide), f.l 19 (by decide), f.l 25 (by decide)]; exact a2.tk), (by rw [f.i 26 (by decide), f.i 27 (by decide), f.l 28 (by decide), f.i 29 (by decide)]; exact a2.wi), (by rw [f.i 31 (by decide)]; exact a2.tr), (by rw [f.l 32 (by decide), f.i 33 (by decide), f.i 34 (by decide), f.i 35 (by decide)]; exact a2.row), (by rw [f.i 36 (by decide), f.i 37 (by decide), f.i 38 (by decide), f.i 39 (by decide)]; exact a2.uw), (by rw [f.i 40 (by decide), f.i 41 (by decide), f.i 42 (by decide)]; exact a2.ur), (by rw [f.i 43 (by decide), f.i 44 (by decide), f.i 45 (by decide), f.i 46 (by decide), f.i 47 (by decide)]; exact ⟨a2.la.haw, a2.la.har, a2.la.hb, a2.la.hg, a2.la.hinn⟩), (by rw [f.i 48 (by decide), f.i 49 (by decide), f.i 50 (by decide), f.l 51 (by decide), f.i 52 (by decide), f.i 53 (by decide), f.i 54 (by decide), f.l 55 (by decide), f.i 56 (by decide)]; exact a2.sw), (by rw [f.i 57 (by decide), f.i 58 (by decide), f.i 59 (by decide), f.l 60 (by decide), f.i 61 (by decide), f.i 62 (by decide), f.i 63 (by decide), f.l 64 (by decide), f.i 65 (by decide)]; exact a2.sr), (by simpa [uI_1, uI_2, uI_3, uL_1, uL_2, uL_3, vz_at] using hv), (by rw [f.i 70 (by decide), f.i 71 (by decide)]; exact a2.rg), (by unfold maOf; rw [f.i 72 (by decide), f.l 73 (by decide), f.i 74 (by decide), f.i 75 (by decide), f.i 76 (by decide), f.i 77 (by decide), f.i 78 (by decide), f.i 79 (by decide), f.i 80 (by decide), f.i 81 (by decide), f.l 82 (by decide), f.i 83 (by decide), f.i 84 (by decide), f.i 85 (by decide), f.l 86 (by decide), f.i 87 (by decide)]; exact a2.mo), (by rw [f.i 88 (by decide), f.i 89 (by decide), f.l 90 (by decide), f.i 91 (by decide)]; exact a2.wt)⟩
      obtain ⟨φ2, b1, b2, b3⟩ := r_sl462 h2 (⟨hB.nm, hB.ns, hB.lim, hB.pol, hB.time, hB.db, hB.moved, hB.pages, hB.mpat, hB.spat, hB.delay, hB.way, hB.mem, hB.sw, hB.sr, hB.rnum, hB.lat, hB.uw, hB.ur, hB.la, hB.lr, hB.lb, hB.lg, hB.rgt, hB.rowT, hB.tk⟩) hs (o := o) (by simp [uI_1, uI_2, uI_3, uL_1, uL_2, uL_3, vz_at]; rfl) ho
      exact ⟨φ2, b1, b2, ((a3.mono (by decide)).trans (f.mono (by decide))).trans (b3.mono (by decide))⟩
    cases hon : on (T.spat s 4) T.time with
    | true =>
      have := fin (T.chR s) (chR_lt T s)
      simp only [Bool.false_eq_true, Bool.true_eq_false, if_false, if_true]
      exact this
    | false =>
      have := fin none (by intro i hi; cases hi)
      simp only [Bool.false_eq_true, if_false, if_true]
      exact this
