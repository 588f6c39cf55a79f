/-! THE FACE: watchers -/
theorem JI.wat {k : Nat} {S : XS} (h : JI k S) {p : Nat} (hp : 8 ≤ p) (x : WI) (t : Nat → Int32) {o : MO} (ho : rsOk o.rs) : JI k (((S.w_wi (va_up S.wi p x)).w_tr (va_up S.tr p t)).w_mon (va_up S.mon p o)) := by
  obtain ⟨h1, h2, h3, h4⟩ := h
  have n4 := h1.bd.nm
  have n5 := h1.bd.ns
  have hb : Bd (((S.w_wi (va_up S.wi p x)).w_tr (va_up S.tr p t)).w_mon (va_up S.mon p o)) := ⟨h1.bd.nm, h1.bd.ns, h1.bd.lim, h1.bd.pol, h1.bd.time, h1.bd.db, h1.bd.moved, h1.bd.pages, h1.bd.mpat, h1.bd.spat, h1.bd.delay, h1.bd.way, h1.bd.mem, h1.bd.sw, h1.bd.sr, h1.bd.rnum, h1.bd.lat, h1.bd.uw, h1.bd.ur, h1.bd.la, h1.bd.lr, h1.bd.lb, h1.bd.lg, h1.bd.rgt, h1.bd.rowT, h1.bd.tk⟩
  have em : ∀ m, m < S.nm → va_up S.wi p x m = S.wi m := fun m hm => vz_ne _ (by omega)
  have es : ∀ s, s < S.ns → va_up S.wi p x (4 + s) = S.wi (4 + s) := fun s hs => vz_ne _ (by omega)
  refine ⟨⟨hb, h1.tb, h1.tk, h1.rw, h1.uw, h1.ur, h1.pw, h1.em, h1.nc, h1.tg, h1.rc, h1.db, ?_, h1.cb, h1.ch, h1.ib, h1.ou, h1.mv⟩, ⟨?_, ?_, ?_, ?_, ?_, ?_, ?_⟩, ⟨h3.n, h3.e, h3.l, h3.p, h3.q⟩, h4⟩
  · intro q
    show rsOk (va_up S.mon p o q).rs
    rw [vz_at]
    split
    · exact ho
    · exact h1.mo q
  · intro m hm
    have hm : m < S.nm := hm
    show hdW (va_up S.wi p x m) 0 = true → ∃ t, S.tk.find? (isUns m true) = some t ∧ (va_up S.wi p x m).w 0 = ⟨true, t.con, 0⟩
    rw [em m hm]; exact h2.a0 m hm
  · intro m hm
    have hm : m < S.nm := hm
    show hdW (va_up S.wi p x m) 3 = true → ∃ t, S.tk.find? (isUns m false) = some t ∧ (va_up S.wi p x m).w 3 = ⟨true, t.con, 0⟩
    rw [em m hm]; exact h2.a3 m hm
  · intro m hm
    have hm : m < S.nm := hm
    show hdW (va_up S.wi p x m) 1 = true → ∃ t, S.tk.find? (isUnf m) = some t ∧ (va_up S.wi p x m).w 1 = ⟨true, t.dat t.beats, t.rst t.beats⟩
    rw [em m hm]; exact h2.d m hm
  · intro s hs
    have hs : s < S.ns := hs
    show hdW (va_up S.wi p x (4 + s)) 2 = true → ∃ i e, S.chb s = some i ∧ (S.sw s)[i]? = some e ∧ e.got = leN e.con ∧ (va_up S.wi p x (4 + s)).w 2 = wvB e
    rw [es s hs]; exact h2.b s hs
  · intro s hs
    have hs : s < S.ns := hs
    show hdW (va_up S.wi p x (4 + s)) 4 = true → ∃ i e, S.chr s = some i ∧ (S.sr s)[i]? = some e ∧ (va_up S.wi p x (4 + s)).w 4 = wvR e
    rw [es s hs]; exact h2.r s hs
  · intro m hm c hc
    have hm : m < S.nm := hm
    show hdW (va_up S.wi p x m) c = true → S.row (5 * m + c) ≠ []
    rw [em m hm]; exact h2.mh m hm c hc
  · intro s hs c hc
    have hs : s < S.ns := hs
    show hdW (va_up S.wi p x (4 + s)) c = true → S.row (5 * (4 + s) + c) ≠ []
    rw [es s hs]; exact h2.sh s hs c hc
def seeW (x : WI) (c : Nat) (v : WV) (rd : Bool) : WI := ⟨va_up x.w c v, va_up x.rd c rd⟩
def seeφ (φ : ph_T) (r a : Nat) (v : WV) (rd : Bool) : ph_T := uI (uL (uI (uI φ (r + 88) a (bI v.v)) (r + 89) a (bI rd)) (r + 90) a v.c) (r + 91) a v.r
/-- the reference's wires of a watcher -/
theorem r_seeW {Γ : gm_T} {φ : ph_T} {r : Nat} {S : XS} (h : RV Γ φ r S) {w c : Nat} (hw : w < 2) (hc : c < 5) (v : WV) (rd : Bool) : RV Γ (seeφ φ r (5 * w + c) v rd) r (S.w_wi (va_up S.wi (8 + w) (seeW (S.wi (8 + w)) c v rd))) ∧ RFr r [88, 89, 90, 91] φ (seeφ φ r (5 * w + c) v rd) := by
  have f : RFr r [88, 89, 90, 91] φ (seeφ φ r (5 * w + c) v rd) := by unfold seeφ; repeat (first | exact RFr.refl _ _ _ | refine RFr.uI ?_ (by decide) _ _ | refine RFr.uL ?_ (by decide) _ _ | refine rfr_uO ?_ (by decide) _ _)
  refine ⟨?_, f⟩
  refine ⟨(RL.up h.rl (congrFun f.1 r)), (by rw [f.o (by decide)]; exact ⟨h.sc.nm, h.sc.ns, h.sc.lim, h.sc.pol, h.sc.whole, h.sc.time, h.sc.tk, h.sc.wm, h.sc.rm, h.sc.db, h.sc.er⟩), (by rw [f.i 1 (by decide)]; exact h.pg), (by rw [f.i 2 (by decide)]; exact h.mp), (by rw [f.i 3 (by decide)]; exact h.sp), (by rw [f.i 4 (by decide)]; exact h.ea), (by rw [f.i 5 (by decide)]; exact h.de), (by rw [f.i 6 (by decide)]; exact h.wa), (by rw [f.i 7 (by decide), f.i 8 (by decide)]; exact h.me), (by rw [f.i 9 (by decide), f.i 10 (by decide), f.i 11 (by decide), f.i 12 (by decide), f.i 13 (by decide), f.i 14 (by decide), f.i 15 (by decide), f.i 16 (by decide), f.i 17 (by decide), f.i 18 (by decide), f.i 20 (by decide), f.i 21 (by decide), f.i 22 (by decide), f.i 23 (by decide), f.i 24 (by decide), f.l 19 (by decide), f.l 25 (by decide)]; exact h.tk), ?_, (by rw [f.i 31 (by decide)]; exact h.tr), (by rw [f.l 32 (by decide), f.i 33 (by decide), f.i 34 (by decide), f.i 35 (by decide)]; exact h.row), (by rw [f.i 36 (by decide), f.i 37 (by decide), f.i 38 (by decide), f.i 39 (by decide)]; exact h.uw), (by rw [f.i 40 (by decide), f.i 41 (by decide), f.i 42 (by decide)]; exact h.ur), (by rw [f.i 43 (by decide), f.i 44 (by decide), f.i 45 (by decide), f.i 46 (by decide), f.i 47 (by decide)]; exact ⟨h.la.haw, h.la.har, h.la.hb, h.la.hg, h.la.hinn⟩), (by rw [f.i 48 (by decide), f.i 49 (by decide), f.i 50 (by decide), f.l 51 (by decide), f.i 52 (by decide), f.i 53 (by decide), f.i 54 (by decide), f.l 55 (by decide), f.i 56 (by decide)]; exact h.sw), (by rw [f.i 57 (by decide), f.i 58 (by decide), f.i 59 (by decide), f.l 60 (by decide), f.i 61 (by decide), f.i 62 (by decide), f.i 63 (by decide), f.l 64 (by decide), f.i 65 (by decide)]; exact h.sr), (by rw [f.i 66 (by decide), f.i 67 (by decide), f.i 68 (by decide), f.i 69 (by decide)]; exact ⟨h.ch.hnums, h.ch.hlat, h.ch.hchb, h.ch.hchr⟩), (by rw [f.i 70 (by decide), f.i 71 (by decide)]; exact h.rg), (by unfold maOf; rw [f.i 72 (by decide), f.l 73 (by decide), f.i 74 (by decide), f.i 75 (by decide), f.i 76 (by decide), f.i 77 (by decide), f.i 78 (by decide), f.i 79 (by decide), f.i 80 (by decide), f.i 81 (by decide), f.l 82 (by decide), f.i 83 (by decide), f.i 84 (by decide), f.i 85 (by decide), f.l 86 (by decide), f.i 87 (by decide)]; exact h.mo), ?_⟩
  · rw [f.i 26 (by decide), f.i 27 (by decide), f.l 28 (by decide), f.i 29 (by decide)]
    show VWi _ _ _ _ 8 (va_up S.wi (8 + w) (seeW (S.wi (8 + w)) c v rd))
    intro p k hp hk
    rw [vz_ne _ (show p ≠ 8 + w by omega)]
    exact h.wi p k hp hk
  · unfold seeφ
    intro p k hp hk
    show _ = bI ((va_up S.wi (8 + w) (seeW (S.wi (8 + w)) c v rd) (8 + p)).w k).v ∧ _ = bI ((va_up S.wi (8 + w) (seeW (S.wi (8 + w)) c v rd) (8 + p)).rd k) ∧ _ = ((va_up S.wi (8 + w) (seeW (S.wi (8 + w)) c v rd) (8 + p)).w k).c ∧ _ = ((va_up S.wi (8 + w) (seeW (S.wi (8 + w)) c v rd) (8 + p)).w k).r
    obtain ⟨a1, a2, a3, a4⟩ := h.wt p k hp hk
    have e88 : (uI (uL (uI (uI φ (r + 88) (5 * w + c) (bI v.v)) (r + 89) (5 * w + c) (bI rd)) (r + 90) (5 * w + c) v.c) (r + 91) (5 * w + c) v.r).1 (r + 88) = va_up (φ.1 (r + 88)) (5 * w + c) (bI v.v) := by
      rw [uI_1, if_neg (by omega), uL_1, uI_1, if_neg (by omega), uI_s]
    have e89 : (uI (uL (uI (uI φ (r + 88) (5 * w + c) (bI v.v)) (r + 89) (5 * w + c) (bI rd)) (r + 90) (5 * w + c) v.c) (r + 91) (5 * w + c) v.r).1 (r + 89) = va_up (φ.1 (r + 89)) (5 * w + c) (bI rd) := by
      rw [uI_1, if_neg (by omega), uL_1, uI_s, uI_1, if_neg (by omega)]
    have e90 : (uI (uL (uI (uI φ (r + 88) (5 * w + c) (bI v.v)) (r + 89) (5 * w + c) (bI rd)) (r + 90) (5 * w + c) v.c) (r + 91) (5 * w + c) v.r).2.1 (r + 90) = va_up (φ.2.1 (r + 90)) (5 * w + c) v.c := by
      rw [uI_2, uL_s]; rfl
    have e91 : (uI (uL (uI (uI φ (r + 88) (5 * w + c) (bI v.v)) (r + 89) (5 * w + c) (bI rd)) (r + 90) (5 * w + c) v.c) (r + 91) (5 * w + c) v.r).1 (r + 91) = va_up (φ.1 (r + 91)) (5 * w + c) v.r := by
      rw [uI_s, uL_1, uI_1, if_neg (by omega), uI_1, if_neg (by omega)]
    rw [e88, e89, e90, e91]
    by_cases e1 : p = w
    · subst e1
      rw [vz_same]
      show va_up _ _ _ _ = bI (va_up (S.wi (8 + p)).w c v k).v ∧ va_up _ _ _ _ = bI (va_up (S.wi (8 + p)).rd c rd k) ∧ va_up _ _ _ _ = (va_up (S.wi (8 + p)).w c v k).c ∧ va_up _ _ _ _ = (va_up (S.wi (8 + p)).w c v k).r
      by_cases e2 : k = c
      · subst e2
        rw [vz_same, vz_same, vz_same, vz_same, vz_same, vz_same]
        exact ⟨rfl, rfl, rfl, rfl⟩
      · have w1 : va_up (S.wi (8 + p)).w c v k = (S.wi (8 + p)).w k := vz_ne _ e2
        have w2 : va_up (S.wi (8 + p)).rd c rd k = (S.wi (8 + p)).rd k := vz_ne _ e2
        rw [w1, w2]
        exact ⟨(vz_ne _ (by omega)).trans a1, (vz_ne _ (by omega)).trans a2, (vz_ne _ (by omega)).trans a3, (vz_ne _ (by omega)).trans a4⟩
    · have w1 : va_up S.wi (8 + w) (seeW (S.wi (8 + w)) c v rd) (8 + p) = S.wi (8 + p) := vz_ne _ (by omega)
      rw [w1]
      exact ⟨(vz_ne _ (by omega)).trans a1, (vz_ne _ (by omega)).trans a2, (vz_ne _ (by omega)).trans a3, (vz_ne _ (by omega)).trans a4⟩
def silF : Nat → Nat → WI → WI
  | 0, _, x => x
  | d + 1, c, x => silF d (c + 1) (seeW x c WV0 false)
theorem silF_at : ∀ d c x k, (silF d c x).w k = (if c ≤ k ∧ k < c + d then WV0 else x.w k) ∧ (silF d c x).rd k = (if c ≤ k ∧ k < c + d then false else x.rd k) := by
  intro d
  induction d with
  | zero =>
    intro c x k
    rw [if_neg (by omega), if_neg (by omega)]
    exact ⟨rfl, rfl⟩
  | succ d ih =>
    intro c x k
    obtain ⟨h1, h2⟩ := ih (c + 1) (seeW x c WV0 false) k
    show (silF d (c + 1) (seeW x c WV0 false)).w k = _ ∧ (silF d (c + 1) (seeW x c WV0 false)).rd k = _
    rw [h1, h2]
    show (if _ then WV0 else va_up x.w c WV0 k) = _ ∧ (if _ then false else va_up x.rd c false k) = _
    by_cases e : k = c
    · subst e
      rw [if_neg (show ¬ (k + 1 ≤ k ∧ k < k + 1 + d) by omega), if_neg (show ¬ (k + 1 ≤ k ∧ k < k + 1 + d) by omega), vz_same, vz_same, if_pos (show k ≤ k ∧ k < k + (d + 1) by omega), if_pos (show k ≤ k ∧ k < k + (d + 1) by omega)]
      exact ⟨rfl, rfl⟩
    · rw [vz_ne _ e, vz_ne _ e]
      by_cases g : c + 1 ≤ k ∧ k < c + 1 + d
      · rw [if_pos g, if_pos g, if_pos (by omega), if_pos (by omega)]; exact ⟨rfl, rfl⟩
      · rw [if_neg g, if_neg g, if_neg (by omega), if_neg (by omega)]; exact ⟨rfl, rfl⟩
theorem w_wi_wi (S : XS) (f g : Nat → WI) : (S.w_wi f).w_wi g = S.w_wi g := XS.w_wi_w_wi S f g
theorem r_blank_L {Γ : gm_T} {r w : Nat} (hw : w < 2) : ∀ (d c fu : Nat) (φ : ph_T) (S : XS), c + d = 5 → d < fu → RV Γ φ r S →
    ∃ φ', f_Ref_blank_L4 Γ fu φ r (nI w) (nI (5 * w + c)) = some ((), φ') ∧ RV Γ φ' r (S.w_wi (va_up S.wi (8 + w) (silF d c (S.wi (8 + w))))) ∧ RFr r [88, 89, 90, 91] φ φ' := by
  intro d
  induction d with
  | zero =>
    intro c fu φ S hd hfu h
    match fu, hfu with
    | fu + 1, _ =>
      refine ⟨φ, ?_, ?_, RFr.refl _ _ _⟩
      · rw [f_Ref_blank_L4, if_pos]
        rw [show (5 : Int32) = nI 5 from rfl, zI_mul, zI_add, zI_le (by omega) (by omega)]
        omega
      · show RV Γ φ r (S.w_wi (va_up S.wi (8 + w) (S.wi (8 + w))))
        rw [vz_self, XS.w_wi_self]
        exact h
  | succ d ih =>
    intro c fu φ S hd hfu h
    match fu, hfu with
    | fu + 1, hfu =>
      obtain ⟨a1, a2⟩ := r_seeW h hw (c := c) (by omega) WV0 false
      obtain ⟨φ', b1, b2, b3⟩ := ih (c + 1) fu _ _ (by omega) (by omega) a1
      refine ⟨φ', ?_, ?_, a2.trans b3⟩
      · rw [f_Ref_blank_L4, if_neg (by rw [show (5 : Int32) = nI 5 from rfl, zI_mul, zI_add, zI_le (by omega) (by omega)]; omega), if_pos h.rl.o, rf_98 h.rl, Option.bind_some, rg_98 h.rl, Option.bind_some, zix (by omega), Option.bind_some, if_pos (by decide), rf_99 h.rl, Option.bind_some, rg_99 h.rl, Option.bind_some, zix (by omega), Option.bind_some, if_pos (by decide), rf_100 h.rl, Option.bind_some, rg_100 h.rl, Option.bind_some, zix (by omega), Option.bind_some, rf_101 h.rl, Option.bind_some, rg_101 h.rl, Option.bind_some, zix (by omega), Option.bind_some, show nI (5 * w + c) + (1 : Int32) = nI (5 * w + (c + 1)) from by rw [zI_1, zI_add]; rfl]
        exact b1
      · rw [w_wi_wi] at b2
        have e1 : ((S.w_wi (va_up S.wi (8 + w) (seeW (S.wi (8 + w)) c WV0 false))).wi) = va_up S.wi (8 + w) (seeW (S.wi (8 + w)) c WV0 false) := rfl
        rw [e1, vz_va, vz_same] at b2
        exact b2
theorem r_blank {Γ : gm_T} {φ : ph_T} {r w : Nat} {S : XS} (hw : w < 2) (h : RV Γ φ r S) : ∃ φ', f_Ref_blank Γ φ r (nI w) = some ((), φ') ∧ RV Γ φ' r (S.w_wi (va_up S.wi (8 + w) WI0)) ∧ RFr r [88, 89, 90, 91] φ φ' := by
  obtain ⟨φ', a1, a2, a3⟩ := r_blank_L hw 5 0 jF φ S rfl (by unfold jF; omega) h
  refine ⟨φ', ?_, ?_, a3⟩
  · unfold f_Ref_blank
    rw [show (5 : Int32) * nI w = nI (5 * w + 0) from by rw [show (5 : Int32) = nI 5 from rfl, zI_mul]; rfl]
    exact a1
  · have := a2.wiC (wi' := va_up S.wi (8 + w) WI0) (fun p k hp hk => by
      show (va_up S.wi (8 + w) WI0 p).w k = (va_up S.wi (8 + w) (silF 5 0 (S.wi (8 + w))) p).w k ∧ (va_up S.wi (8 + w) WI0 p).rd k = (va_up S.wi (8 + w) (silF 5 0 (S.wi (8 + w))) p).rd k
      by_cases e : p = 8 + w
      · subst e
        rw [vz_same, vz_same]
        obtain ⟨s1, s2⟩ := silF_at 5 0 (S.wi (8 + w)) k
        rw [s1, s2, if_pos (by omega), if_pos (by omega)]
        exact ⟨rfl, rfl⟩
      · rw [vz_ne _ e, vz_ne _ e]
        exact ⟨rfl, rfl⟩)
    rw [w_wi_wi] at this
    exact this
theorem He.wat {φ : ph_T} {r : Nat} {S T : XS} (h : He φ r S) (e1 : T.nm = S.nm) (e2 : T.ns = S.ns) (e3 : ∀ p, p < 8 → T.wi p = S.wi p) : He φ r T := by
  intro j hj
  have : T.hdP j = S.hdP j := by
    unfold XS.hdP XS.isP
    rw [e1, e2, e3 _ (by omega)]
  rw [this]
  exact h j hj
/-- one that has watched: its port in the class -/
theorem w_mon_self (S : XS) (p : Nat) : va_up S.mon p (S.mon p) = S.mon := vz_self _ _
theorem q_judge {Γ : gm_T} {φ : ph_T} {b : Nat} {S : XS} {k : Nat} (h : CV Γ φ b S) (hJ : JI k S) (p : Int32) : Face Γ φ b S k (f_Bus_judge Γ φ b p) (fun φ1 r => f_Ref_judge Γ φ1 r p) IOB IOB IOB := by
  obtain ⟨g1, g2, g3, g4⟩ := h.reg
  have n4 := h.lay.nm4
  have n5 := h.lay.ns4
  have hbq : b + 35 ≤ bQ b S.nm S.ns := by unfold bQ; omega
  have hn : f_Bus_needIndex Γ φ p (2 : Int32) = _ := nIdx Γ φ p (n := 2) (by decide) (by decide)
  cases hp : inN p 0 1 with
  | false =>
    refine Face.bad h hJ 1 0 (by decide) (by decide) ?_ (fun φ1 r hr => ⟨0, ?_⟩)
    · unfold f_Bus_judge
      rw [hn, show inN p 0 (2 - 1) = false from hp]; rfl
    · show f_Ref_judge Γ φ1 r p = _
      unfold f_Ref_judge f_Ref_judge_L13
      rw [r_isWatcher, hp, Option.bind_some, if_pos (bf_eq _), if_pos hr.rl.o, if_pos hr.rl.o, if_neg (er_1 _ _)]
      rfl
  | true =>
    obtain ⟨i, _, hi, rfl, _⟩ := inN_t (by decide) (by decide) hp
    have hok : okP S.nm S.ns (8 + i) := Or.inr (Or.inr (by omega))
    have pin := pA_in (b := b) n4.2 n5.2 hok
    obtain ⟨hd, hP⟩ := h.po (8 + i) hok
    have hM := h.mo (8 + i) hok
    obtain ⟨φ1', a1, a2, a3⟩ := c_look (by omega) hM hP (hJ.1.mo (8 + i))
    have hP1 := hP.sm (a3.sm (by omega))
    obtain ⟨φ2', b1, b2, b3⟩ := c_silAll hP1
    have hM2 := a2.sm (b3.sm (by omega))
    have f : Fr (pAd b S.nm S.ns (8 + i)) (pAd b S.nm S.ns (8 + i) + 111) φ φ2' := (a3.mono (by omega) (by omega)).trans (b3.mono (by omega) (by omega))
    refine Face.do (S' := ((S.w_wi (va_up S.wi (8 + i) WI0)).w_tr (va_up S.tr (8 + i) (S.tr (8 + i)))).w_mon (va_up S.mon (8 + i) ((S.mon (8 + i)).look (S.wi (8 + i))))) (nI ((S.mon (8 + i)).look (S.wi (8 + i))).rule) (φ' := φ2') ?_ (h.port hok f b2 hM2) (f.mono (by omega) (by omega)) (hJ.wat (by omega) _ _ (look_ok (hJ.1.mo (8 + i)))) rfl rfl ?_
    · unfold f_Bus_judge
      rw [hn, show inN (nI i) 0 (2 - 1) = true from hp, if_pos rfl, bT_l, if_pos h.lay.o, h.lay.f6, Option.bind_some, h.lay.g6, Option.bind_some, zix (by omega), Option.bind_some, h.lay.wp i (by omega), Option.bind_some, if_pos hP.o, hP.f6, Option.bind_some, if_pos hM.o, a1, Option.bind_some, b1, Option.bind_some, b2.f6, Option.bind_some, if_pos hM.o, hM2.rul]
    · intro φ1 r hr hh he φ0 e0 hr0
      obtain ⟨φ2, c1, c2, c3⟩ := r_watch hr (p := 8 + i) (by omega) (hJ.1.mo (8 + i))
      obtain ⟨φ3, d1, d2, d3⟩ := r_blank (w := i) (by omega) c2
      refine ⟨φ3, ?_, ?_, He.wat (S := S) (fun j hj => by rw [d3.i 30 (by decide), c3.i 30 (by decide)]; exact hh j hj) rfl rfl (fun q hq => vz_ne _ (by omega)), (c3.fr (by decide)).trans (d3.fr (by decide))⟩
      · show f_Ref_judge Γ φ0 r _ = _
        have hm := d2.mo (8 + i) (by omega)
        unfold f_Ref_judge f_Ref_judge_L13
        have c1' : f_Ref_watch Γ φ1 r (nI (8 + i)) (nI (5 * i)) (1 : Int32) = some ((), φ2) := by
          have ef : frW (8 + i) = 5 * i := by unfold frW; rw [if_neg (by omega)]; omega
          have et : bI (tdW (8 + i)) = 1 := by unfold tdW; rw [decide_eq_false (by omega)]; rfl
          rw [ef, et] at c1
          exact c1
        rw [r_isWatcher, hp, Option.bind_some, if_neg (bt_ne _), if_pos hr.rl.o, if_pos hr.rl.o, if_pos (er_0 _ _), zI_0, ← e0, show (8 : Int32) + nI i = nI (8 + i) from by rw [show (8 : Int32) = nI 8 from rfl, zI_add], show (5 : Int32) * nI i = nI (5 * i) from by rw [show (5 : Int32) = nI 5 from rfl, zI_mul], c1', Option.bind_some, d1, Option.bind_some, rf_86 d2.rl, Option.bind_some, rg_86 d2.rl, Option.bind_some, zix (by omega), Option.bind_some, show φ3.1 (r + 76) (8 + i) = _ from hm.rul]
        show some (nI (va_up S.mon (8 + i) ((S.mon (8 + i)).look (S.wi (8 + i))) (8 + i)).rule, φ3) = _
        rw [vz_same]
      · have hV : RV Γ φ3 r (((S.w_err 0).setM (8 + i) ((S.mon (8 + i)).look (S.wi (8 + i)))).w_wi (va_up S.wi (8 + i) WI0)) := d2
        have f0 : RFr r [] φ3 φ3 := RFr.refl _ _ _
        refine ⟨(RL.up hV.rl (congrFun f0.1 r)), (by rw [f0.o (by decide)]; exact ⟨hV.sc.nm, hV.sc.ns, hV.sc.lim, hV.sc.pol, hV.sc.whole, hV.sc.time, hV.sc.tk, hV.sc.wm, hV.sc.rm, hV.sc.db, hV.sc.er⟩), (by rw [f0.i 1 (by decide)]; exact hV.pg), (by rw [f0.i 2 (by decide)]; exact hV.mp), (by rw [f0.i 3 (by decide)]; exact hV.sp), (by rw [f0.i 4 (by decide)]; exact hV.ea), (by rw [f0.i 5 (by decide)]; exact hV.de), (by rw [f0.i 6 (by decide)]; exact hV.wa), (by rw [f0.i 7 (by decide), f0.i 8 (by decide)]; exact hV.me), (by rw [f0.i 9 (by decide), f0.i 10 (by decide), f0.i 11 (by decide), f0.i 12 (by decide), f0.i 13 (by decide), f0.i 14 (by decide), f0.i 15 (by decide), f0.i 16 (by decide), f0.i 17 (by decide), f0.i 18 (by decide), f0.i 20 (by decide), f0.i 21 (by decide), f0.i 22 (by decide), f0.i 23 (by decide), f0.i 24 (by decide), f0.l 19 (by decide), f0.l 25 (by decide)]; exact hV.tk), (by rw [f0.i 26 (by decide), f0.i 27 (by decide), f0.l 28 (by decide), f0.i 29 (by decide)]; exact hV.wi), ?_, (by rw [f0.l 32 (by decide), f0.i 33 (by decide), f0.i 34 (by decide), f0.i 35 (by decide)]; exact hV.row), (by rw [f0.i 36 (by decide), f0.i 37 (by decide), f0.i 38 (by decide), f0.i 39 (by decide)]; exact hV.uw), (by rw [f0.i 40 (by decide), f0.i 41 (by decide), f0.i 42 (by decide)]; exact hV.ur), (by rw [f0.i 43 (by decide), f0.i 44 (by decide), f0.i 45 (by decide), f0.i 46 (by decide), f0.i 47 (by decide)]; exact ⟨hV.la.haw, hV.la.har, hV.la.hb, hV.la.hg, hV.la.hinn⟩), (by rw [f0.i 48 (by decide), f0.i 49 (by decide), f0.i 50 (by decide), f0.l 51 (by decide), f0.i 52 (by decide), f0.i 53 (by decide), f0.i 54 (by decide), f0.l 55 (by decide), f0.i 56 (by decide)]; exact hV.sw), (by rw [f0.i 57 (by decide), f0.i 58 (by decide), f0.i 59 (by decide), f0.l 60 (by decide), f0.i 61 (by decide), f0.i 62 (by decide), f0.i 63 (by decide), f0.l 64 (by decide), f0.i 65 (by decide)]; exact hV.sr), (by rw [f0.i 66 (by decide), f0.i 67 (by decide), f0.i 68 (by decide), f0.i 69 (by decide)]; exact ⟨hV.ch.hnums, hV.ch.hlat, hV.ch.hchb, hV.ch.hchr⟩), (by rw [f0.i 70 (by decide), f0.i 71 (by decide)]; exact hV.rg), (by unfold maOf; rw [f0.i 72 (by decide), f0.l 73 (by decide), f0.i 74 (by decide), f0.i 75 (by decide), f0.i 76 (by decide), f0.i 77 (by decide), f0.i 78 (by decide), f0.i 79 (by decide), f0.i 80 (by decide), f0.i 81 (by decide), f0.l 82 (by decide), f0.i 83 (by decide), f0.i 84 (by decide), f0.i 85 (by decide), f0.l 86 (by decide), f0.i 87 (by decide)]; exact hV.mo), (by rw [f0.i 88 (by decide), f0.i 89 (by decide), f0.l 90 (by decide), f0.i 91 (by decide)]; exact hV.wt)⟩
        show VTr _ (va_up S.tr (8 + i) (S.tr (8 + i)))
        rw [vz_self]
        exact hV.tr
