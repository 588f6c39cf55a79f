/-! THE REFERENCE's monitors: reads that go on and end -/
theorem r_dropRead_L {Γ : gm_T} {r p n : Nat} (hp : p < 10) (hn : n < 16) : ∀ (d j fu : Nat) (φ : ph_T), j + d = n → d < fu → RL Γ φ r → φ.1 (r + 80) p = nI n →
    ∃ φ', f_Ref_dropRead_L12 Γ fu φ r (nI p) (nI (16 * p + j)) = some ((), φ') ∧ RFr r [86, 87] φ φ' ∧
      (∀ k, φ'.2.1 (r + 86) k = if 16 * p + j ≤ k ∧ k < 16 * p + n then φ.2.1 (r + 86) (k + 1) else φ.2.1 (r + 86) k) ∧
      (∀ k, φ'.1 (r + 87) k = if 16 * p + j ≤ k ∧ k < 16 * p + n then φ.1 (r + 87) (k + 1) else φ.1 (r + 87) k) := by
  intro d
  induction d with
  | zero =>
    intro j fu φ hd hfu hl hm
    match fu, hfu with
    | fu + 1, _ =>
      unfold f_Ref_dropRead_L12
      simp (disch := first | assumption | omega) only [hl.o, rf_90 hl, rg_90 hl, rf_96 hl, rg_96 hl, rf_97 hl, rg_97 hl, Option.bind_some, if_true, zix, hm, ↓zm1, zI_ne_m, zI_m_ne, zI_lit, zI_le, zI_eq, zI_mul, zI_lt, zI_modn, zI_div, zI_sub, zI_add, zN_mod]
      rw [if_pos (by omega)]
      refine ⟨φ, rfl, RFr.refl _ _ _, fun k => ?_, fun k => ?_⟩ <;> rw [if_neg (by omega)]
  | succ d ih =>
    intro j fu φ hd hfu hl hm
    match fu, hfu with
    | fu + 1, hfu =>
      unfold f_Ref_dropRead_L12
      simp (disch := first | assumption | omega) only [hl.o, rf_90 hl, rg_90 hl, rf_96 hl, rg_96 hl, rf_97 hl, rg_97 hl, Option.bind_some, if_true, zix, hm, ↓zm1, zI_ne_m, zI_m_ne, zI_lit, zI_le, zI_eq, zI_mul, zI_lt, zI_modn, zI_div, zI_sub, zI_add, zN_mod, uI_1, uI_2, uI_3, uL_1, uL_2, uL_3, vz_at, Nat.add_left_cancel_iff, Nat.reduceEqDiff, if_false, zr1, zr2]
      rw [if_neg (by omega), Nat.add_assoc]
      obtain ⟨φ', e, f, g1, g2⟩ := ih (j + 1) fu (uI (uL φ (r + 86) (16 * p + j) (φ.2.1 (r + 86) (16 * p + (j + 1)))) (r + 87) (16 * p + j) (φ.1 (r + 87) (16 * p + (j + 1)))) (by omega) (by omega) (hl.up rfl) (by simp [uI_1, uI_2, uI_3, uL_1, uL_2, uL_3, vz_at, hm])
      refine ⟨φ', e, RFr.trans (by repeat (first | exact RFr.refl _ _ _ | refine RFr.uI ?_ (by decide) _ _ | refine RFr.uL ?_ (by decide) _ _ | refine rfr_uO ?_ (by decide) _ _)) f, fun k => ?_, fun k => ?_⟩
      · rw [g1]
        simp (disch := first | assumption | omega) only [uI_1, uI_2, uI_3, uL_1, uL_2, uL_3, vz_at, Nat.add_left_cancel_iff, Nat.reduceEqDiff, if_false, zr1, zr2, if_true, if_false]
        repeat' split
        all_goals first | rfl | omega | exact congrArg _ (by omega)
      · rw [g2]
        simp (disch := first | assumption | omega) only [uI_1, uI_2, uI_3, uL_1, uL_2, uL_3, vz_at, Nat.add_left_cancel_iff, Nat.reduceEqDiff, if_false, zr1, zr2, if_true, if_false]
        repeat' split
        all_goals first | rfl | omega | exact congrArg _ (by omega)
theorem eI_get {α : Type} (l : List α) (j k : Nat) : (l.eraseIdx j)[k]? = if k < j then l[k]? else l[k + 1]? := by
  rw [List.getElem?_eraseIdx]
theorem r_dropRead {Γ : gm_T} {φ : ph_T} {r : Nat} {S : XS} (h : RV Γ φ r S) {p j : Nat} (hp : p < 10) (hj : j < (S.mon p).rs.length) :
    ∃ φ', f_Ref_dropRead Γ φ r (nI p) (nI (16 * p + j)) = some ((), φ') ∧ RV Γ φ' r (S.setM p ((S.mon p).w_rs ((S.mon p).rs.eraseIdx j))) ∧ RFr r [80, 86, 87] φ φ' := by
  have hm := h.mo p hp
  have hlr := hm.lr
  have e1 : φ.1 (r + 80) p = nI (S.mon p).rs.length := hm.nr
  unfold f_Ref_dropRead
  simp (disch := first | assumption | omega) only [h.rl.o, rf_90 h.rl, rg_90 h.rl, Option.bind_some, if_true, zix, e1, ↓zm1, zI_ne_m, zI_m_ne, zI_lit, zI_le, zI_eq, zI_mul, zI_lt, zI_modn, zI_div, zI_sub, zI_add, zN_mod, uI_1, uI_2, uI_3, uL_1, uL_2, uL_3, vz_at, Nat.add_left_cancel_iff, Nat.reduceEqDiff, if_false, zr1, zr2]
  obtain ⟨φ', e, f, g1, g2⟩ := r_dropRead_L (Γ := Γ) (r := r) (p := p) (n := (S.mon p).rs.length - 1) hp (by omega) ((S.mon p).rs.length - 1 - j) j jF (uI φ (r + 80) p (nI ((S.mon p).rs.length - 1))) (by omega) (by unfold jF; omega) (h.rl.up rfl) (by simp [uI_1, uI_2, uI_3, uL_1, uL_2, uL_3, vz_at])
  have f2 : RFr r [80, 86, 87] φ φ' := RFr.trans (by repeat (first | exact RFr.refl _ _ _ | refine RFr.uI ?_ (by decide) _ _ | refine RFr.uL ?_ (by decide) _ _ | refine rfr_uO ?_ (by decide) _ _)) (f.mono (by decide))
  refine ⟨φ', e, ?_, f2⟩
  have hA : maOf φ' r = ((((maOf φ r).w_nr (va_up (φ.1 (r + 80)) p (nI ((S.mon p).rs.length - 1)))).w_rea (φ'.2.1 (r + 86))).w_rbe (φ'.1 (r + 87))) := by
    unfold maOf
    rw [f2.i 72 (by decide), f2.l 73 (by decide), f2.i 74 (by decide), f2.i 75 (by decide), f2.i 76 (by decide), f2.i 77 (by decide), f2.i 78 (by decide), f2.i 79 (by decide), f2.i 81 (by decide), f2.l 82 (by decide), f2.i 83 (by decide), f2.i 84 (by decide), f2.i 85 (by decide), f.i 80 (by decide)]
    simp [uI_1, uI_2, uI_3, uL_1, uL_2, uL_3, vz_at]
  have g1' : ∀ k, φ'.2.1 (r + 86) k = if 16 * p + j ≤ k ∧ k < 16 * p + ((S.mon p).rs.length - 1) then φ.2.1 (r + 86) (k + 1) else φ.2.1 (r + 86) k := fun k => by rw [g1]; simp [uI_1, uI_2, uI_3, uL_1, uL_2, uL_3, vz_at]
  have g2' : ∀ k, φ'.1 (r + 87) k = if 16 * p + j ≤ k ∧ k < 16 * p + ((S.mon p).rs.length - 1) then φ.1 (r + 87) (k + 1) else φ.1 (r + 87) k := fun k => by rw [g2]; simp [uI_1, uI_2, uI_3, uL_1, uL_2, uL_3, vz_at]
  have hv : VMo (maOf φ' r) (va_up S.mon p ((S.mon p).w_rs ((S.mon p).rs.eraseIdx j))) := by
    rw [hA]
    refine VMo.set h.mo ?_ (fun q hq hne => ?_)
    · have hlen : ((S.mon p).rs.eraseIdx j).length = (S.mon p).rs.length - 1 := List.length_eraseIdx_of_lt hj
      refine ⟨hm.lw, by show ((S.mon p).rs.eraseIdx j).length ≤ 16; omega, hm.hel, hm.tks, hm.rul, hm.rl, hm.cha, hm.tic, hm.nw, ?_, hm.ws, hm.st, fun k x hx => ?_, hm.leg⟩
      · show va_up _ p _ p = nI ((S.mon p).rs.eraseIdx j).length
        rw [vz_same, hlen]
      · have hk := llt hx
        have hk' : k < (S.mon p).rs.length - 1 := by rw [← hlen]; exact hk
        have hx' : ((S.mon p).rs.eraseIdx j)[k]? = some x := hx
        rw [eI_get] at hx'
        show φ'.2.1 (r + 86) (16 * p + k) = x.con ∧ φ'.1 (r + 87) (16 * p + k) = nI x.n ∧ x.n ≤ 16
        rw [g1', g2']
        by_cases hkj : k < j
        · rw [if_pos hkj] at hx'
          rw [if_neg (by omega), if_neg (by omega)]
          exact hm.rs k x hx'
        · rw [if_neg hkj] at hx'
          rw [if_pos (by omega), if_pos (by omega)]
          exact hm.rs (k + 1) x hx'
    · refine VM1.fr (h.mo q hq) (fun c _ => ⟨rfl, rfl, rfl⟩) ?_ (fun k hk => ⟨rfl, rfl, rfl, rfl, ?_, ?_⟩) (fun k i _ _ => rfl)
      · refine ⟨?_, ?_, ?_, ?_, ?_, ?_⟩ <;> first | rfl | exact vz_ne _ hne
      · show φ'.2.1 (r + 86) (16 * q + k) = φ.2.1 (r + 86) (16 * q + k)
        rw [g1', if_neg (by omega)]
      · show φ'.1 (r + 87) (16 * q + k) = φ.1 (r + 87) (16 * q + k)
        rw [g2', if_neg (by omega)]
  exact ⟨(RL.up h.rl (congrFun f2.1 r)), (by rw [f2.o (by decide)]; exact ⟨h.sc.nm, h.sc.ns, h.sc.lim, h.sc.pol, h.sc.whole, h.sc.time, h.sc.tk, h.sc.wm, h.sc.rm, h.sc.db, h.sc.er⟩), (by rw [f2.i 1 (by decide)]; exact h.pg), (by rw [f2.i 2 (by decide)]; exact h.mp), (by rw [f2.i 3 (by decide)]; exact h.sp), (by rw [f2.i 4 (by decide)]; exact h.ea), (by rw [f2.i 5 (by decide)]; exact h.de), (by rw [f2.i 6 (by decide)]; exact h.wa), (by rw [f2.i 7 (by decide), f2.i 8 (by decide)]; exact h.me), (by rw [f2.i 9 (by decide), f2.i 10 (by decide), f2.i 11 (by decide), f2.i 12 (by decide), f2.i 13 (by decide), f2.i 14 (by decide), f2.i 15 (by decide), f2.i 16 (by decide), f2.i 17 (by decide), f2.i 18 (by decide), f2.i 20 (by decide), f2.i 21 (by decide), f2.i 22 (by decide), f2.i 23 (by decide), f2.i 24 (by decide), f2.l 19 (by decide), f2.l 25 (by decide)]; exact h.tk), (by rw [f2.i 26 (by decide), f2.i 27 (by decide), f2.l 28 (by decide), f2.i 29 (by decide)]; exact h.wi), (by rw [f2.i 31 (by decide)]; exact h.tr), (by rw [f2.l 32 (by decide), f2.i 33 (by decide), f2.i 34 (by decide), f2.i 35 (by decide)]; exact h.row), (by rw [f2.i 36 (by decide), f2.i 37 (by decide), f2.i 38 (by decide), f2.i 39 (by decide)]; exact h.uw), (by rw [f2.i 40 (by decide), f2.i 41 (by decide), f2.i 42 (by decide)]; exact h.ur), (by rw [f2.i 43 (by decide), f2.i 44 (by decide), f2.i 45 (by decide), f2.i 46 (by decide), f2.i 47 (by decide)]; exact ⟨h.la.haw, h.la.har, h.la.hb, h.la.hg, h.la.hinn⟩), (by rw [f2.i 48 (by decide), f2.i 49 (by decide), f2.i 50 (by decide), f2.l 51 (by decide), f2.i 52 (by decide), f2.i 53 (by decide), f2.i 54 (by decide), f2.l 55 (by decide), f2.i 56 (by decide)]; exact h.sw), (by rw [f2.i 57 (by decide), f2.i 58 (by decide), f2.i 59 (by decide), f2.l 60 (by decide), f2.i 61 (by decide), f2.i 62 (by decide), f2.i 63 (by decide), f2.l 64 (by decide), f2.i 65 (by decide)]; exact h.sr), (by rw [f2.i 66 (by decide), f2.i 67 (by decide), f2.i 68 (by decide), f2.i 69 (by decide)]; exact ⟨h.ch.hnums, h.ch.hlat, h.ch.hchb, h.ch.hchr⟩), (by rw [f2.i 70 (by decide), f2.i 71 (by decide)]; exact h.rg), hv, (by rw [f2.i 88 (by decide), f2.i 89 (by decide), f2.l 90 (by decide), f2.i 91 (by decide)]; exact h.wt)⟩
theorem bumpR_none {id : Nat} : ∀ {l : List MR}, l.findIdx? (isMr id) = none → bumpR id l = l := by
  intro l
  induction l with
  | nil => intro _; rfl
  | cons e l ih =>
    intro h
    rw [List.findIdx?_cons] at h
    unfold bumpR
    by_cases hc : idN e.con = id
    · simp [isMr, hc] at h
    · have hf : isMr id e = false := by simp [isMr, hc]
      rw [hf] at h
      simp only [Bool.false_eq_true, if_false, Option.map_eq_none_iff] at h
      rw [if_neg hc, ih h]
theorem bumpR_some {id : Nat} : ∀ {l : List MR} {k : Nat} {e : MR}, l.findIdx? (isMr id) = some k → l[k]? = some e → bumpR id l = if e.n + 1 = leN e.con then l.eraseIdx k else l.set k (e.w_n (e.n + 1)) := by
  intro l
  induction l with
  | nil => intro k e h; cases h
  | cons x l ih =>
    intro k e h he
    rw [List.findIdx?_cons] at h
    unfold bumpR
    by_cases hc : idN x.con = id
    · simp [isMr, hc] at h
      subst h
      simp at he
      subst he
      rw [if_pos hc]
      rfl
    · simp only [isMr, hc, decide_false, Bool.false_eq_true, if_false] at h
      obtain ⟨k', hk', hkk⟩ := Option.map_eq_some_iff.mp h
      subst hkk
      rw [if_neg hc]
      simp at he
      rw [ih hk' he]
      split <;> simp
theorem VMo.bump {φ : ph_T} {r : Nat} {mon : Nat → MO} (h : VMo (maOf φ r) mon) {p k : Nat} (hp : p < 10) {e : MR} (he : (mon p).rs[k]? = some e) (hlt : e.n + 1 ≤ 16) :
    VMo (maOf (uI φ (r + 87) (16 * p + k) (nI (e.n + 1))) r) (va_up mon p ((mon p).w_rs ((mon p).rs.set k (e.w_n (e.n + 1))))) := by
  have hm := h p hp
  have hk := llt he
  have hlr := hm.lr
  have hA : maOf (uI φ (r + 87) (16 * p + k) (nI (e.n + 1))) r = ((maOf φ r).w_rbe (va_up (φ.1 (r + 87)) (16 * p + k) (nI (e.n + 1)))) := by simp [maOf, uI_1, uI_2, uI_3, uL_1, uL_2, uL_3, vz_at]
  rw [hA]
  refine VMo.set h ?_ (fun q hq hne => ?_)
  · refine ⟨hm.lw, by show ((mon p).rs.set k _).length ≤ 16; rw [List.length_set]; exact hm.lr, hm.hel, hm.tks, hm.rul, hm.rl, hm.cha, hm.tic, hm.nw, ?_, hm.ws, hm.st, fun j x hx => ?_, hm.leg⟩
    · show _ = nI ((mon p).rs.set k _).length
      rw [List.length_set]
      exact hm.nr
    · have hx' : ((mon p).rs.set k (e.w_n (e.n + 1)))[j]? = some x := hx
      show φ.2.1 (r + 86) (16 * p + j) = x.con ∧ va_up (φ.1 (r + 87)) (16 * p + k) (nI (e.n + 1)) (16 * p + j) = nI x.n ∧ x.n ≤ 16
      by_cases hjk : j = k
      · subst hjk
        rw [List.getElem?_set_self hk] at hx'
        cases hx'
        exact ⟨(hm.rs j e he).1, vz_same _ _ _, hlt⟩
      · rw [List.getElem?_set_ne (Ne.symm hjk)] at hx'
        rw [vz_at, if_neg (by omega)]
        exact hm.rs j x hx'
  · refine VM1.fr (h q hq) (fun c _ => ⟨rfl, rfl, rfl⟩) ⟨rfl, rfl, rfl, rfl, rfl, rfl⟩ (fun i hi => ⟨rfl, rfl, rfl, rfl, rfl, ?_⟩) (fun k i _ _ => rfl)
    show va_up (φ.1 (r + 87)) (16 * p + k) (nI (e.n + 1)) (16 * q + i) = φ.1 (r + 87) (16 * q + i)
    rw [vz_at, if_neg (by omega)]
theorem RV.setM_mo {Γ : gm_T} {φ φ' : ph_T} {r : Nat} {S : XS} (h : RV Γ φ r S) {p : Nat} {o : MO} (f : RFr r [72, 73, 74, 75, 76, 77, 78, 79, 80, 81, 82, 83, 84, 85, 86, 87] φ φ') (hv : VMo (maOf φ' r) (va_up S.mon p o)) : RV Γ φ' r (S.setM p o) := ⟨(RL.up h.rl (congrFun f.1 r)), (by rw [f.o (by decide)]; exact ⟨h.sc.nm, h.sc.ns, h.sc.lim, h.sc.pol, h.sc.whole, h.sc.time, h.sc.tk, h.sc.wm, h.sc.rm, h.sc.db, h.sc.er⟩), (by rw [f.i 1 (by decide)]; exact h.pg), (by rw [f.i 2 (by decide)]; exact h.mp), (by rw [f.i 3 (by decide)]; exact h.sp), (by rw [f.i 4 (by decide)]; exact h.ea), (by rw [f.i 5 (by decide)]; exact h.de), (by rw [f.i 6 (by decide)]; exact h.wa), (by rw [f.i 7 (by decide), f.i 8 (by decide)]; exact h.me), (by rw [f.i 9 (by decide), f.i 10 (by decide), f.i 11 (by decide), f.i 12 (by decide), f.i 13 (by decide), f.i 14 (by decide), f.i 15 (by decide), f.i 16 (by decide), f.i 17 (by decide), f.i 18 (by decide), f.i 20 (by decide), f.i 21 (by decide), f.i 22 (by decide), f.i 23 (by decide), f.i 24 (by decide), f.l 19 (by decide), f.l 25 (by decide)]; exact h.tk), (by rw [f.i 26 (by decide), f.i 27 (by decide), f.l 28 (by decide), f.i 29 (by decide)]; exact h.wi), (by rw [f.i 31 (by decide)]; exact h.tr), (by rw [f.l 32 (by decide), f.i 33 (by decide), f.i 34 (by decide), f.i 35 (by decide)]; exact h.row), (by rw [f.i 36 (by decide), f.i 37 (by decide), f.i 38 (by decide), f.i 39 (by decide)]; exact h.uw), (by rw [f.i 40 (by decide), f.i 41 (by decide), f.i 42 (by decide)]; exact h.ur), (by rw [f.i 43 (by decide), f.i 44 (by decide), f.i 45 (by decide), f.i 46 (by decide), f.i 47 (by decide)]; exact ⟨h.la.haw, h.la.har, h.la.hb, h.la.hg, h.la.hinn⟩), (by rw [f.i 48 (by decide), f.i 49 (by decide), f.i 50 (by decide), f.l 51 (by decide), f.i 52 (by decide), f.i 53 (by decide), f.i 54 (by decide), f.l 55 (by decide), f.i 56 (by decide)]; exact h.sw), (by rw [f.i 57 (by decide), f.i 58 (by decide), f.i 59 (by decide), f.l 60 (by decide), f.i 61 (by decide), f.i 62 (by decide), f.i 63 (by decide), f.l 64 (by decide), f.i 65 (by decide)]; exact h.sr), (by rw [f.i 66 (by decide), f.i 67 (by decide), f.i 68 (by decide), f.i 69 (by decide)]; exact ⟨h.ch.hnums, h.ch.hlat, h.ch.hchb, h.ch.hchr⟩), (by rw [f.i 70 (by decide), f.i 71 (by decide)]; exact h.rg), hv, (by rw [f.i 88 (by decide), f.i 89 (by decide), f.l 90 (by decide), f.i 91 (by decide)]; exact h.wt)⟩
theorem setM_setM (S : XS) (p : Nat) (a b : MO) : (S.setM p a).setM p b = S.setM p b := by unfold XS.setM; simp only [XS.mon_w_mon, XS.w_mon_w_mon, vz_va]
theorem setM_mon (S : XS) (p : Nat) (a : MO) : (S.setM p a).mon p = a := by unfold XS.setM; simp only [XS.mon_w_mon, vz_same]
theorem r_goR {Γ : gm_T} {φ : ph_T} {r : Nat} {S : XS} (h : RV Γ φ r S) {p : Nat} (hp : p < 10) (x : Int32) (hi : ∀ e ∈ (S.mon p).rs, e.n < leN e.con) :
    ∃ φ', f_Ref_goR Γ φ r (nI p) (nI (rId x)) = some ((), φ') ∧ RV Γ φ' r (S.setM p ((S.mon p).goR x)) ∧ RFr r [80, 86, 87] φ φ' := by
  have hm := h.mo p hp
  have hlr := hm.lr
  have hmr := r_monR h hp (rId_lt x)
  unfold f_Ref_goR f_Ref_goR_L46 MO.goR
  simp only [h.rl.o, if_true, hmr, Option.bind_some, ↓zm1]
  cases hf : (S.mon p).rs.findIdx? (isMr (rId x)) with
  | none =>
    rw [bumpR_none hf]
    simp only [Option.map_none, oI, if_true]
    exact ⟨φ, rfl, by have := setM_self S p; rw [show (((S.mon p).w_rs ((S.mon p).rs)) : MO) = S.mon p from rfl, this]; exact h, RFr.refl _ _ _⟩
  | some k =>
    obtain ⟨e, he, _, _⟩ := fi_some hf
    have hk := llt he
    have hlt := hi e (lmem he)
    have hle := leN_le e.con
    have hr1 := hm.rs k e he
    have a1 : φ.2.1 (r + 86) (16 * p + k) = e.con := hr1.1
    have a2 : φ.1 (r + 87) (16 * p + k) = nI e.n := hr1.2.1
    rw [bumpR_some hf he]
    simp (disch := first | assumption | omega) only [Option.map_some, oI, zI_ne_m, if_false, zix, Option.bind_some, uI_1, uI_2, uI_3, uL_1, uL_2, uL_3, vz_at, Nat.add_left_cancel_iff, Nat.reduceEqDiff, if_false, zr1, zr2, if_true, rf_97 h.rl, rg_97 h.rl, rf_96 h.rl, rg_96 h.rl, a1, a2, e_Ref_lengthOf, ↓zm1, zI_ne_m, zI_m_ne, zI_lit, zI_le, zI_eq, zI_mul, zI_lt, zI_modn, zI_div, zI_sub, zI_add, zN_mod]
    have hv := VMo.bump h.mo hp he (by omega)
    have f1 : RFr r [80, 86, 87] φ (uI φ (r + 87) (16 * p + k) (nI (e.n + 1))) := by repeat (first | exact RFr.refl _ _ _ | refine RFr.uI ?_ (by decide) _ _ | refine RFr.uL ?_ (by decide) _ _ | refine rfr_uO ?_ (by decide) _ _)
    have h1 := h.setM_mo (f1.mono (by decide)) hv
    by_cases hc : e.n + 1 = leN e.con
    · rw [if_pos hc, if_pos hc]
      obtain ⟨φ', b1, b2, b3⟩ := r_dropRead h1 (p := p) (j := k) hp (by rw [setM_mon]; show k < ((S.mon p).rs.set k _).length; rw [List.length_set]; exact hk)
      refine ⟨φ', by rw [b1]; rfl, ?_, f1.trans b3⟩
      rw [setM_mon, setM_setM] at b2
      simp only [MO.rs_w_rs, List.eraseIdx_set_eq] at b2
      exact b2
    · rw [if_neg hc, if_neg hc]
      exact ⟨_, rfl, h1, f1⟩
theorem r_goAr {Γ : gm_T} {φ : ph_T} {r : Nat} {S : XS} (h : RV Γ φ r S) {p : Nat} (hp : p < 10) (c : Int64) :
    ∃ φ', f_Ref_goAr Γ φ r (nI p) c = some ((), φ') ∧ RV Γ φ' r (S.setM p ((S.mon p).goAr c)) ∧ RFr r [76, 77, 78, 80, 86, 87] φ φ' := by
  have hm := h.mo p hp
  have hlr := hm.lr
  have e1 : φ.1 (r + 80) p = nI (S.mon p).rs.length := hm.nr
  unfold f_Ref_goAr MO.goAr
  simp (disch := first | assumption | omega) only [h.rl.o, rf_90 h.rl, rg_90 h.rl, rf_96 h.rl, rg_96 h.rl, rf_97 h.rl, rg_97 h.rl, Option.bind_some, if_true, zix, e1, ↓zm1, zI_ne_m, zI_m_ne, zI_lit, zI_le, zI_eq, zI_mul, zI_lt, zI_modn, zI_div, zI_sub, zI_add, zN_mod]
  by_cases hc : (S.mon p).rs.length = 16
  · rw [if_pos hc, if_pos hc]
    obtain ⟨φ', b1, b2, b3⟩ := r_break h (p := p) (x := 12) (c := 3) hp (by omega) (by omega)
    exact ⟨φ', by rw [b1]; rfl, b2, b3.mono (by decide)⟩
  · rw [if_neg hc, if_neg hc]
    simp (disch := first | assumption | omega) only [zix, Option.bind_some, uI_1, uI_2, uI_3, uL_1, uL_2, uL_3, vz_at, Nat.add_left_cancel_iff, Nat.reduceEqDiff, if_false, zr1, zr2, e1, zI_add]
    refine exP (by repeat (first | exact RFr.refl _ _ _ | refine RFr.uI ?_ (by decide) _ _ | refine RFr.uL ?_ (by decide) _ _ | refine rfr_uO ?_ (by decide) _ _)) (fun f => ?_)
    refine h.setM_mo (f.mono (by decide)) ?_
    have hA : maOf (uI (uI (uL φ (r + 86) (16 * p + (S.mon p).rs.length) c) (r + 87) (16 * p + (S.mon p).rs.length) (nI 0)) (r + 80) p (nI ((S.mon p).rs.length + 1))) r = ((((maOf φ r).w_nr (va_up (φ.1 (r + 80)) p (nI ((S.mon p).rs.length + 1)))).w_rea (va_up (φ.2.1 (r + 86)) (16 * p + (S.mon p).rs.length) c)).w_rbe (va_up (φ.1 (r + 87)) (16 * p + (S.mon p).rs.length) (nI 0))) := by simp [maOf, uI_1, uI_2, uI_3, uL_1, uL_2, uL_3, vz_at]
    rw [hA]
    refine VMo.set h.mo ?_ (fun q hq hne => ?_)
    · refine ⟨hm.lw, by show ((S.mon p).rs ++ [_]).length ≤ 16; simp; omega, hm.hel, hm.tks, hm.rul, hm.rl, hm.cha, hm.tic, hm.nw, ?_, hm.ws, hm.st, fun j x hx => ?_, hm.leg⟩
      · show va_up _ p _ p = nI ((S.mon p).rs ++ [_]).length
        rw [vz_same]
        simp
      · have hx' : ((S.mon p).rs ++ [⟨c, 0⟩])[j]? = some x := hx
        show va_up (φ.2.1 (r + 86)) (16 * p + (S.mon p).rs.length) c (16 * p + j) = x.con ∧ va_up (φ.1 (r + 87)) (16 * p + (S.mon p).rs.length) (nI 0) (16 * p + j) = nI x.n ∧ x.n ≤ 16
        by_cases hj : j < (S.mon p).rs.length
        · rw [List.getElem?_append_left hj] at hx'
          rw [vz_at, vz_at, if_neg (by omega), if_neg (by omega)]
          exact hm.rs j x hx'
        · have hj2 : j = (S.mon p).rs.length := by
            have := llt hx'
            simp at this
            omega
          subst hj2
          simp at hx'
          subst hx'
          exact ⟨vz_same _ _ _, vz_same _ _ _, Nat.zero_le 16⟩
    · refine VM1.fr (h.mo q hq) (fun c _ => ⟨rfl, rfl, rfl⟩) ?_ (fun k hk => ⟨rfl, rfl, rfl, rfl, ?_, ?_⟩) (fun k i _ _ => rfl)
      · refine ⟨?_, ?_, ?_, ?_, ?_, ?_⟩ <;> first | rfl | exact vz_ne _ hne
      · show va_up (φ.2.1 (r + 86)) (16 * p + (S.mon p).rs.length) c (16 * q + k) = φ.2.1 (r + 86) (16 * q + k)
        rw [vz_at, if_neg (by omega)]
      · show va_up (φ.1 (r + 87)) (16 * p + (S.mon p).rs.length) (nI 0) (16 * q + k) = φ.1 (r + 87) (16 * q + k)
        rw [vz_at, if_neg (by omega)]
