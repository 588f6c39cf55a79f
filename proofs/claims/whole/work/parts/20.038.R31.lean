/-! THE REFERENCE: where no slave is -/
theorem RV.dbU {Γ : gm_T} {φ : ph_T} {r : Nat} {S : XS} (h : RV Γ φ r S) (v : Nat) : RV Γ (uI φ r 57 (nI v)) r (S.w_dbeat v) ∧ RFr r [0] φ (uI φ r 57 (nI v)) := by
  have f : RFr r [0] φ (uI φ r 57 (nI v)) := by repeat (first | exact RFr.refl _ _ _ | refine RFr.uI ?_ (by decide) _ _ | refine RFr.uL ?_ (by decide) _ _ | refine rfr_uO ?_ (by decide) _ _)
  refine ⟨⟨(RL.up h.rl (congrFun f.1 r)), (by rw [uI_s]; exact ⟨h.sc.nm, h.sc.ns, h.sc.lim, h.sc.pol, h.sc.whole, h.sc.time, h.sc.tk, h.sc.wm, h.sc.rm, vz_same _ _ _, h.sc.er⟩), (by rw [f.i 1 (by decide)]; exact h.pg), (by rw [f.i 2 (by decide)]; exact h.mp), (by rw [f.i 3 (by decide)]; exact h.sp), (by rw [f.i 4 (by decide)]; exact h.ea), (by rw [f.i 5 (by decide)]; exact h.de), (by rw [f.i 6 (by decide)]; exact h.wa), (by rw [f.i 7 (by decide), f.i 8 (by decide)]; exact h.me), (by rw [f.i 9 (by decide), f.i 10 (by decide), f.i 11 (by decide), f.i 12 (by decide), f.i 13 (by decide), f.i 14 (by decide), f.i 15 (by decide), f.i 16 (by decide), f.i 17 (by decide), f.i 18 (by decide), f.i 20 (by decide), f.i 21 (by decide), f.i 22 (by decide), f.i 23 (by decide), f.i 24 (by decide), f.l 19 (by decide), f.l 25 (by decide)]; exact h.tk), (by rw [f.i 26 (by decide), f.i 27 (by decide), f.l 28 (by decide), f.i 29 (by decide)]; exact h.wi), (by rw [f.i 31 (by decide)]; exact h.tr), (by rw [f.l 32 (by decide), f.i 33 (by decide), f.i 34 (by decide), f.i 35 (by decide)]; exact h.row), (by rw [f.i 36 (by decide), f.i 37 (by decide), f.i 38 (by decide), f.i 39 (by decide)]; exact h.uw), (by rw [f.i 40 (by decide), f.i 41 (by decide), f.i 42 (by decide)]; exact h.ur), (by rw [f.i 43 (by decide), f.i 44 (by decide), f.i 45 (by decide), f.i 46 (by decide), f.i 47 (by decide)]; exact ⟨h.la.haw, h.la.har, h.la.hb, h.la.hg, h.la.hinn⟩), (by rw [f.i 48 (by decide), f.i 49 (by decide), f.i 50 (by decide), f.l 51 (by decide), f.i 52 (by decide), f.i 53 (by decide), f.i 54 (by decide), f.l 55 (by decide), f.i 56 (by decide)]; exact h.sw), (by rw [f.i 57 (by decide), f.i 58 (by decide), f.i 59 (by decide), f.l 60 (by decide), f.i 61 (by decide), f.i 62 (by decide), f.i 63 (by decide), f.l 64 (by decide), f.i 65 (by decide)]; exact h.sr), (by rw [f.i 66 (by decide), f.i 67 (by decide), f.i 68 (by decide), f.i 69 (by decide)]; exact ⟨h.ch.hnums, h.ch.hlat, h.ch.hchb, h.ch.hchr⟩), (by rw [f.i 70 (by decide), f.i 71 (by decide)]; exact h.rg), (by unfold maOf; rw [f.i 72 (by decide), f.l 73 (by decide), f.i 74 (by decide), f.i 75 (by decide), f.i 76 (by decide), f.i 77 (by decide), f.i 78 (by decide), f.i 79 (by decide), f.i 80 (by decide), f.i 81 (by decide), f.l 82 (by decide), f.i 83 (by decide), f.i 84 (by decide), f.i 85 (by decide), f.l 86 (by decide), f.i 87 (by decide)]; exact h.mo), (by rw [f.i 88 (by decide), f.i 89 (by decide), f.l 90 (by decide), f.i 91 (by decide)]; exact h.wt)⟩, f⟩
theorem row_put_ne {S : XS} {i j : Nat} {e : RE} (h : j ≠ i) : (S.put i e).row j = S.row j := by unfold XS.put XS.setRow; rw [XS.row_w_row]; exact vz_ne _ h
theorem row_drop_ne {S : XS} {i j : Nat} (h : j ≠ i) : (S.drop i).row j = S.row j := by unfold XS.drop XS.setRow; rw [XS.row_w_row]; exact vz_ne _ h
theorem hasRm_lt {S : XS} {i : Nat} (h : S.hasRm i = true) : (S.row i).length < roomN (i % 5) := by unfold XS.hasRm at h; simpa using h
theorem ansR_t (i : Nat) : ansR i 3 true = i + 192 + 256 := by unfold ansR; rw [if_pos rfl]
theorem ansR_f (i : Nat) : ansR i 3 false = i + 192 := by unfold ansR; rw [if_neg (by decide)]
theorem r_wd198t {Γ : gm_T} {φ : ph_T} {r : Nat} {S : XS} (h : RV Γ φ r S) (hB : Bd S) {a : RE} {l : List RE} (hrow : S.row (5 * (4 + S.ns) + 3) = a :: l) (hroom : S.hasRm (5 * (4 + S.ns) + 4) = true) :
    ∃ φ', f_Ref_workDefault_L198 Γ (uI φ r 57 (nI (S.dbeat + 1))) r (nI (5 * (4 + S.ns) + 3)) (nI (5 * (4 + S.ns) + 4)) a.c (nI 1) = some ((), φ') ∧ RV Γ φ' r (((S.put (5 * (4 + S.ns) + 4) ⟨0, nI (ansR (idN a.c) 3 true), S.time⟩).drop (5 * (4 + S.ns) + 3)).w_dbeat 0) ∧ RFr r [0, 32, 33, 34, 35] φ φ' := by
  have hns := hB.ns
  obtain ⟨c1, c2⟩ := h.dbU (S.dbeat + 1)
  have htm : (uI φ r 57 (nI (S.dbeat + 1))).1 r 6 = nI S.time := c1.sc.time
  obtain ⟨φ1, a1, a2, a3⟩ := r_put c1 (i := 5 * (4 + S.ns) + 4) (by omega) (hasRm_lt hroom) 0 (nI (ansR (idN a.c) 3 true)) S.time
  obtain ⟨d1, d2⟩ := a2.dbU 0
  obtain ⟨φ2, b1, b2, b3⟩ := r_take d1 (i := 5 * (4 + S.ns) + 3) (by omega) (by
    show ((S.w_dbeat (S.dbeat + 1)).put _ _).row _ ≠ []
    rw [row_put_ne (by omega)]
    show S.row _ ≠ []
    rw [hrow]; exact List.cons_ne_nil _ _)
  have a1' : f_Ref_put Γ (uI φ r 57 (nI (S.dbeat + 1))) r (nI (5 * (4 + S.ns) + 4)) (nL 0) (nI (idN a.c + 192 + 256)) (nI S.time) = some ((), φ1) := by rw [← ansR_t]; exact a1
  refine ⟨φ2, ?_, ?_, ((c2.mono (by decide)).trans (a3.mono (by decide))).trans ((d2.mono (by decide)).trans (b3.mono (by decide)))⟩
  · unfold f_Ref_workDefault_L198 f_Ref_workDefault_L225 f_Ref_workDefault_L249
    simp only [e_Ref_idOf, Option.bind_some, zI_lit, zL_lit, h.rl.o, if_true, zI_add, htm, a1', b1]
    rw [if_neg (show ¬ (nI 1 = nI 0) by decide), if_neg (show ¬ (nI 1 = nI 0) by decide)]
  · have f := RFr.refl r [] φ2
    exact ⟨(RL.up b2.rl (congrFun f.1 r)), (by rw [f.o (by decide)]; exact ⟨b2.sc.nm, b2.sc.ns, b2.sc.lim, b2.sc.pol, b2.sc.whole, b2.sc.time, b2.sc.tk, b2.sc.wm, b2.sc.rm, b2.sc.db, b2.sc.er⟩), (by rw [f.i 1 (by decide)]; exact b2.pg), (by rw [f.i 2 (by decide)]; exact b2.mp), (by rw [f.i 3 (by decide)]; exact b2.sp), (by rw [f.i 4 (by decide)]; exact b2.ea), (by rw [f.i 5 (by decide)]; exact b2.de), (by rw [f.i 6 (by decide)]; exact b2.wa), (by rw [f.i 7 (by decide), f.i 8 (by decide)]; exact b2.me), (by rw [f.i 9 (by decide), f.i 10 (by decide), f.i 11 (by decide), f.i 12 (by decide), f.i 13 (by decide), f.i 14 (by decide), f.i 15 (by decide), f.i 16 (by decide), f.i 17 (by decide), f.i 18 (by decide), f.i 20 (by decide), f.i 21 (by decide), f.i 22 (by decide), f.i 23 (by decide), f.i 24 (by decide), f.l 19 (by decide), f.l 25 (by decide)]; exact b2.tk), (by rw [f.i 26 (by decide), f.i 27 (by decide), f.l 28 (by decide), f.i 29 (by decide)]; exact b2.wi), (by rw [f.i 31 (by decide)]; exact b2.tr), (by rw [f.l 32 (by decide), f.i 33 (by decide), f.i 34 (by decide), f.i 35 (by decide)]; exact b2.row), (by rw [f.i 36 (by decide), f.i 37 (by decide), f.i 38 (by decide), f.i 39 (by decide)]; exact b2.uw), (by rw [f.i 40 (by decide), f.i 41 (by decide), f.i 42 (by decide)]; exact b2.ur), (by rw [f.i 43 (by decide), f.i 44 (by decide), f.i 45 (by decide), f.i 46 (by decide), f.i 47 (by decide)]; exact ⟨b2.la.haw, b2.la.har, b2.la.hb, b2.la.hg, b2.la.hinn⟩), (by rw [f.i 48 (by decide), f.i 49 (by decide), f.i 50 (by decide), f.l 51 (by decide), f.i 52 (by decide), f.i 53 (by decide), f.i 54 (by decide), f.l 55 (by decide), f.i 56 (by decide)]; exact b2.sw), (by rw [f.i 57 (by decide), f.i 58 (by decide), f.i 59 (by decide), f.l 60 (by decide), f.i 61 (by decide), f.i 62 (by decide), f.i 63 (by decide), f.l 64 (by decide), f.i 65 (by decide)]; exact b2.sr), (by rw [f.i 66 (by decide), f.i 67 (by decide), f.i 68 (by decide), f.i 69 (by decide)]; exact ⟨b2.ch.hnums, b2.ch.hlat, b2.ch.hchb, b2.ch.hchr⟩), (by rw [f.i 70 (by decide), f.i 71 (by decide)]; exact b2.rg), (by unfold maOf; rw [f.i 72 (by decide), f.l 73 (by decide), f.i 74 (by decide), f.i 75 (by decide), f.i 76 (by decide), f.i 77 (by decide), f.i 78 (by decide), f.i 79 (by decide), f.i 80 (by decide), f.i 81 (by decide), f.l 82 (by decide), f.i 83 (by decide), f.i 84 (by decide), f.i 85 (by decide), f.l 86 (by decide), f.i 87 (by decide)]; exact b2.mo), (by rw [f.i 88 (by decide), f.i 89 (by decide), f.l 90 (by decide), f.i 91 (by decide)]; exact b2.wt)⟩
theorem r_wd198f {Γ : gm_T} {φ : ph_T} {r : Nat} {S : XS} (h : RV Γ φ r S) (hB : Bd S) {a : RE} (hroom : S.hasRm (5 * (4 + S.ns) + 4) = true) :
    ∃ φ', f_Ref_workDefault_L198 Γ (uI φ r 57 (nI (S.dbeat + 1))) r (nI (5 * (4 + S.ns) + 3)) (nI (5 * (4 + S.ns) + 4)) a.c (nI 0) = some ((), φ') ∧ RV Γ φ' r ((S.put (5 * (4 + S.ns) + 4) ⟨0, nI (ansR (idN a.c) 3 false), S.time⟩).w_dbeat (S.dbeat + 1)) ∧ RFr r [0, 32, 33, 34, 35] φ φ' := by
  have hns := hB.ns
  obtain ⟨c1, c2⟩ := h.dbU (S.dbeat + 1)
  have htm : (uI φ r 57 (nI (S.dbeat + 1))).1 r 6 = nI S.time := c1.sc.time
  obtain ⟨φ1, a1, a2, a3⟩ := r_put c1 (i := 5 * (4 + S.ns) + 4) (by omega) (hasRm_lt hroom) 0 (nI (ansR (idN a.c) 3 false)) S.time
  have a1' : f_Ref_put Γ (uI φ r 57 (nI (S.dbeat + 1))) r (nI (5 * (4 + S.ns) + 4)) (nL 0) (nI (idN a.c + 192 + 0)) (nI S.time) = some ((), φ1) := by rw [Nat.add_zero, ← ansR_f]; exact a1
  refine ⟨φ1, ?_, ?_, (c2.mono (by decide)).trans (a3.mono (by decide))⟩
  · unfold f_Ref_workDefault_L198 f_Ref_workDefault_L225 f_Ref_workDefault_L249
    simp only [e_Ref_idOf, Option.bind_some, zI_lit, zL_lit, h.rl.o, if_true, zI_add, htm, a1']
  · have f := RFr.refl r [] φ1
    exact ⟨(RL.up a2.rl (congrFun f.1 r)), (by rw [f.o (by decide)]; exact ⟨a2.sc.nm, a2.sc.ns, a2.sc.lim, a2.sc.pol, a2.sc.whole, a2.sc.time, a2.sc.tk, a2.sc.wm, a2.sc.rm, a2.sc.db, a2.sc.er⟩), (by rw [f.i 1 (by decide)]; exact a2.pg), (by rw [f.i 2 (by decide)]; exact a2.mp), (by rw [f.i 3 (by decide)]; exact a2.sp), (by rw [f.i 4 (by decide)]; exact a2.ea), (by rw [f.i 5 (by decide)]; exact a2.de), (by rw [f.i 6 (by decide)]; exact a2.wa), (by rw [f.i 7 (by decide), f.i 8 (by decide)]; exact a2.me), (by rw [f.i 9 (by decide), f.i 10 (by decide), f.i 11 (by decide), f.i 12 (by decide), f.i 13 (by decide), f.i 14 (by decide), f.i 15 (by decide), f.i 16 (by decide), f.i 17 (by decide), f.i 18 (by decide), f.i 20 (by decide), f.i 21 (by decide), f.i 22 (by decide), f.i 23 (by decide), f.i 24 (by decide), f.l 19 (by decide), f.l 25 (by decide)]; exact a2.tk), (by rw [f.i 26 (by decide), f.i 27 (by decide), f.l 28 (by decide), f.i 29 (by decide)]; exact a2.wi), (by rw [f.i 31 (by decide)]; exact a2.tr), (by rw [f.l 32 (by decide), f.i 33 (by decide), f.i 34 (by decide), f.i 35 (by decide)]; exact a2.row), (by rw [f.i 36 (by decide), f.i 37 (by decide), f.i 38 (by decide), f.i 39 (by decide)]; exact a2.uw), (by rw [f.i 40 (by decide), f.i 41 (by decide), f.i 42 (by decide)]; exact a2.ur), (by rw [f.i 43 (by decide), f.i 44 (by decide), f.i 45 (by decide), f.i 46 (by decide), f.i 47 (by decide)]; exact ⟨a2.la.haw, a2.la.har, a2.la.hb, a2.la.hg, a2.la.hinn⟩), (by rw [f.i 48 (by decide), f.i 49 (by decide), f.i 50 (by decide), f.l 51 (by decide), f.i 52 (by decide), f.i 53 (by decide), f.i 54 (by decide), f.l 55 (by decide), f.i 56 (by decide)]; exact a2.sw), (by rw [f.i 57 (by decide), f.i 58 (by decide), f.i 59 (by decide), f.l 60 (by decide), f.i 61 (by decide), f.i 62 (by decide), f.i 63 (by decide), f.l 64 (by decide), f.i 65 (by decide)]; exact a2.sr), (by rw [f.i 66 (by decide), f.i 67 (by decide), f.i 68 (by decide), f.i 69 (by decide)]; exact ⟨a2.ch.hnums, a2.ch.hlat, a2.ch.hchb, a2.ch.hchr⟩), (by rw [f.i 70 (by decide), f.i 71 (by decide)]; exact a2.rg), (by unfold maOf; rw [f.i 72 (by decide), f.l 73 (by decide), f.i 74 (by decide), f.i 75 (by decide), f.i 76 (by decide), f.i 77 (by decide), f.i 78 (by decide), f.i 79 (by decide), f.i 80 (by decide), f.i 81 (by decide), f.l 82 (by decide), f.i 83 (by decide), f.i 84 (by decide), f.i 85 (by decide), f.l 86 (by decide), f.i 87 (by decide)]; exact a2.mo), (by rw [f.i 88 (by decide), f.i 89 (by decide), f.l 90 (by decide), f.i 91 (by decide)]; exact a2.wt)⟩
theorem refR_nil {S : XS} (h : S.row (5 * (4 + S.ns) + 3) = []) : S.refR = S := by unfold XS.refR; rw [h]
theorem refR_no {S : XS} {a : RE} {l : List RE} (h : S.row (5 * (4 + S.ns) + 3) = a :: l) (hr : S.hasRm (5 * (4 + S.ns) + 4) = false) : S.refR = S := by
  unfold XS.refR
  rw [h]
  simp only [hr, Bool.false_eq_true, if_false]
theorem refR_end {S : XS} {a : RE} {l : List RE} (h : S.row (5 * (4 + S.ns) + 3) = a :: l) (hr : S.hasRm (5 * (4 + S.ns) + 4) = true) (hl : S.dbeat + 1 = leN a.c) : S.refR = ((S.put (5 * (4 + S.ns) + 4) ⟨0, nI (ansR (idN a.c) 3 true), S.time⟩).drop (5 * (4 + S.ns) + 3)).w_dbeat 0 := by
  unfold XS.refR
  rw [h]
  simp only [hr, if_true]
  rw [if_pos hl]
theorem refR_on {S : XS} {a : RE} {l : List RE} (h : S.row (5 * (4 + S.ns) + 3) = a :: l) (hr : S.hasRm (5 * (4 + S.ns) + 4) = true) (hl : ¬ S.dbeat + 1 = leN a.c) : S.refR = (S.put (5 * (4 + S.ns) + 4) ⟨0, nI (ansR (idN a.c) 3 false), S.time⟩).w_dbeat (S.dbeat + 1) := by
  unfold XS.refR
  rw [h]
  simp only [hr, if_true]
  rw [if_neg hl]
theorem refW_nil {S : XS} (h : S.row (5 * (4 + S.ns) + 1) = []) : S.refW = S := by unfold XS.refW; rw [h]
theorem refW_on {S : XS} {d : RE} {l : List RE} (h : S.row (5 * (4 + S.ns) + 1) = d :: l) (hd : rLa d.r = false) : S.refW = S.drop (5 * (4 + S.ns) + 1) := by
  unfold XS.refW
  rw [h]
  simp only [hd, Bool.false_eq_true, if_false]
theorem refW_no {S : XS} {d : RE} {l : List RE} (h : S.row (5 * (4 + S.ns) + 1) = d :: l) (hr : S.hasRm (5 * (4 + S.ns) + 2) = false) (hd : rLa d.r = true) : S.refW = S := by
  unfold XS.refW
  rw [h]
  simp only [hd, hr, Bool.false_eq_true, if_false, if_true]
theorem refW_end {S : XS} {d a : RE} {l l2 : List RE} (h : S.row (5 * (4 + S.ns) + 1) = d :: l) (hr : S.hasRm (5 * (4 + S.ns) + 2) = true) (hd : rLa d.r = true) (h2 : S.row (5 * (4 + S.ns)) = a :: l2) : S.refW = ((S.drop (5 * (4 + S.ns) + 1)).put (5 * (4 + S.ns) + 2) ⟨0, nI (ansR (idN a.c) 3 false), S.time⟩).drop (5 * (4 + S.ns)) := by
  unfold XS.refW
  rw [h]
  simp only [hd, hr, if_true]
  rw [h2]
theorem r_refR {Γ : gm_T} {φ : ph_T} {r : Nat} {S : XS} (h : RV Γ φ r S) (hB : Bd S) :
    ∃ φ', f_Ref_workDefault_L117 Γ φ r = some ((), φ') ∧ RV Γ φ' r S.refR ∧ RFr r [0, 32, 33, 34, 35] φ φ' := by
  have hns := hB.ns
  have hdb := hB.db
  have h4 := roomN_le ((5 * (4 + S.ns) + 3) % 5)
  have h5 := h.row.hle (5 * (4 + S.ns) + 3) (by omega)
  have hmm := h.row.hmany (5 * (4 + S.ns) + 3) (by omega)
  have hrm := r_hasRoom h (i := 5 * (4 + S.ns) + 4) (by omega)
  unfold f_Ref_workDefault_L117 f_Ref_workDefault_L249
  have w3 : f_Ref_rowOf Γ φ r 1 (φ.1 r 2) 3 = some (nI (5 * (4 + S.ns) + 3), φ) := by rw [h.sc.ns]; exact e_rowOf1 Γ φ r S.ns 3
  have w4 : f_Ref_rowOf Γ φ r 1 (φ.1 r 2) 4 = some (nI (5 * (4 + S.ns) + 4), φ) := by rw [h.sc.ns]; exact e_rowOf1 Γ φ r S.ns 4
  rw [if_pos h.rl.o, w3, Option.bind_some, w4, Option.bind_some, rf_42 h.rl, Option.bind_some, rg_42 h.rl, Option.bind_some, zix (show 5 * (4 + S.ns) + 3 < 45 by omega), Option.bind_some, hrm, Option.bind_some, hmm]
  simp (disch := first | assumption | omega) only [zI_lit, zI_le, bI_eq0]
  by_cases hnil : S.row (5 * (4 + S.ns) + 3) = []
  · rw [refR_nil hnil, if_pos (by rw [hnil]; exact Nat.le_refl _)]
    exact ⟨φ, rfl, h, RFr.refl _ _ _⟩
  · obtain ⟨a, l, hrow⟩ := List.exists_cons_of_ne_nil hnil
    have hlp := List.length_pos_iff.mpr hnil
    rw [if_neg (by omega)]
    have he := h.row.hent (5 * (4 + S.ns) + 3) 0 a (by omega) (XS.row_at hrow)
    simp only [Nat.add_zero] at he
    by_cases hroom : S.hasRm (5 * (4 + S.ns) + 4) = true
    · rw [if_neg (by rw [hroom]; decide)]
      have hle := leN_le a.c
      simp (disch := first | assumption | omega) only [rf_39 h.rl, rg_39 h.rl, Option.bind_some, zI_mul, zix, he, h.sc.db, zI_add, e_Ref_lengthOf, uI_s, vz_same, zI_eq]
      by_cases hl : S.dbeat + 1 = leN a.c
      · rw [refR_end hrow hroom hl, if_pos hl]
        exact r_wd198t h hB hrow hroom
      · rw [refR_on hrow hroom hl, if_neg hl]
        exact r_wd198f h hB hroom
    · have hroom' : S.hasRm (5 * (4 + S.ns) + 4) = false := by simpa using hroom
      rw [refR_no hrow hroom', if_pos hroom']
      exact ⟨φ, rfl, h, RFr.refl _ _ _⟩
theorem r_wd64 {Γ : gm_T} {φ : ph_T} {r : Nat} {S : XS} (h : RV Γ φ r S) (hB : Bd S) {a : RE} {l2 : List RE} (hrow2 : S.row (5 * (4 + S.ns)) = a :: l2) (hd : S.row (5 * (4 + S.ns) + 1) ≠ []) (hroom : S.hasRm (5 * (4 + S.ns) + 2) = true) :
    ∃ φ1, f_Ref_workDefault_L64 Γ φ r (nI (5 * (4 + S.ns) + 1)) (nI (5 * (4 + S.ns) + 2)) (bI true) = f_Ref_workDefault_L117 Γ φ1 r ∧ RV Γ φ1 r (((S.drop (5 * (4 + S.ns) + 1)).put (5 * (4 + S.ns) + 2) ⟨0, nI (ansR (idN a.c) 3 false), S.time⟩).drop (5 * (4 + S.ns))) ∧ RFr r [0, 32, 33, 34, 35] φ φ1 := by
  have hns := hB.ns
  obtain ⟨φ1, a1, a2, a3⟩ := r_take h (i := 5 * (4 + S.ns) + 1) (by omega) hd
  have hr2 : (S.drop (5 * (4 + S.ns) + 1)).row (5 * (4 + S.ns)) = a :: l2 := by rw [row_drop_ne (by omega)]; exact hrow2
  have he := a2.row.hent (5 * (4 + S.ns)) 0 a (by omega) (XS.row_at hr2)
  simp only [Nat.add_zero] at he
  have htm : φ1.1 r 6 = nI S.time := a2.sc.time
  have hnsv : φ1.1 r 2 = nI S.ns := a2.sc.ns
  obtain ⟨φ2, b1, b2, b3⟩ := r_put a2 (i := 5 * (4 + S.ns) + 2) (by omega) (by rw [row_drop_ne (by omega)]; exact hasRm_lt hroom) 0 (nI (ansR (idN a.c) 3 false)) S.time
  obtain ⟨φ3, c1, c2, c3⟩ := r_take b2 (i := 5 * (4 + S.ns)) (by omega) (by rw [row_put_ne (by omega), hr2]; exact List.cons_ne_nil _ _)
  have b1' : f_Ref_put Γ φ1 r (nI (5 * (4 + S.ns) + 2)) (nL 0) (nI (idN a.c + 192)) (nI S.time) = some ((), φ2) := by rw [← ansR_f]; exact b1
  refine ⟨φ3, ?_, c2, ((a3.mono (by decide)).trans (b3.mono (by decide))).trans (c3.mono (by decide))⟩
  unfold f_Ref_workDefault_L64
  simp only [h.rl.o, if_true, a1, Option.bind_some, bI_eq0, zI_lit, zL_lit, Bool.true_eq_false, if_false, hnsv, e_rowOf1, rf_39 a2.rl, rg_39 a2.rl, zI_mul, Nat.add_zero, zix (show 4 * (5 * (4 + S.ns)) < 180 by omega), he, e_Ref_idOf, zI_add, htm, b1', c1]
theorem r_refW {Γ : gm_T} {φ : ph_T} {r : Nat} {S : XS} (h : RV Γ φ r S) (hB : Bd S) (hA : ∀ d l, S.row (5 * (4 + S.ns) + 1) = d :: l → rLa d.r = true → S.row (5 * (4 + S.ns)) ≠ []) :
    ∃ φ1, f_Ref_workDefault Γ φ r = f_Ref_workDefault_L117 Γ φ1 r ∧ RV Γ φ1 r S.refW ∧ RFr r [0, 32, 33, 34, 35] φ φ1 := by
  have hns := hB.ns
  have h4 := roomN_le ((5 * (4 + S.ns) + 1) % 5)
  have h5 := h.row.hle (5 * (4 + S.ns) + 1) (by omega)
  have hmm := h.row.hmany (5 * (4 + S.ns) + 1) (by omega)
  have hrm := r_hasRoom h (i := 5 * (4 + S.ns) + 2) (by omega)
  have L42 : ∀ b : Bool, (∀ d l, S.row (5 * (4 + S.ns) + 1) = d :: l → b = rLa d.r) → ∃ φ1, f_Ref_workDefault_L42 Γ φ r (nI (5 * (4 + S.ns) + 1)) (nI (5 * (4 + S.ns) + 2)) (bI b) = f_Ref_workDefault_L117 Γ φ1 r ∧ RV Γ φ1 r S.refW ∧ RFr r [0, 32, 33, 34, 35] φ φ1 := by
    intro b hb
    unfold f_Ref_workDefault_L42
    simp (disch := first | assumption | omega) only [h.rl.o, if_true, zI_lit, Option.bind_some, rf_42 h.rl, rg_42 h.rl, zix, hmm, zI_le, hrm, bI_eq0]
    by_cases hnil : S.row (5 * (4 + S.ns) + 1) = []
    · rw [refW_nil hnil, if_pos (by rw [hnil]; exact Nat.le_refl _)]
      exact ⟨φ, rfl, h, RFr.refl _ _ _⟩
    · obtain ⟨d, l, hrow⟩ := List.exists_cons_of_ne_nil hnil
      have hlp := List.length_pos_iff.mpr hnil
      have hbd := hb d l hrow
      rw [if_neg (by omega)]
      cases b with
      | false =>
        obtain ⟨φ1, a1, a2, a3⟩ := r_take h (i := 5 * (4 + S.ns) + 1) (by omega) hnil
        rw [refW_on hrow hbd.symm, if_pos rfl]
        refine ⟨φ1, ?_, a2, a3.mono (by decide)⟩
        unfold f_Ref_workDefault_L64
        rw [if_pos h.rl.o, a1, Option.bind_some, if_pos (show bI false = 0 from rfl)]
      | true =>
        rw [if_neg (show ¬ (true = false) by decide)]
        by_cases hroom : S.hasRm (5 * (4 + S.ns) + 2) = true
        · rw [if_neg (by rw [hroom]; decide)]
          obtain ⟨a, l2, hrow2⟩ := List.exists_cons_of_ne_nil (hA d l hrow hbd.symm)
          rw [refW_end hrow hroom hbd.symm hrow2]
          exact r_wd64 h hB hrow2 hnil hroom
        · have hroom' : S.hasRm (5 * (4 + S.ns) + 2) = false := by simpa using hroom
          rw [refW_no hrow hroom' hbd.symm, if_pos hroom']
          exact ⟨φ, rfl, h, RFr.refl _ _ _⟩
  unfold f_Ref_workDefault
  have w1 : f_Ref_rowOf Γ φ r 1 (φ.1 r 2) 1 = some (nI (5 * (4 + S.ns) + 1), φ) := by rw [h.sc.ns]; exact e_rowOf1 Γ φ r S.ns 1
  have w2 : f_Ref_rowOf Γ φ r 1 (φ.1 r 2) 2 = some (nI (5 * (4 + S.ns) + 2), φ) := by rw [h.sc.ns]; exact e_rowOf1 Γ φ r S.ns 2
  rw [if_pos h.rl.o, w1, Option.bind_some, w2, Option.bind_some, rf_40 h.rl, Option.bind_some, rg_40 h.rl, Option.bind_some, show (4 : Int32) * nI (5 * (4 + S.ns) + 1) = nI (4 * (5 * (4 + S.ns) + 1)) from zI_mul 4 _, zix (show 4 * (5 * (4 + S.ns) + 1) < 180 by omega), Option.bind_some]
  simp only [zI_lit, rLa_eq]
  cases hL : rLa (φ.1 (r + 33) (4 * (5 * (4 + S.ns) + 1))) with
  | false =>
    simp only [if_true]
    exact L42 false (fun d l hrow => by
      have he := h.row.hent (5 * (4 + S.ns) + 1) 0 d (by omega) (XS.row_at hrow)
      simp only [Nat.add_zero] at he
      rw [he.2.1] at hL
      exact hL.symm)
  | true =>
    simp only [Bool.true_eq_false, if_false]
    exact L42 true (fun d l hrow => by
      have he := h.row.hent (5 * (4 + S.ns) + 1) 0 d (by omega) (XS.row_at hrow)
      simp only [Nat.add_zero] at he
      rw [he.2.1] at hL
      exact hL.symm)
