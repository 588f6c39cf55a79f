/-! THE REFERENCE shows all wires of a master -/
theorem RV.wiC {Γ : gm_T} {φ : ph_T} {r : Nat} {S : XS} (h : RV Γ φ r S) {wi' : Nat → WI} (hc : ∀ p k, p < 10 → k < 5 → (wi' p).w k = (S.wi p).w k ∧ (wi' p).rd k = (S.wi p).rd k) : RV Γ φ r (S.w_wi (wi')) := by
  have f := RFr.refl r [] φ
  have h1 : VWi (φ.1 (r + 26)) (φ.1 (r + 27)) (φ.2.1 (r + 28)) (φ.1 (r + 29)) 8 wi' := by
    intro p k hp hk
    have := h.wi p k hp hk
    rw [(hc p k (by omega) hk).1, (hc p k (by omega) hk).2]
    exact this
  have h2 : VWi (φ.1 (r + 88)) (φ.1 (r + 89)) (φ.2.1 (r + 90)) (φ.1 (r + 91)) 2 (fun p => wi' (8 + p)) := by
    intro p k hp hk
    have := h.wt p k hp hk
    simp only
    rw [(hc (8 + p) k (by omega) hk).1, (hc (8 + p) k (by omega) hk).2]
    exact this
  exact ⟨(RL.up h.rl (congrFun f.1 r)), (by rw [f.o (by decide)]; exact ⟨h.sc.nm, h.sc.ns, h.sc.lim, h.sc.pol, h.sc.whole, h.sc.time, h.sc.tk, h.sc.wm, h.sc.rm, h.sc.db, h.sc.er⟩), (by rw [f.i 1 (by decide)]; exact h.pg), (by rw [f.i 2 (by decide)]; exact h.mp), (by rw [f.i 3 (by decide)]; exact h.sp), (by rw [f.i 4 (by decide)]; exact h.ea), (by rw [f.i 5 (by decide)]; exact h.de), (by rw [f.i 6 (by decide)]; exact h.wa), (by rw [f.i 7 (by decide), f.i 8 (by decide)]; exact h.me), (by rw [f.i 9 (by decide), f.i 10 (by decide), f.i 11 (by decide), f.i 12 (by decide), f.i 13 (by decide), f.i 14 (by decide), f.i 15 (by decide), f.i 16 (by decide), f.i 17 (by decide), f.i 18 (by decide), f.i 20 (by decide), f.i 21 (by decide), f.i 22 (by decide), f.i 23 (by decide), f.i 24 (by decide), f.l 19 (by decide), f.l 25 (by decide)]; exact h.tk), h1, (by rw [f.i 31 (by decide)]; exact h.tr), (by rw [f.l 32 (by decide), f.i 33 (by decide), f.i 34 (by decide), f.i 35 (by decide)]; exact h.row), (by rw [f.i 36 (by decide), f.i 37 (by decide), f.i 38 (by decide), f.i 39 (by decide)]; exact h.uw), (by rw [f.i 40 (by decide), f.i 41 (by decide), f.i 42 (by decide)]; exact h.ur), (by rw [f.i 43 (by decide), f.i 44 (by decide), f.i 45 (by decide), f.i 46 (by decide), f.i 47 (by decide)]; exact ⟨h.la.haw, h.la.har, h.la.hb, h.la.hg, h.la.hinn⟩), (by rw [f.i 48 (by decide), f.i 49 (by decide), f.i 50 (by decide), f.l 51 (by decide), f.i 52 (by decide), f.i 53 (by decide), f.i 54 (by decide), f.l 55 (by decide), f.i 56 (by decide)]; exact h.sw), (by rw [f.i 57 (by decide), f.i 58 (by decide), f.i 59 (by decide), f.l 60 (by decide), f.i 61 (by decide), f.i 62 (by decide), f.i 63 (by decide), f.l 64 (by decide), f.i 65 (by decide)]; exact h.sr), (by rw [f.i 66 (by decide), f.i 67 (by decide), f.i 68 (by decide), f.i 69 (by decide)]; exact ⟨h.ch.hnums, h.ch.hlat, h.ch.hchb, h.ch.hchr⟩), (by rw [f.i 70 (by decide), f.i 71 (by decide)]; exact h.rg), (by unfold maOf; rw [f.i 72 (by decide), f.l 73 (by decide), f.i 74 (by decide), f.i 75 (by decide), f.i 76 (by decide), f.i 77 (by decide), f.i 78 (by decide), f.i 79 (by decide), f.i 80 (by decide), f.i 81 (by decide), f.l 82 (by decide), f.i 83 (by decide), f.i 84 (by decide), f.i 85 (by decide), f.l 86 (by decide), f.i 87 (by decide)]; exact h.mo), h2⟩
/-- the state with other wires at a port -/
def XS.at (S : XS) (p : Nat) (x : WI) : XS := (S.w_wi (va_up S.wi p x))
theorem vz_va {α : Type} (f : Nat → α) (k : Nat) (v w : α) : va_up (va_up f k v) k w = va_up f k w := by
  funext j
  simp only [vz_at]
  split <;> rfl
theorem at_setW (S : XS) (p k : Nat) (x : WI) (v : WV) : (S.at p x).setW p k v = S.at p ⟨va_up x.w k v, x.rd⟩ := by
  unfold XS.at XS.setW
  simp only [XS.wi_w_wi, XS.w_wi_w_wi, vz_va, vz_same]
  try rfl
theorem at_setR (S : XS) (p k : Nat) (x : WI) (v : Bool) : (S.at p x).setR p k v = S.at p ⟨x.w, va_up x.rd k v⟩ := by
  unfold XS.at XS.setR
  simp only [XS.wi_w_wi, XS.w_wi_w_wi, vz_va, vz_same]
  try rfl
theorem at_self (S : XS) (p : Nat) : S.at p (S.wi p) = S := by
  unfold XS.at
  have : va_up S.wi p (S.wi p) = S.wi := by
    funext j
    simp only [vz_at]
    split
    · rename_i h; rw [h]
    · rfl
  rw [this, XS.w_wi_self]
theorem hdW_w {x : WI} {k j : Nat} {v : WV} (h : j ≠ k) : hdW (⟨va_up x.w k v, x.rd⟩ : WI) j = hdW x j := by
  unfold hdW; simp [vz_at, h, WI.w_mk, WI.rd_mk, WI.w_w_w, WI.w_w_rd, WI.rd_w_w, WI.rd_w_rd]
theorem adrW_at (S : XS) (m c : Nat) (wr : Bool) (x : WI) : (S.at m x).adrW m c wr = if hdW x c = true then x.w c else match S.tk.find? (isUns m wr) with
    | some t => if on (S.mpat m c) S.time = true then ⟨true, t.con, 0⟩ else WV0
    | none => WV0 := by
  unfold XS.adrW XS.at
  simp only [XS.wi_w_nm, XS.wi_w_ns, XS.wi_w_lim, XS.wi_w_pol, XS.wi_w_whole, XS.wi_w_time, XS.wi_w_dbeat, XS.wi_w_moved, XS.wi_w_pages, XS.wi_w_mpat, XS.wi_w_spat, XS.wi_w_early, XS.wi_w_delay, XS.wi_w_way, XS.wi_w_mem, XS.wi_w_spo, XS.wi_w_tk, XS.wi_w_wi, XS.wi_w_tr, XS.wi_w_row, XS.wi_w_uw, XS.wi_w_ur, XS.wi_w_la, XS.wi_w_lr, XS.wi_w_lb, XS.wi_w_lg, XS.wi_w_inb, XS.wi_w_sw, XS.wi_w_sr, XS.wi_w_rnum, XS.wi_w_lat, XS.wi_w_chb, XS.wi_w_chr, XS.wi_w_rgt, XS.wi_w_mon, XS.wi_w_err, vz_same]
  rfl
theorem datW_at (S : XS) (m : Nat) (x : WI) : (S.at m x).datW m = if hdW x 1 = true then x.w 1 else match S.tk.find? (isUnf m) with
    | some t => if on (S.mpat m 1) S.time = true ∧ (S.early m = true ∨ t.sent ≠ m1) then ⟨true, t.dat t.beats, t.rst t.beats⟩ else WV0
    | none => WV0 := by
  unfold XS.datW XS.at
  simp only [XS.wi_w_nm, XS.wi_w_ns, XS.wi_w_lim, XS.wi_w_pol, XS.wi_w_whole, XS.wi_w_time, XS.wi_w_dbeat, XS.wi_w_moved, XS.wi_w_pages, XS.wi_w_mpat, XS.wi_w_spat, XS.wi_w_early, XS.wi_w_delay, XS.wi_w_way, XS.wi_w_mem, XS.wi_w_spo, XS.wi_w_tk, XS.wi_w_wi, XS.wi_w_tr, XS.wi_w_row, XS.wi_w_uw, XS.wi_w_ur, XS.wi_w_la, XS.wi_w_lr, XS.wi_w_lb, XS.wi_w_lg, XS.wi_w_inb, XS.wi_w_sw, XS.wi_w_sr, XS.wi_w_rnum, XS.wi_w_lat, XS.wi_w_chb, XS.wi_w_chr, XS.wi_w_rgt, XS.wi_w_mon, XS.wi_w_err, vz_same]
  rfl
theorem r_rowTwo {Γ : gm_T} {φ : ph_T} {r : Nat} {S : XS} {m : Nat} {x : WI} (h : RV Γ φ r (S.at m x)) (hm : m < 4) {c : Nat} (hc : c = 2 ∨ c = 4) (hpat : S.mpat m c < 65536) (htime : S.time < 2 ^ 31) (fu : Nat) :
    ∃ φ', f_Ref_showMaster_L82 Γ (fu + 1) φ r (nI m) (nI c) = f_Ref_showMaster_L82 Γ fu φ' r (nI m) (nI (c + 2)) ∧ RV Γ φ' r (S.at m ⟨va_up x.w c (rowW (S.row (5 * m + c))), va_up x.rd c (on (S.mpat m c) S.time)⟩) ∧ RFr r [26, 27, 28, 29] φ φ' := by
  have h4 := roomN_le ((5 * m + c) % 5)
  have h5 := h.row.hle (5 * m + c) (by omega)
  have hmm := h.row.hmany (5 * m + c) (by omega)
  have key : ∀ b : Bool, b = decide (0 < (S.row (5 * m + c)).length) → ∃ φ', f_Ref_showMaster_L115 Γ (f_Ref_showMaster_L82 Γ fu) φ r (nI m) (nI c) (nI (5 * m + c)) (bI b) (nI (5 * m + c)) r = f_Ref_showMaster_L82 Γ fu φ' r (nI m) (nI (c + 2)) ∧ RV Γ φ' r (S.at m ⟨va_up x.w c (rowW (S.row (5 * m + c))), va_up x.rd c (on (S.mpat m c) S.time)⟩) ∧ RFr r [26, 27, 28, 29] φ φ' := by
    intro b hb
    obtain ⟨φ1, e1, e2, e3⟩ := r_show h (p := m) (k := c) (by omega) (by omega) b (φ.2.1 (r + 32) (4 * (5 * m + c))) (φ.1 (r + 33) (4 * (5 * m + c)))
    rw [at_setW] at e2
    have hw : (⟨b, if b = true then φ.2.1 (r + 32) (4 * (5 * m + c)) else 0, if b = true then φ.1 (r + 33) (4 * (5 * m + c)) else 0⟩ : WV) = rowW (S.row (5 * m + c)) := by
      cases hr : S.row (5 * m + c) with
      | nil => rw [hr] at hb; subst hb; rfl
      | cons e l =>
        have he := h.row.hent (5 * m + c) 0 e (by omega) (by show (S.row (5 * m + c))[0]? = _; rw [hr]; rfl)
        simp only [Nat.add_zero] at he
        rw [hr] at hb
        subst hb
        simp [he, rowW, WV.v_mk, WV.c_mk, WV.r_mk, WV.v_w_v, WV.v_w_c, WV.v_w_r, WV.c_w_v, WV.c_w_c, WV.c_w_r, WV.r_w_v, WV.r_w_c, WV.r_w_r]
    rw [hw] at e2
    obtain ⟨g1, g2⟩ := r_rdy e2 (p := m) (k := c) (by omega) (by omega) (on (S.mpat m c) S.time)
    rw [at_setR] at g1
    refine ⟨_, ?_, g1, ((e3.mono (by decide)).trans (g2.mono (by decide)))⟩
    unfold f_Ref_showMaster_L115
    have hp := e2.mp m c hm (by omega)
    have ht := e2.sc.time
    unfold XS.at at hp ht
    simp only [XS.mpat_w_wi, XS.time_w_wi] at hp ht
    simp (disch := first | assumption | omega) only [h.rl.o, rf_8 h.rl, rg_8 h.rl, rf_34 h.rl, rg_34 h.rl, rf_39 h.rl, rg_39 h.rl, rf_40 h.rl, rg_40 h.rl, Option.bind_some, if_true, zix, ↓zm1, zI_ne_m, zI_m_ne, zI_lit, zI_le, zI_eq, zI_mul, zI_lt, zI_modn, zI_div, zI_sub, zI_add, zN_mod]
    simp only [e1, Option.bind_some, rf_8 e2.rl, rg_8 e2.rl, rf_34 e2.rl, rg_34 e2.rl]
    simp (disch := first | assumption | omega) only [zix, Option.bind_some, hp, ht, e_tells, bI_ok, if_true]
  obtain ⟨φ', k1, k2, k3⟩ := key _ rfl
  refine ⟨φ', ?_, k2, k3⟩
  rw [← k1]
  conv => lhs; unfold f_Ref_showMaster_L82
  have hmm2 : φ.1 (r + 35) (5 * m + c) = nI (S.row (5 * m + c)).length := hmm
  have h52 : (S.row (5 * m + c)).length ≤ roomN ((5 * m + c) % 5) := h5
  simp (disch := first | assumption | omega) only [h.rl.o, rf_42 h.rl, rg_42 h.rl, e_rowOf0, Option.bind_some, if_true, zix, hmm2, ↓zm1, zI_ne_m, zI_m_ne, zI_lit, zI_le, zI_eq, zI_mul, zI_lt, zI_modn, zI_div, zI_sub, zI_add, zN_mod]
  rw [if_neg (show ¬ 4 < c by omega)]
  by_cases hc0 : (S.row (5 * m + c)).length ≤ 0
  · rw [if_pos hc0, decide_eq_false (by omega)]
    rfl
  · rw [if_neg hc0, decide_eq_true (by omega)]
    rfl
theorem r_showMaster {Γ : gm_T} {φ : ph_T} {r : Nat} {S : XS} (h : RV Γ φ r S) {m : Nat} (hm : m < 4) (hpat : ∀ c, S.mpat m c < 65536) (htime : S.time < 2 ^ 31) (hh : ∀ c, c < 5 → φ.1 (r + 30) (5 * m + c) = bI (hdW (S.wi m) c)) (ha : InvA S m 0 true) (hr : InvA S m 3 false) (hd : InvD S m) :
    ∃ φ', f_Ref_showMaster Γ φ r (nI m) = some ((), φ') ∧ RV Γ φ' r (S.at m (S.showM m)) ∧ RFr r [26, 27, 28, 29] φ φ' := by
  obtain ⟨φ1, a1, a2, a3⟩ := r_showAddress h hm (c := 0) (Or.inl rfl) (hpat 0) htime (hh 0 (by omega)) ha
  rw [show decide (0 = 0) = true from rfl] at a2
  have hS : S.setW m 0 (S.adrW m 0 true) = S.at m ⟨va_up (S.wi m).w 0 (S.adrW m 0 true), (S.wi m).rd⟩ := rfl
  rw [hS] at a2
  have hx1 : hdW (⟨va_up (S.wi m).w 0 (S.adrW m 0 true), (S.wi m).rd⟩ : WI) 1 = hdW (S.wi m) 1 := hdW_w (by omega)
  obtain ⟨φ2, b1, b2, b3⟩ := r_showData a2 hm (hpat 1) htime (by rw [a3.i 30 (by decide), hh 1 (by omega)]; unfold XS.at; simp only [XS.wi_w_wi, vz_same]; rw [hx1]) (by
    intro hq
    unfold XS.at at hq ⊢
    simp only [XS.wi_w_wi, XS.tk_w_wi, vz_same] at hq ⊢
    rw [hx1] at hq
    obtain ⟨t, t1, t2⟩ := hd hq
    exact ⟨t, t1, by simpa [vz_at, WI.w_mk, WI.rd_mk, WI.w_w_w, WI.w_w_rd, WI.rd_w_w, WI.rd_w_rd] using t2⟩)
  rw [at_setW, datW_at, hx1] at b2
  have hd1 : (if hdW (S.wi m) 1 = true then (va_up (S.wi m).w 0 (S.adrW m 0 true)) 1 else match S.tk.find? (isUnf m) with
    | some t => if on (S.mpat m 1) S.time = true ∧ (S.early m = true ∨ t.sent ≠ m1) then ⟨true, t.dat t.beats, t.rst t.beats⟩ else WV0
    | none => WV0) = S.datW m := by unfold XS.datW; simp only [vz_at]; rfl
  simp only [WI.w_mk, WI.rd_mk, WI.w_w_w, WI.w_w_rd, WI.rd_w_w, WI.rd_w_rd] at b2
  rw [hd1] at b2
  have hx3 : hdW (⟨va_up (va_up (S.wi m).w 0 (S.adrW m 0 true)) 1 (S.datW m), (S.wi m).rd⟩ : WI) 3 = hdW (S.wi m) 3 := by unfold hdW; simp [vz_at, WI.w_mk, WI.rd_mk, WI.w_w_w, WI.w_w_rd, WI.rd_w_w, WI.rd_w_rd]
  obtain ⟨φ3, c1, c2, c3⟩ := r_showAddress b2 hm (c := 3) (Or.inr rfl) (hpat 3) htime (by rw [b3.i 30 (by decide), a3.i 30 (by decide), hh 3 (by omega)]; unfold XS.at; simp only [XS.wi_w_wi, vz_same]; rw [hx3]) (by
    intro hq
    unfold XS.at at hq ⊢
    simp only [XS.wi_w_wi, XS.tk_w_wi, vz_same] at hq ⊢
    rw [hx3] at hq
    obtain ⟨t, t1, t2⟩ := hr hq
    exact ⟨t, t1, by simpa [vz_at, WI.w_mk, WI.rd_mk, WI.w_w_w, WI.w_w_rd, WI.rd_w_w, WI.rd_w_rd] using t2⟩)
  rw [at_setW, adrW_at, hx3] at c2
  have hd3 : (if hdW (S.wi m) 3 = true then (va_up (va_up (S.wi m).w 0 (S.adrW m 0 true)) 1 (S.datW m)) 3 else match S.tk.find? (isUns m (decide (3 = 0))) with
    | some t => if on (S.mpat m 3) S.time = true then ⟨true, t.con, 0⟩ else WV0
    | none => WV0) = S.adrW m 3 false := by unfold XS.adrW; simp only [vz_at]; rfl
  simp only [WI.w_mk, WI.rd_mk, WI.w_w_w, WI.w_w_rd, WI.rd_w_w, WI.rd_w_rd] at c2
  rw [hd3] at c2
  have hro : ∀ k, k < 5 → (XS.at S m ⟨va_up (va_up (va_up (S.wi m).w 0 (S.adrW m 0 true)) 1 (S.datW m)) 3 (S.adrW m 3 false), (S.wi m).rd⟩).hasRm (5 * m + k) = S.hasRm (5 * m + k) := fun k _ => rfl
  have R0 := r_hasRoom c2 (i := 5 * m + 0) (by omega)
  obtain ⟨d1, d2⟩ := r_rdy c2 (p := m) (k := 0) (by omega) (by omega) (S.hasRm (5 * m + 0))
  rw [at_setR] at d1
  have R1 := r_hasRoom d1 (i := 5 * m + 1) (by omega)
  obtain ⟨e1, e2⟩ := r_rdy d1 (p := m) (k := 1) (by omega) (by omega) (S.hasRm (5 * m + 1))
  rw [at_setR] at e1
  have R3 := r_hasRoom e1 (i := 5 * m + 3) (by omega)
  obtain ⟨f1, f2⟩ := r_rdy e1 (p := m) (k := 3) (by omega) (by omega) (S.hasRm (5 * m + 3))
  rw [at_setR] at f1
  obtain ⟨φ4, g1, g2, g3⟩ := r_rowTwo f1 hm (c := 2) (Or.inl rfl) (hpat 2) htime 99999
  obtain ⟨φ5, k1, k2, k3⟩ := r_rowTwo g2 hm (c := 4) (Or.inr rfl) (hpat 4) htime 99998
  have R0' : f_Ref_hasRoom Γ φ3 r (nI (5 * m + 0)) = some (bI (S.hasRm (5 * m + 0)), φ3) := R0
  have R1' : f_Ref_hasRoom Γ (uI φ3 (r + 27) (5 * m + 0) (bI (S.hasRm (5 * m + 0)))) r (nI (5 * m + 1)) = some (bI (S.hasRm (5 * m + 1)), _) := R1
  have R3' : f_Ref_hasRoom Γ (uI (uI φ3 (r + 27) (5 * m + 0) (bI (S.hasRm (5 * m + 0)))) (r + 27) (5 * m + 1) (bI (S.hasRm (5 * m + 1)))) r (nI (5 * m + 3)) = some (bI (S.hasRm (5 * m + 3)), _) := R3
  refine ⟨φ5, ?_, ?_, ?_⟩
  · unfold f_Ref_showMaster
    rw [zI_0] at *
    simp only [zI_lit] at a1 c1 ⊢
    rw [if_pos h.rl.o, a1]
    simp only [Option.bind_some]
    rw [b1]
    simp only [Option.bind_some]
    rw [c1]
    simp only [Option.bind_some, e_rowOf0, R0', rf_34 c2.rl, rg_34 c2.rl, zI_mul, zI_add, bI_ok, if_true]
    rw [zix (show 5 * m + 0 < 40 by omega)]
    simp only [Option.bind_some, R1', rf_34 c2.rl, rg_34 c2.rl, bI_ok, if_true]
    rw [zix (show 5 * m + 1 < 40 by omega)]
    simp only [Option.bind_some, R3', uI_3, rf_34 c2.rl, rg_34 c2.rl, bI_ok, if_true]
    rw [zix (show 5 * m + 3 < 40 by omega)]
    simp only [Option.bind_some]
    rw [show jF = 99999 + 1 from rfl, g1, show (99999 : Nat) = 99998 + 1 from rfl, k1]
    unfold f_Ref_showMaster_L82
    rw [if_pos (by decide)]
  · have := k2.wiC (wi' := va_up S.wi m (S.showM m)) (by
      intro p k hp hk
      unfold XS.at XS.showM
      simp only [XS.wi_w_wi, vz_at]
      by_cases hpm : p = m
      · subst hpm
        simp only [if_true]
        match k, hk with
        | 0, _ => simp [vz_at, WI.w_mk, WI.rd_mk, WI.w_w_w, WI.w_w_rd, WI.rd_w_w, WI.rd_w_rd]
        | 1, _ => simp [vz_at, WI.w_mk, WI.rd_mk, WI.w_w_w, WI.w_w_rd, WI.rd_w_w, WI.rd_w_rd]
        | 2, _ => simp [vz_at, WI.w_mk, WI.rd_mk, WI.w_w_w, WI.w_w_rd, WI.rd_w_w, WI.rd_w_rd]
        | 3, _ => simp [vz_at, WI.w_mk, WI.rd_mk, WI.w_w_w, WI.w_w_rd, WI.rd_w_w, WI.rd_w_rd]
        | 4, _ => simp [vz_at, WI.w_mk, WI.rd_mk, WI.w_w_w, WI.w_w_rd, WI.rd_w_w, WI.rd_w_rd]
      · simp [hpm])
    exact this
  · exact (((((((a3.mono (by decide)).trans (b3.mono (by decide))).trans (c3.mono (by decide))).trans (d2.mono (by decide))).trans (e2.mono (by decide))).trans (f2.mono (by decide))).trans g3).trans k3
