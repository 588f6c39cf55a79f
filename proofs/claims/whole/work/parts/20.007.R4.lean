/-! THE REFERENCE shows a master's wires -/
theorem vz_same {α : Type} (f : Nat → α) (k : Nat) (v : α) : va_up f k v k = v := by simp [vz_at]
theorem VWi.w {v rd : aI} {c : aL} {rs : aI} {n : Nat} {wi : Nat → WI} (h : VWi v rd c rs n wi) {p k : Nat} (hk : k < 5) (x : WV) :
    VWi (va_up v (5 * p + k) (bI x.v)) rd (va_up c (5 * p + k) x.c) (va_up rs (5 * p + k) x.r) n (va_up wi p ((wi p).w_w (va_up (wi p).w k x))) := by
  intro q j hq hj
  have h1 := h q j hq hj
  by_cases hqp : q = p
  · subst hqp
    by_cases hjk : j = k
    · subst hjk; simp [vz_at, WI.w_mk, WI.rd_mk, WI.w_w_w, WI.w_w_rd, WI.rd_w_w, WI.rd_w_rd, h1]
    · simp [vz_at, WI.w_mk, WI.rd_mk, WI.w_w_w, WI.w_w_rd, WI.rd_w_w, WI.rd_w_rd, hjk, show ¬ 5 * q + j = 5 * q + k by omega, h1]
  · simp [vz_at, WI.w_mk, WI.rd_mk, WI.w_w_w, WI.w_w_rd, WI.rd_w_w, WI.rd_w_rd, hqp, show ¬ 5 * q + j = 5 * p + k by omega, h1]
theorem VWi.r {v rd : aI} {c : aL} {rs : aI} {n : Nat} {wi : Nat → WI} (h : VWi v rd c rs n wi) {p k : Nat} (hk : k < 5) (x : Bool) :
    VWi v (va_up rd (5 * p + k) (bI x)) c rs n (va_up wi p ((wi p).w_rd (va_up (wi p).rd k x))) := by
  intro q j hq hj
  have h1 := h q j hq hj
  by_cases hqp : q = p
  · subst hqp
    by_cases hjk : j = k
    · subst hjk; simp [vz_at, WI.w_mk, WI.rd_mk, WI.w_w_w, WI.w_w_rd, WI.rd_w_w, WI.rd_w_rd, h1]
    · simp [vz_at, WI.w_mk, WI.rd_mk, WI.w_w_w, WI.w_w_rd, WI.rd_w_w, WI.rd_w_rd, hjk, show ¬ 5 * q + j = 5 * q + k by omega, h1]
  · simp [vz_at, WI.w_mk, WI.rd_mk, WI.w_w_w, WI.w_w_rd, WI.rd_w_w, WI.rd_w_rd, hqp, show ¬ 5 * q + j = 5 * p + k by omega, h1]
theorem VWi.out {v rd : aI} {c : aL} {rs : aI} {wi : Nat → WI} (h : VWi v rd c rs 2 (fun p => wi (8 + p))) {p : Nat} (hp : p < 8) (x : WI) : VWi v rd c rs 2 (fun q => va_up wi p x (8 + q)) := by
  intro q j hq hj
  have h1 := h q j hq hj
  simp only [vz_at, show ¬ 8 + q = p by omega, if_false]
  exact h1
theorem r_show {Γ : gm_T} {φ : ph_T} {r : Nat} {S : XS} (h : RV Γ φ r S) {p k : Nat} (hp : p < 8) (hk : k < 5) (b : Bool) (c : Int64) (rr : Int32) :
    ∃ φ', f_Ref_show Γ φ r (nI (5 * p + k)) (bI b) c rr = some ((), φ') ∧ RV Γ φ' r (S.setW p k ⟨b, if b = true then c else 0, if b = true then rr else 0⟩) ∧ RFr r [26, 28, 29] φ φ' := by
  have hv := h.wi.w (p := p) hk ⟨b, if b = true then c else 0, if b = true then rr else 0⟩
  unfold f_Ref_show f_Ref_show_L21 f_Ref_show_L37
  simp (disch := first | assumption | omega) only [h.rl.o, rf_33 h.rl, rg_33 h.rl, rf_35 h.rl, rg_35 h.rl, rf_36 h.rl, rg_36 h.rl, Option.bind_some, if_true, zix, bI_eq0, bI_ok, ↓zm1, zI_ne_m, zI_m_ne, zI_lit, zI_le, zI_eq, zI_mul, zI_lt, zI_modn, zI_div, zI_sub, zI_add, zN_mod, uI_1, uI_2, uI_3, uL_1, uL_2, uL_3, vz_at, Nat.add_left_cancel_iff, Nat.reduceEqDiff, if_false, zr1, zr2]
  cases b
  · simp only [if_true]
    refine exP (by repeat (first | exact RFr.refl _ _ _ | refine RFr.uI ?_ (by decide) _ _ | refine RFr.uL ?_ (by decide) _ _ | refine rfr_uO ?_ (by decide) _ _)) (fun f => ?_)
    exact ⟨(RL.up h.rl (congrFun f.1 r)), (by rw [f.o (by decide)]; exact ⟨h.sc.nm, h.sc.ns, h.sc.lim, h.sc.pol, h.sc.whole, h.sc.time, h.sc.tk, h.sc.wm, h.sc.rm, h.sc.db, h.sc.er⟩), (by rw [f.i 1 (by decide)]; exact h.pg), (by rw [f.i 2 (by decide)]; exact h.mp), (by rw [f.i 3 (by decide)]; exact h.sp), (by rw [f.i 4 (by decide)]; exact h.ea), (by rw [f.i 5 (by decide)]; exact h.de), (by rw [f.i 6 (by decide)]; exact h.wa), (by rw [f.i 7 (by decide), f.i 8 (by decide)]; exact h.me), (by rw [f.i 9 (by decide), f.i 10 (by decide), f.i 11 (by decide), f.i 12 (by decide), f.i 13 (by decide), f.i 14 (by decide), f.i 15 (by decide), f.i 16 (by decide), f.i 17 (by decide), f.i 18 (by decide), f.i 20 (by decide), f.i 21 (by decide), f.i 22 (by decide), f.i 23 (by decide), f.i 24 (by decide), f.l 19 (by decide), f.l 25 (by decide)]; exact h.tk), (by simpa [uI_1, uI_2, uI_3, uL_1, uL_2, uL_3, vz_at, XS.setW, XS.wi_w_wi, WV.v_mk, WV.c_mk, WV.r_mk, WV.v_w_v, WV.v_w_c, WV.v_w_r, WV.c_w_v, WV.c_w_c, WV.c_w_r, WV.r_w_v, WV.r_w_c, WV.r_w_r, zI_lit] using hv), (by rw [f.i 31 (by decide)]; exact h.tr), (by rw [f.l 32 (by decide), f.i 33 (by decide), f.i 34 (by decide), f.i 35 (by decide)]; exact h.row), (by rw [f.i 36 (by decide), f.i 37 (by decide), f.i 38 (by decide), f.i 39 (by decide)]; exact h.uw), (by rw [f.i 40 (by decide), f.i 41 (by decide), f.i 42 (by decide)]; exact h.ur), (by rw [f.i 43 (by decide), f.i 44 (by decide), f.i 45 (by decide), f.i 46 (by decide), f.i 47 (by decide)]; exact ⟨h.la.haw, h.la.har, h.la.hb, h.la.hg, h.la.hinn⟩), (by rw [f.i 48 (by decide), f.i 49 (by decide), f.i 50 (by decide), f.l 51 (by decide), f.i 52 (by decide), f.i 53 (by decide), f.i 54 (by decide), f.l 55 (by decide), f.i 56 (by decide)]; exact h.sw), (by rw [f.i 57 (by decide), f.i 58 (by decide), f.i 59 (by decide), f.l 60 (by decide), f.i 61 (by decide), f.i 62 (by decide), f.i 63 (by decide), f.l 64 (by decide), f.i 65 (by decide)]; exact h.sr), (by rw [f.i 66 (by decide), f.i 67 (by decide), f.i 68 (by decide), f.i 69 (by decide)]; exact ⟨h.ch.hnums, h.ch.hlat, h.ch.hchb, h.ch.hchr⟩), (by rw [f.i 70 (by decide), f.i 71 (by decide)]; exact h.rg), (by unfold maOf; rw [f.i 72 (by decide), f.l 73 (by decide), f.i 74 (by decide), f.i 75 (by decide), f.i 76 (by decide), f.i 77 (by decide), f.i 78 (by decide), f.i 79 (by decide), f.i 80 (by decide), f.i 81 (by decide), f.l 82 (by decide), f.i 83 (by decide), f.i 84 (by decide), f.i 85 (by decide), f.l 86 (by decide), f.i 87 (by decide)]; exact h.mo), (by rw [f.i 88 (by decide), f.i 89 (by decide), f.l 90 (by decide), f.i 91 (by decide)]; exact h.wt.out hp _)⟩
  · simp only [Bool.true_eq_false, if_false]
    refine exP (by repeat (first | exact RFr.refl _ _ _ | refine RFr.uI ?_ (by decide) _ _ | refine RFr.uL ?_ (by decide) _ _ | refine rfr_uO ?_ (by decide) _ _)) (fun f => ?_)
    exact ⟨(RL.up h.rl (congrFun f.1 r)), (by rw [f.o (by decide)]; exact ⟨h.sc.nm, h.sc.ns, h.sc.lim, h.sc.pol, h.sc.whole, h.sc.time, h.sc.tk, h.sc.wm, h.sc.rm, h.sc.db, h.sc.er⟩), (by rw [f.i 1 (by decide)]; exact h.pg), (by rw [f.i 2 (by decide)]; exact h.mp), (by rw [f.i 3 (by decide)]; exact h.sp), (by rw [f.i 4 (by decide)]; exact h.ea), (by rw [f.i 5 (by decide)]; exact h.de), (by rw [f.i 6 (by decide)]; exact h.wa), (by rw [f.i 7 (by decide), f.i 8 (by decide)]; exact h.me), (by rw [f.i 9 (by decide), f.i 10 (by decide), f.i 11 (by decide), f.i 12 (by decide), f.i 13 (by decide), f.i 14 (by decide), f.i 15 (by decide), f.i 16 (by decide), f.i 17 (by decide), f.i 18 (by decide), f.i 20 (by decide), f.i 21 (by decide), f.i 22 (by decide), f.i 23 (by decide), f.i 24 (by decide), f.l 19 (by decide), f.l 25 (by decide)]; exact h.tk), (by simpa [uI_1, uI_2, uI_3, uL_1, uL_2, uL_3, vz_at, XS.setW, XS.wi_w_wi, WV.v_mk, WV.c_mk, WV.r_mk, WV.v_w_v, WV.v_w_c, WV.v_w_r, WV.c_w_v, WV.c_w_c, WV.c_w_r, WV.r_w_v, WV.r_w_c, WV.r_w_r, zI_lit] using hv), (by rw [f.i 31 (by decide)]; exact h.tr), (by rw [f.l 32 (by decide), f.i 33 (by decide), f.i 34 (by decide), f.i 35 (by decide)]; exact h.row), (by rw [f.i 36 (by decide), f.i 37 (by decide), f.i 38 (by decide), f.i 39 (by decide)]; exact h.uw), (by rw [f.i 40 (by decide), f.i 41 (by decide), f.i 42 (by decide)]; exact h.ur), (by rw [f.i 43 (by decide), f.i 44 (by decide), f.i 45 (by decide), f.i 46 (by decide), f.i 47 (by decide)]; exact ⟨h.la.haw, h.la.har, h.la.hb, h.la.hg, h.la.hinn⟩), (by rw [f.i 48 (by decide), f.i 49 (by decide), f.i 50 (by decide), f.l 51 (by decide), f.i 52 (by decide), f.i 53 (by decide), f.i 54 (by decide), f.l 55 (by decide), f.i 56 (by decide)]; exact h.sw), (by rw [f.i 57 (by decide), f.i 58 (by decide), f.i 59 (by decide), f.l 60 (by decide), f.i 61 (by decide), f.i 62 (by decide), f.i 63 (by decide), f.l 64 (by decide), f.i 65 (by decide)]; exact h.sr), (by rw [f.i 66 (by decide), f.i 67 (by decide), f.i 68 (by decide), f.i 69 (by decide)]; exact ⟨h.ch.hnums, h.ch.hlat, h.ch.hchb, h.ch.hchr⟩), (by rw [f.i 70 (by decide), f.i 71 (by decide)]; exact h.rg), (by unfold maOf; rw [f.i 72 (by decide), f.l 73 (by decide), f.i 74 (by decide), f.i 75 (by decide), f.i 76 (by decide), f.i 77 (by decide), f.i 78 (by decide), f.i 79 (by decide), f.i 80 (by decide), f.i 81 (by decide), f.l 82 (by decide), f.i 83 (by decide), f.i 84 (by decide), f.i 85 (by decide), f.l 86 (by decide), f.i 87 (by decide)]; exact h.mo), (by rw [f.i 88 (by decide), f.i 89 (by decide), f.l 90 (by decide), f.i 91 (by decide)]; exact h.wt.out hp _)⟩
theorem r_rdy {Γ : gm_T} {φ : ph_T} {r : Nat} {S : XS} (h : RV Γ φ r S) {p k : Nat} (hp : p < 8) (hk : k < 5) (b : Bool) : RV Γ (uI φ (r + 27) (5 * p + k) (bI b)) r (S.setR p k b) ∧ RFr r [27] φ (uI φ (r + 27) (5 * p + k) (bI b)) := by
  have hv := h.wi.r (p := p) hk b
  have f : RFr r [27] φ (uI φ (r + 27) (5 * p + k) (bI b)) := by repeat (first | exact RFr.refl _ _ _ | refine RFr.uI ?_ (by decide) _ _ | refine RFr.uL ?_ (by decide) _ _ | refine rfr_uO ?_ (by decide) _ _)
  exact ⟨⟨(RL.up h.rl (congrFun f.1 r)), (by rw [f.o (by decide)]; exact ⟨h.sc.nm, h.sc.ns, h.sc.lim, h.sc.pol, h.sc.whole, h.sc.time, h.sc.tk, h.sc.wm, h.sc.rm, h.sc.db, h.sc.er⟩), (by rw [f.i 1 (by decide)]; exact h.pg), (by rw [f.i 2 (by decide)]; exact h.mp), (by rw [f.i 3 (by decide)]; exact h.sp), (by rw [f.i 4 (by decide)]; exact h.ea), (by rw [f.i 5 (by decide)]; exact h.de), (by rw [f.i 6 (by decide)]; exact h.wa), (by rw [f.i 7 (by decide), f.i 8 (by decide)]; exact h.me), (by rw [f.i 9 (by decide), f.i 10 (by decide), f.i 11 (by decide), f.i 12 (by decide), f.i 13 (by decide), f.i 14 (by decide), f.i 15 (by decide), f.i 16 (by decide), f.i 17 (by decide), f.i 18 (by decide), f.i 20 (by decide), f.i 21 (by decide), f.i 22 (by decide), f.i 23 (by decide), f.i 24 (by decide), f.l 19 (by decide), f.l 25 (by decide)]; exact h.tk), (by simpa [uI_1, uI_2, uI_3, uL_1, uL_2, uL_3, vz_at, XS.setR, XS.wi_w_wi] using hv), (by rw [f.i 31 (by decide)]; exact h.tr), (by rw [f.l 32 (by decide), f.i 33 (by decide), f.i 34 (by decide), f.i 35 (by decide)]; exact h.row), (by rw [f.i 36 (by decide), f.i 37 (by decide), f.i 38 (by decide), f.i 39 (by decide)]; exact h.uw), (by rw [f.i 40 (by decide), f.i 41 (by decide), f.i 42 (by decide)]; exact h.ur), (by rw [f.i 43 (by decide), f.i 44 (by decide), f.i 45 (by decide), f.i 46 (by decide), f.i 47 (by decide)]; exact ⟨h.la.haw, h.la.har, h.la.hb, h.la.hg, h.la.hinn⟩), (by rw [f.i 48 (by decide), f.i 49 (by decide), f.i 50 (by decide), f.l 51 (by decide), f.i 52 (by decide), f.i 53 (by decide), f.i 54 (by decide), f.l 55 (by decide), f.i 56 (by decide)]; exact h.sw), (by rw [f.i 57 (by decide), f.i 58 (by decide), f.i 59 (by decide), f.l 60 (by decide), f.i 61 (by decide), f.i 62 (by decide), f.i 63 (by decide), f.l 64 (by decide), f.i 65 (by decide)]; exact h.sr), (by rw [f.i 66 (by decide), f.i 67 (by decide), f.i 68 (by decide), f.i 69 (by decide)]; exact ⟨h.ch.hnums, h.ch.hlat, h.ch.hchb, h.ch.hchr⟩), (by rw [f.i 70 (by decide), f.i 71 (by decide)]; exact h.rg), (by unfold maOf; rw [f.i 72 (by decide), f.l 73 (by decide), f.i 74 (by decide), f.i 75 (by decide), f.i 76 (by decide), f.i 77 (by decide), f.i 78 (by decide), f.i 79 (by decide), f.i 80 (by decide), f.i 81 (by decide), f.l 82 (by decide), f.i 83 (by decide), f.i 84 (by decide), f.i 85 (by decide), f.l 86 (by decide), f.i 87 (by decide)]; exact h.mo), (by rw [f.i 88 (by decide), f.i 89 (by decide), f.l 90 (by decide), f.i 91 (by decide)]; exact h.wt.out hp _)⟩, f⟩
theorem con_parts {c : Int64} (h : uN c < 2 ^ 35) : idN c + 64 * adN c + (leN c - 1) * 2 ^ 22 + seN c * 2 ^ 26 + kiN c * 2 ^ 28 + exN c * 2 ^ 30 + urN c * 2 ^ 31 = uN c := by
  unfold idN adN leN seN kiN exN urN
  generalize uN c = u at *
  have e1 : u / 4194304 = u / 64 / 65536 := by rw [Nat.div_div_eq_div_mul]
  have e2 : u / 67108864 = u / 64 / 65536 / 16 := by rw [Nat.div_div_eq_div_mul, Nat.div_div_eq_div_mul]
  have e3 : u / 268435456 = u / 64 / 65536 / 16 / 4 := by rw [Nat.div_div_eq_div_mul, Nat.div_div_eq_div_mul, Nat.div_div_eq_div_mul]
  have e4 : u / 1073741824 = u / 64 / 65536 / 16 / 4 / 4 := by rw [Nat.div_div_eq_div_mul, Nat.div_div_eq_div_mul, Nat.div_div_eq_div_mul, Nat.div_div_eq_div_mul]
  have e5 : u / 2147483648 = u / 64 / 65536 / 16 / 4 / 4 / 2 := by rw [Nat.div_div_eq_div_mul, Nat.div_div_eq_div_mul, Nat.div_div_eq_div_mul, Nat.div_div_eq_div_mul, Nat.div_div_eq_div_mul]
  rw [e1, e2, e3, e4, e5]
  have d1 := Nat.div_add_mod u 64
  generalize u / 64 = q1 at *
  have d2 := Nat.div_add_mod q1 65536
  generalize q1 / 65536 = q2 at *
  have d3 := Nat.div_add_mod q2 16
  generalize q2 / 16 = q3 at *
  have d4 := Nat.div_add_mod q3 4
  generalize q3 / 4 = q4 at *
  have d5 := Nat.div_add_mod q4 4
  generalize q4 / 4 = q5 at *
  have d6 := Nat.div_add_mod q5 2
  generalize q5 / 2 = q6 at *
  have h6 : q6 < 16 := by omega
  rw [Nat.mod_eq_of_lt h6]
  clear e1 e2 e3 e4 e5
  generalize u % 64 = r1 at *
  generalize q1 % 65536 = r2 at *
  generalize q2 % 16 = r3 at *
  generalize q3 % 4 = r4 at *
  generalize q4 % 4 = r5 at *
  generalize q5 % 2 = r6 at *
  omega
