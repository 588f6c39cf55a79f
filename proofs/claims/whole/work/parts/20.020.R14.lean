/-! THE REFERENCE shows all wires of a slave: put together -/
def XS.shS' (S : XS) (s : Nat) : XS := (((S.w_wi (va_up S.wi (4 + s) (S.showS s))).w_chb (va_up S.chb s (S.chB' s))).w_chr (va_up S.chr s (S.chR' s)))
theorem at_row (S : XS) (p : Nat) (x : WI) : (S.at p x).row = S.row := rfl
theorem at_hasRm (S : XS) (p i : Nat) (x : WI) : (S.at p x).hasRm i = S.hasRm i := rfl
theorem pkB_at (S : XS) (p s : Nat) (x : WI) (hd : Bool) : pkB (S.at p x) s hd = pkB S s hd := rfl
theorem pkR_at (S : XS) (p s : Nat) (x : WI) (hd : Bool) : pkR (S.at p x) s hd = pkR S s hd := rfl
theorem fin3_wi (S : XS) (s : Nat) (x : WI) (hd hd2 : Bool) : (fin3 (S.at (4 + s) x) s hd hd2).wi = va_up S.wi (4 + s) ⟨va_up (va_up x.w 2 (wB_of (S.sw s) (pkB S s hd2))) 4 (wR_of (S.sr s) (pkR S s hd)), va_up (va_up (va_up x.rd 0 (on (S.spat s 0) S.time && decide ((S.sw s).length < 4))) 1 (on (S.spat s 1) S.time && lacks (S.sw s))) 3 (on (S.spat s 3) S.time && decide ((S.sr s).length < 4))⟩ := by
  unfold fin3 fin2
  rw [pkB_at, pkR_at]
  unfold XS.setW XS.setR XS.at
  simp only [XS.wi_w_wi, XS.wi_w_chr, XS.wi_w_chb, vz_va, vz_same]
  rfl
theorem r_showSlave {Γ : gm_T} {φ : ph_T} {r : Nat} {S : XS} (h : RV Γ φ r S) (hB : Bd S) {s : Nat} (hs : s < 4) (hh : ∀ c, c < 5 → φ.1 (r + 30) (5 * (4 + s) + c) = bI (hdW (S.wi (4 + s)) c)) (hb : InvB S s) (hr : InvR S s) :
    ∃ φ', f_Ref_showSlave Γ φ r (nI s) = some ((), φ') ∧ RV Γ φ' r (S.shS' s) ∧ RFr r [26, 27, 28, 29, 68, 69] φ φ' := by
  rw [← at_self S (4 + s)] at h
  have hx : S.wi (4 + s) = S.wi (4 + s) := rfl
  obtain ⟨φ1, a1, a2, a3⟩ := r_sl8a h hs (c := 0) (Or.inl rfl) 99999
  rw [at_setW] at a2
  obtain ⟨φ2, b1, b2, b3⟩ := r_sl8a a2 hs (c := 1) (Or.inr (Or.inl rfl)) 99998
  rw [at_setW] at b2
  obtain ⟨φ3, c1, c2, c3⟩ := r_sl8b b2 hs (c := 2) (Or.inl rfl) 99997
  rw [at_setR] at c2
  obtain ⟨φ4, d1, d2, d3⟩ := r_sl8a c2 hs (c := 3) (Or.inr (Or.inr rfl)) 99996
  rw [at_setW] at d2
  obtain ⟨φ5, e1, e2, e3⟩ := r_sl8b d2 hs (c := 4) (Or.inr rfl) 99995
  rw [at_setR] at e2
  have f30 : ∀ k, φ5.1 (r + 30) k = φ.1 (r + 30) k := fun k => by rw [e3.i 30 (by decide), d3.i 30 (by decide), c3.i 30 (by decide), b3.i 30 (by decide), a3.i 30 (by decide)]
  have hle : (S.sw s).length ≤ 4 := h.sw.hle s hs
  have q5 := r_sl105 e2 (⟨hB.nm, hB.ns, hB.lim, hB.pol, hB.time, hB.db, hB.moved, hB.pages, hB.mpat, hB.spat, hB.delay, hB.way, hB.mem, hB.sw, hB.sr, hB.rnum, hB.lat, hB.uw, hB.ur, hB.la, hB.lr, hB.lb, hB.lg, hB.rgt, hB.rowT, hB.tk⟩) hs (hd := hdW (S.wi (4 + s)) 4) (hd2 := hdW (S.wi (4 + s)) 2) (by rw [f30]; exact hh 4 (by omega)) (fun hx' => by obtain ⟨i, e, q1, _⟩ := hr (by rw [hx]; exact hx'); exact ⟨i, q1⟩) (by rw [f30]; exact hh 2 (by omega)) (fun hx' => by obtain ⟨i, e, q1, q2, q3, _⟩ := hb (by rw [hx]; exact hx'); exact ⟨i, e, q1, q2, q3⟩) (S.sw s).length 0 jF (Nat.zero_add _) (by unfold jF; omega)
  obtain ⟨φ6, g1, g2, g3⟩ := q5
  refine ⟨φ6, ?_, ?_, ((((((a3.mono (by decide)).trans (b3.mono (by decide))).trans (c3.mono (by decide))).trans (d3.mono (by decide))).trans (e3.mono (by decide))).trans g3)⟩
  · unfold f_Ref_showSlave
    simp only [zI_lit, zI_add, zI_mul]
    rw [show jF = 99999 + 1 from rfl, a1, show (99999 : Nat) = 99998 + 1 from rfl, b1, show (99998 : Nat) = 99997 + 1 from rfl, c1, show (99997 : Nat) = 99996 + 1 from rfl, d1, show (99996 : Nat) = 99995 + 1 from rfl, e1]
    rw [show (99995 : Nat) = 99994 + 1 from rfl]
    unfold f_Ref_showSlave_L8
    rw [if_pos (by decide)]
    exact g1
  · have hB2 : S.wB s = wB_of (S.sw s) (S.chB' s) := by
      unfold XS.wB wB_of
      cases hx2 : hdW (S.wi (4 + s)) 2 with
      | false => rfl
      | true =>
        obtain ⟨i, e, q1, q2, q3, q4⟩ := hb hx2
        have : S.chB' s = some i := by unfold XS.chB'; rw [hx2]; exact q1
        rw [this]
        simp only [if_true, Option.bind_some, q2]
        exact q4
    have hR2 : S.wR s = wR_of (S.sr s) (S.chR' s) := by
      unfold XS.wR wR_of
      cases hx2 : hdW (S.wi (4 + s)) 4 with
      | false => rfl
      | true =>
        obtain ⟨i, e, q1, q2, q3⟩ := hr hx2
        have : S.chR' s = some i := by unfold XS.chR'; rw [hx2]; exact q1
        rw [this]
        simp only [if_true, Option.bind_some, q2]
        exact q3
    have g4 := g2.wiC (wi' := va_up S.wi (4 + s) (S.showS s)) (by
      intro p k hp hk
      rw [fin3_wi]
      simp only [vz_at]
      by_cases hpm : p = 4 + s
      · subst hpm
        simp only [if_true]
        unfold XS.showS
        simp only [WI.w_mk, WI.rd_mk, WI.w_w_w, WI.w_w_rd, WI.rd_w_w, WI.rd_w_rd]
        rw [hB2, hR2, show pkB S s (hdW (S.wi (4 + s)) 2) = S.chB' s from rfl, show pkR S s (hdW (S.wi (4 + s)) 4) = S.chR' s from rfl]
        match k, hk with
        | 0, _ => simp [vz_at, at_row, at_hasRm]
        | 1, _ => simp [vz_at, at_row, at_hasRm]
        | 2, _ => simp [vz_at, at_row, at_hasRm]
        | 3, _ => simp [vz_at, at_row, at_hasRm]
        | 4, _ => simp [vz_at, at_row, at_hasRm]
      · simp only [hpm, if_false, and_self])
    have f := RFr.refl r [] φ6
    exact ⟨(RL.up g4.rl (congrFun f.1 r)), (by rw [f.o (by decide)]; exact ⟨g4.sc.nm, g4.sc.ns, g4.sc.lim, g4.sc.pol, g4.sc.whole, g4.sc.time, g4.sc.tk, g4.sc.wm, g4.sc.rm, g4.sc.db, g4.sc.er⟩), (by rw [f.i 1 (by decide)]; exact g4.pg), (by rw [f.i 2 (by decide)]; exact g4.mp), (by rw [f.i 3 (by decide)]; exact g4.sp), (by rw [f.i 4 (by decide)]; exact g4.ea), (by rw [f.i 5 (by decide)]; exact g4.de), (by rw [f.i 6 (by decide)]; exact g4.wa), (by rw [f.i 7 (by decide), f.i 8 (by decide)]; exact g4.me), (by rw [f.i 9 (by decide), f.i 10 (by decide), f.i 11 (by decide), f.i 12 (by decide), f.i 13 (by decide), f.i 14 (by decide), f.i 15 (by decide), f.i 16 (by decide), f.i 17 (by decide), f.i 18 (by decide), f.i 20 (by decide), f.i 21 (by decide), f.i 22 (by decide), f.i 23 (by decide), f.i 24 (by decide), f.l 19 (by decide), f.l 25 (by decide)]; exact g4.tk), (by rw [f.i 26 (by decide), f.i 27 (by decide), f.l 28 (by decide), f.i 29 (by decide)]; exact g4.wi), (by rw [f.i 31 (by decide)]; exact g4.tr), (by rw [f.l 32 (by decide), f.i 33 (by decide), f.i 34 (by decide), f.i 35 (by decide)]; exact g4.row), (by rw [f.i 36 (by decide), f.i 37 (by decide), f.i 38 (by decide), f.i 39 (by decide)]; exact g4.uw), (by rw [f.i 40 (by decide), f.i 41 (by decide), f.i 42 (by decide)]; exact g4.ur), (by rw [f.i 43 (by decide), f.i 44 (by decide), f.i 45 (by decide), f.i 46 (by decide), f.i 47 (by decide)]; exact ⟨g4.la.haw, g4.la.har, g4.la.hb, g4.la.hg, g4.la.hinn⟩), (by rw [f.i 48 (by decide), f.i 49 (by decide), f.i 50 (by decide), f.l 51 (by decide), f.i 52 (by decide), f.i 53 (by decide), f.i 54 (by decide), f.l 55 (by decide), f.i 56 (by decide)]; exact g4.sw), (by rw [f.i 57 (by decide), f.i 58 (by decide), f.i 59 (by decide), f.l 60 (by decide), f.i 61 (by decide), f.i 62 (by decide), f.i 63 (by decide), f.l 64 (by decide), f.i 65 (by decide)]; exact g4.sr), (by rw [f.i 66 (by decide), f.i 67 (by decide), f.i 68 (by decide), f.i 69 (by decide)]; exact ⟨g4.ch.hnums, g4.ch.hlat, g4.ch.hchb, g4.ch.hchr⟩), (by rw [f.i 70 (by decide), f.i 71 (by decide)]; exact g4.rg), (by unfold maOf; rw [f.i 72 (by decide), f.l 73 (by decide), f.i 74 (by decide), f.i 75 (by decide), f.i 76 (by decide), f.i 77 (by decide), f.i 78 (by decide), f.i 79 (by decide), f.i 80 (by decide), f.i 81 (by decide), f.l 82 (by decide), f.i 83 (by decide), f.i 84 (by decide), f.i 85 (by decide), f.l 86 (by decide), f.i 87 (by decide)]; exact g4.mo), (by rw [f.i 88 (by decide), f.i 89 (by decide), f.l 90 (by decide), f.i 91 (by decide)]; exact g4.wt)⟩
