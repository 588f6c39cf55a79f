/-! THE REFERENCE moves a beat of a read, on -/
theorem r_mb208 {Γ : gm_T} {φ : ph_T} {r : Nat} {S : XS} {m t : Nat} {e : RE} (hm : m < 4) (h : RV Γ (uI (uI φ (r + 46) m (nI t)) (r + 47) m (bI (!rLa e.r))) r (S.mvR m t e)) (hU : ∀ u ∈ S.ur, u.m < 4 ∧ u.id < 16 ∧ u.tg < 5 ∧ u.left = 0) (hj : rLa e.r = true → ∃ j, S.ur.findIdx? (pMid m (rId e.r % 16)) = some j) :
    ∃ φ', f_Ref_moveBeat_L208 Γ (uI φ (r + 46) m (nI t)) r (nI m) (e.r - nI (16 * m)) (bI (!rLa e.r)) (nI m) (some (r + 47)) = some ((), φ') ∧ RV Γ φ' r ((S.mvR m t e).w_ur (if rLa e.r = true then S.ur.eraseP (pMid m (rId e.r % 16)) else S.ur)) ∧ RFr r [0, 40, 41, 42] (uI (uI φ (r + 46) m (nI t)) (r + 47) m (bI (!rLa e.r))) φ' := by
  have hle : S.ur.length ≤ 32 := h.ur.hle
  have hst : f_Ref_moveBeat_L208 Γ (uI φ (r + 46) m (nI t)) r (nI m) (e.r - nI (16 * m)) (bI (!rLa e.r)) (nI m) (some (r + 47)) = if (!rLa e.r) = false then f_Ref_moveBeat_L222 Γ jF (uI (uI φ (r + 46) m (nI t)) (r + 47) m (bI (!rLa e.r))) r (nI m) (e.r - nI (16 * m)) (nI 0) else some ((), uI (uI φ (r + 46) m (nI t)) (r + 47) m (bI (!rLa e.r))) := by
    unfold f_Ref_moveBeat_L208
    have r1 : (uI φ (r + 46) m (nI t)).2.2 r 56 = some (r + 47) := rf_56 h.rl
    simp only [Option.bind_some, rg_56 h.rl, zix (show m < 4 by omega), r1, h.rl.o, if_true, zI_lit, bI_ok, bI_ok2, uI_s, vz_same, bI_eq0]
  rw [hst]
  generalize hψ : uI (uI φ (r + 46) m (nI t)) (r + 47) m (bI (!rLa e.r)) = ψ at h
  cases hL : rLa e.r with
  | false =>
    simp only [Bool.not_false, Bool.true_eq_false, if_false, Bool.false_eq_true]
    refine ⟨ψ, rfl, ?_, RFr.refl _ _ _⟩
    have : (S.mvR m t e).w_ur S.ur = S.mvR m t e := XS.w_ur_self (S.mvR m t e)
    rw [this]
    exact h
  | true =>
    simp only [Bool.not_true, if_true]
    obtain ⟨j, hj'⟩ := hj hL
    obtain ⟨u, hu, _, _⟩ := fi_some hj'
    have hjl := llt hu
    have hLp := r_mb222 h hU (x := e.r - nI (16 * m)) hm (id := rId e.r % 16) (Nat.mod_lt _ (by omega)) (sub16 e.r m) j 0 j jF (Nat.zero_add _) (by rw [fiF_0]; exact hj') hjl (by unfold jF; omega)
    have hLp' : f_Ref_moveBeat_L222 Γ jF ψ r (nI m) (e.r - nI (16 * m)) (nI 0) = f_Ref_moveBeat_L268 Γ jF (uI ψ r 51 (nI (S.ur.length - 1))) r (nI j) := hLp
    rw [hLp']
    have f4 : RFr r [0] ψ (uI ψ r 51 (nI (S.ur.length - 1))) := by repeat (first | exact RFr.refl _ _ _ | refine RFr.uI ?_ (by decide) _ _ | refine RFr.uL ?_ (by decide) _ _ | refine rfr_uO ?_ (by decide) _ _)
    obtain ⟨φ4, c1, c2, g1, g2, g3⟩ := r_mb268 (Γ := Γ) (r := r) (n := S.ur.length - 1) (by omega) (S.ur.length - 1 - j) j jF (uI ψ r 51 (nI (S.ur.length - 1))) (by omega) (by unfold jF; omega) (h.rl.up rfl) (by rw [uI_s, vz_same])
    rw [f4.i 40 (by decide)] at g1
    rw [f4.i 41 (by decide)] at g2
    rw [f4.i 42 (by decide)] at g3
    have hv := VU3.del h.ur hjl g1 g2 g3
    have f5 : RFr r [0, 40, 41, 42] ψ φ4 := (f4.mono (by decide)).trans (c2.mono (by decide))
    have hers : S.ur.eraseP (pMid m (rId e.r % 16)) = S.ur.eraseIdx j := by rw [List.eraseP_eq_eraseIdx, hj']
    refine ⟨φ4, c1, ?_, f5⟩
    rw [hers]
    exact ⟨(RL.up h.rl (congrFun f5.1 r)), (by
      have e1 : φ4.1 r = va_up (ψ.1 r) 51 (nI (S.ur.length - 1)) := by rw [c2.o (by decide), uI_s]
      rw [e1]
      exact ⟨h.sc.nm, h.sc.ns, h.sc.lim, h.sc.pol, h.sc.whole, h.sc.time, h.sc.tk, h.sc.wm, (by rw [vz_same]; show _ = nI (S.ur.eraseIdx j).length; rw [List.length_eraseIdx_of_lt hjl]), h.sc.db, h.sc.er⟩), (by rw [f5.i 1 (by decide)]; exact h.pg), (by rw [f5.i 2 (by decide)]; exact h.mp), (by rw [f5.i 3 (by decide)]; exact h.sp), (by rw [f5.i 4 (by decide)]; exact h.ea), (by rw [f5.i 5 (by decide)]; exact h.de), (by rw [f5.i 6 (by decide)]; exact h.wa), (by rw [f5.i 7 (by decide), f5.i 8 (by decide)]; exact h.me), (by rw [f5.i 9 (by decide), f5.i 10 (by decide), f5.i 11 (by decide), f5.i 12 (by decide), f5.i 13 (by decide), f5.i 14 (by decide), f5.i 15 (by decide), f5.i 16 (by decide), f5.i 17 (by decide), f5.i 18 (by decide), f5.i 20 (by decide), f5.i 21 (by decide), f5.i 22 (by decide), f5.i 23 (by decide), f5.i 24 (by decide), f5.l 19 (by decide), f5.l 25 (by decide)]; exact h.tk), (by rw [f5.i 26 (by decide), f5.i 27 (by decide), f5.l 28 (by decide), f5.i 29 (by decide)]; exact h.wi), (by rw [f5.i 31 (by decide)]; exact h.tr), (by rw [f5.l 32 (by decide), f5.i 33 (by decide), f5.i 34 (by decide), f5.i 35 (by decide)]; exact h.row), (by rw [f5.i 36 (by decide), f5.i 37 (by decide), f5.i 38 (by decide), f5.i 39 (by decide)]; exact h.uw), hv, (by rw [f5.i 43 (by decide), f5.i 44 (by decide), f5.i 45 (by decide), f5.i 46 (by decide), f5.i 47 (by decide)]; exact ⟨h.la.haw, h.la.har, h.la.hb, h.la.hg, h.la.hinn⟩), (by rw [f5.i 48 (by decide), f5.i 49 (by decide), f5.i 50 (by decide), f5.l 51 (by decide), f5.i 52 (by decide), f5.i 53 (by decide), f5.i 54 (by decide), f5.l 55 (by decide), f5.i 56 (by decide)]; exact h.sw), (by rw [f5.i 57 (by decide), f5.i 58 (by decide), f5.i 59 (by decide), f5.l 60 (by decide), f5.i 61 (by decide), f5.i 62 (by decide), f5.i 63 (by decide), f5.l 64 (by decide), f5.i 65 (by decide)]; exact h.sr), (by rw [f5.i 66 (by decide), f5.i 67 (by decide), f5.i 68 (by decide), f5.i 69 (by decide)]; exact ⟨h.ch.hnums, h.ch.hlat, h.ch.hchb, h.ch.hchr⟩), (by rw [f5.i 70 (by decide), f5.i 71 (by decide)]; exact h.rg), (by unfold maOf; rw [f5.i 72 (by decide), f5.l 73 (by decide), f5.i 74 (by decide), f5.i 75 (by decide), f5.i 76 (by decide), f5.i 77 (by decide), f5.i 78 (by decide), f5.i 79 (by decide), f5.i 80 (by decide), f5.i 81 (by decide), f5.l 82 (by decide), f5.i 83 (by decide), f5.i 84 (by decide), f5.i 85 (by decide), f5.l 86 (by decide), f5.i 87 (by decide)]; exact h.mo), (by rw [f5.i 88 (by decide), f5.i 89 (by decide), f5.l 90 (by decide), f5.i 91 (by decide)]; exact h.wt)⟩
theorem r_mb114 {Γ : gm_T} {φ : ph_T} {r : Nat} {S : XS} (h : RV Γ φ r S) (hB : Bd S) {m : Nat} (hm : m < 4) (hg : ∀ t, S.givR m = some t → t < S.ns + 1 ∧ S.gives m 4 t = true) (hf : ∀ t e l, S.givR m = some t → S.row (5 * (4 + t) + 4) = e :: l → rLa e.r = true → ∃ j, S.ur.findIdx? (pMid m (rId e.r % 16)) = some j) :
    ∃ φ', f_Ref_moveBeat_L114 Γ φ r (nI m) (nI (5 * m + 4)) (oI (S.givR m) m1) = some ((), φ') ∧ RV Γ φ' r (S.movR m) ∧ RFr r [0, 32, 33, 34, 35, 40, 41, 42, 46, 47] φ φ' := by
  have hns := hB.ns
  have hrm := r_hasRoom h (i := 5 * m + 4) (by omega)
  cases hgr : S.givR m with
  | none =>
    rw [movR_none hgr, oI_n]
    unfold f_Ref_moveBeat_L114 f_Ref_moveBeat_L128
    rw [if_pos (show m1 = -1 from rfl)]
    exact ⟨φ, rfl, h, RFr.refl _ _ _⟩
  | some t =>
    rw [oI_s]
    obtain ⟨ht, hgv⟩ := hg t hgr
    obtain ⟨e, l, hr⟩ := gives_row hgv
    by_cases h0 : S.hasRm (5 * m + 4) = true
    · rw [movR_some h0 hgr hr]
      have hmm : rId e.r / 16 = m := by unfold XS.gives at hgv; rw [hr] at hgv; simpa using hgv
      obtain ⟨φ2, a1, a2, a3⟩ := r_mb114a h hm (by omega) h0 hr hmm
      obtain ⟨φ', b1, b2, b3⟩ := r_mb208 hm a2 hB.ur (fun hL => hf t e l hgr hr hL)
      rw [a1, b1]
      exact ⟨φ', rfl, b2, (a3.mono (by decide)).trans (b3.mono (by decide))⟩
    · have h0' : S.hasRm (5 * m + 4) = false := by simpa using h0
      rw [movR_no h0']
      unfold f_Ref_moveBeat_L114 f_Ref_moveBeat_L128
      rw [if_neg (show ¬ nI t = -1 from zI_ne_m1 (by omega)), if_pos h.rl.o, hrm, Option.bind_some, if_pos (show bI (S.hasRm (5 * m + 4)) = 0 by rw [h0']; rfl)]
      exact ⟨φ, rfl, h, RFr.refl _ _ _⟩
theorem givR_t {S : XS} {m l : Nat} (h1 : S.whole = true) (h2 : S.inb m = true) (h3 : S.lg m = some l) : S.givR m = if S.gives m 4 l = true then some l else none := by
  unfold XS.givR
  rw [h1, h2, h3]
  rfl
theorem givR_f {S : XS} {m : Nat} (h : S.whole = false ∨ S.inb m = false) : S.givR m = S.giv m 4 (S.lg m) := by
  unfold XS.givR
  have : (S.whole && S.inb m) = false := by rcases h with h | h <;> rw [h] <;> simp
  rw [this]
theorem r_movR {Γ : gm_T} {φ : ph_T} {r : Nat} {S : XS} (h : RV Γ φ r S) (hB : Bd S) {m : Nat} (hm : m < 4) (hin : S.inb m = true → ∃ l, S.lg m = some l) (hf : ∀ t e l, S.givR m = some t → S.row (5 * (4 + t) + 4) = e :: l → rLa e.r = true → ∃ j, S.ur.findIdx? (pMid m (rId e.r % 16)) = some j) :
    ∃ φ', f_Ref_moveBeat Γ φ r (nI m) = some ((), φ') ∧ RV Γ φ' r (S.movR m) ∧ RFr r [0, 32, 33, 34, 35, 40, 41, 42, 46, 47] φ φ' := by
  have hns := hB.ns
  have w0 : f_Ref_rowOf Γ φ r 0 (nI m) 4 = some (nI (5 * m + 4), φ) := e_rowOf0 Γ φ r m 4
  have e21 := r_mb21 h hB (row := 5 * m + 4) hm (S.ns + 1) 1 jF (by omega) (by unfold jF; omega)
  rw [← giv_eq] at e21
  have hgiv : ∀ t, S.giv m 4 (S.lg m) = some t → t < S.ns + 1 ∧ S.gives m 4 t = true := by
    intro t ht
    rw [giv_eq] at ht
    exact ⟨(givF_some ht).2, (givF_some ht).1⟩
  unfold f_Ref_moveBeat
  rw [if_pos h.rl.o, w0, Option.bind_some, h.sc.ns, show nI S.ns + (1 : Int32) = nI (S.ns + 1) from zI_add S.ns 1, zm1, zI_1, e21]
  unfold f_Ref_moveBeat_L71
  rw [if_pos h.rl.o, h.sc.whole]
  have hinn := h.la.hinn m hm
  have hlg := h.la.hg m hm
  by_cases hw : S.whole = true
  · rw [if_neg (show ¬ bI S.whole = 0 by rw [hw]; decide), rf_56 h.rl, Option.bind_some, rg_56 h.rl, Option.bind_some, zix hm, Option.bind_some, hinn]
    by_cases hi : S.inb m = true
    · obtain ⟨l, hl⟩ := hin hi
      have hll := hB.lg m l hl
      have hfor := r_isFor h (t := l) (c := 4) (m := m) (by omega) (by omega) (by omega)
      rw [hl, oI_s] at hlg
      have hfor' : f_Ref_isFor Γ φ r (nI l) 4 (nI m) = some (bI (S.gives m 4 l), φ) := hfor
      rw [if_neg (show ¬ bI (S.inb m) = 0 by rw [hi]; decide), rf_55 h.rl, Option.bind_some, rg_55 h.rl, Option.bind_some, zix hm, Option.bind_some, hlg, hfor', Option.bind_some]
      have hgr := givR_t hw hi hl
      have hfin := r_mb114 h hB hm (fun t ht => by
        rw [hgr] at ht
        split at ht
        · rename_i hx
          cases ht
          exact ⟨by omega, hx⟩
        · cases ht) hf
      unfold f_Ref_moveBeat_L112
      by_cases hx : S.gives m 4 l = true
      · rw [if_neg (show ¬ bI (S.gives m 4 l) = 0 by rw [hx]; decide), rf_55 h.rl, Option.bind_some, rg_55 h.rl, Option.bind_some, zix hm, Option.bind_some, hlg]
        rw [hgr, if_pos hx, oI_s] at hfin
        exact hfin
      · have hx' : S.gives m 4 l = false := by simpa using hx
        rw [if_pos (show bI (S.gives m 4 l) = 0 by rw [hx']; rfl)]
        rw [hgr, if_neg hx, oI_n] at hfin
        exact hfin
    · have hi' : S.inb m = false := by simpa using hi
      rw [if_pos (show bI (S.inb m) = 0 by rw [hi']; rfl)]
      have hgr := givR_f (S := S) (m := m) (Or.inr hi')
      have hfin := r_mb114 h hB hm (fun t ht => hgiv t (by rw [← hgr]; exact ht)) hf
      rw [hgr] at hfin
      exact hfin
  · have hw' : S.whole = false := by simpa using hw
    rw [if_pos (show bI S.whole = 0 by rw [hw']; rfl)]
    have hgr := givR_f (S := S) (m := m) (Or.inl hw')
    have hfin := r_mb114 h hB hm (fun t ht => hgiv t (by rw [← hgr]; exact ht)) hf
    rw [hgr] at hfin
    exact hfin
