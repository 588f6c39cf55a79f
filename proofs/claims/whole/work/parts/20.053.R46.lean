/-! THE REFERENCE's slaves: an address for reading comes, on -/
def XS.rcm (S : XS) (s : Nat) (c : Int64) : XS := ((S.w_sr (va_up S.sr s (S.sr s ++ [S.newQ s c (freeP ((S.sr s).map QE.place) (4 * s) 4)]))).w_rnum (va_up S.rnum s (S.rnum s + 1))).w_rgt (va_up S.rgt s (S.newRgt s c))
def rcφ (φ : ph_T) (r s q n : Nat) (c : Int64) (t m : Nat) : ph_T := uI (uI (uI (uI (uL (uI (uI (uI φ (r + 59) q (nI 1)) (r + 58) (4 * s + n) (nI q)) (r + 57) s (nI (n + 1))) (r + 60) q c) (r + 61) q (nI 0)) (r + 62) q (nI t)) (r + 63) q (nI m)) (r + 66) s (nI (m + 1))
theorem r_readComes {Γ : gm_T} {φ : ph_T} {r : Nat} {S : XS} (h : RV Γ φ r S) {s : Nat} (hs : s < 4) (c : Int64) (hr : ruN c = 0) (hl : (S.sr s).length < 4) (hmb : ∀ y, S.mem y < 256) :
    ∃ φ', f_Ref_readComes Γ φ r (nI s) c = some ((), φ') ∧ RV Γ φ' r (S.rcm s c) ∧ RFr r [57, 58, 59, 60, 61, 62, 63, 64, 65, 66, 70, 71] φ φ' := by
  have hex := free_ex (l := (S.sr s).map QE.place) (b := 4 * s) (by simpa using hl)
  have hfr := r_free (Γ := Γ) (φ := φ) (r := r) (l := (S.sr s).map QE.place) (c := 59) hs (rg_69 h.rl) (fun p h1 h2 => h.sr.hused s p hs h1 h2) 4 (4 * s) jF (Nat.le_refl _) rfl hex (by unfold jF; omega)
  obtain ⟨p1, p2, p3⟩ := freeP_ok 4 (4 * s) hex
  unfold XS.rcm
  generalize hq : freeP ((S.sr s).map QE.place) (4 * s) 4 = q at *
  have hmm := h.sr.hmany s hs
  have hnu := h.ch.hnums s hs
  have hle := leN_le c
  have f1 : RFr r [57, 58, 59, 60, 61, 62, 63, 66] φ (rcφ φ r s q (S.sr s).length c S.time (S.rnum s)) := by unfold rcφ; repeat (first | exact RFr.refl _ _ _ | refine RFr.uI ?_ (by decide) _ _ | refine RFr.uL ?_ (by decide) _ _ | refine rfr_uO ?_ (by decide) _ _)
  have hst : f_Ref_readComes Γ φ r (nI s) c = f_Ref_readComes_L101 Γ jF (rcφ φ r s q (S.sr s).length c S.time (S.rnum s)) r (nI s) c (nI q) (bI true) (nI 0) := by
    unfold f_Ref_readComes f_Ref_freePlace
    rw [if_pos h.rl.o, rf_69 h.rl, z4, zI_mul, hfr, zI_1]
    repeat (first | rw [Option.bind_some] | rw [rf_69 h.rl] | rw [rg_69 h.rl] | rw [zix (show q < 16 by omega)] | rw [if_pos (show nI 1 = 0 ∨ nI 1 = nI 1 from Or.inr rfl)] | rw [rf_67 h.rl] | rw [rg_67 h.rl] | rw [zix hs] | rw [rf_68 h.rl] | rw [rg_68 h.rl] | rw [uI_d (show r + 57 ≠ r + 59 by omega)] | rw [hmm] | rw [zI_add] | rw [zix (show 4 * s + (S.sr s).length < 16 by omega)] | rw [rf_70 h.rl] | rw [rg_70 h.rl] | rw [rf_71 h.rl] | rw [rg_71 h.rl] | rw [rf_72 h.rl] | rw [rg_72 h.rl] | rw [rf_76 h.rl] | rw [rg_76 h.rl] | rw [rf_73 h.rl] | rw [rg_73 h.rl])
    dsimp only
    simp (disch := first | assumption | omega) only [uI_s, uI_d, uI_2, uI_3, uL_1, uL_s, uL_d, uL_3, hmm, hnu, zI_add, h.sc.time]
    rfl
  have hm1 : VMem ((rcφ φ r s q (S.sr s).length c S.time (S.rnum s)).1 (r + 7)) ((rcφ φ r s q (S.sr s).length c S.time (S.rnum s)).1 (r + 8)) S.mem S.spo := by
    rw [f1.i 7 (by decide), f1.i 8 (by decide)]; exact h.me
  obtain ⟨φ2, a1, a2, a3, a4⟩ := r_rc101 (Γ := Γ) (r := r) (s := s) (p := q) hmb hr (by omega) (leN c) 0 true jF _ (Nat.zero_add _) (by unfold jF; omega) (h.rl.up (congrFun f1.1 r)) hm1
  rw [hst, a1]
  have f2 : RFr r [57, 58, 59, 60, 61, 62, 63, 64, 65, 66] φ φ2 := (f1.mono (by decide)).trans (a2.mono (by decide))
  have hl2 : RL Γ φ2 r := h.rl.up (congrFun f2.1 r)
  -- the state but for the right
  have hnb : RV Γ φ2 r ((S.w_sr (va_up S.sr s (S.sr s ++ [S.newQ s c q]))).w_rnum (va_up S.rnum s (S.rnum s + 1))) := by
    have e57 : φ2.1 (r + 57) = va_up (φ.1 (r + 57)) s (nI ((S.sr s).length + 1)) := by rw [a2.i 57 (by decide)]; unfold rcφ; simp (disch := first | assumption | omega) only [uI_s, uI_d, uI_2, uI_3, uL_1, uL_s, uL_d, uL_3]
    have e58 : φ2.1 (r + 58) = va_up (φ.1 (r + 58)) (4 * s + (S.sr s).length) (nI q) := by rw [a2.i 58 (by decide)]; unfold rcφ; simp (disch := first | assumption | omega) only [uI_s, uI_d, uI_2, uI_3, uL_1, uL_s, uL_d, uL_3]
    have e59 : φ2.1 (r + 59) = va_up (φ.1 (r + 59)) q (nI 1) := by rw [a2.i 59 (by decide)]; unfold rcφ; simp (disch := first | assumption | omega) only [uI_s, uI_d, uI_2, uI_3, uL_1, uL_s, uL_d, uL_3]
    have e60 : φ2.2.1 (r + 60) = va_up (φ.2.1 (r + 60)) q c := by rw [a2.l 60 (by decide)]; unfold rcφ; simp (disch := first | assumption | omega) only [uI_s, uI_d, uI_2, uI_3, uL_1, uL_s, uL_d, uL_3]
    have e61 : φ2.1 (r + 61) = va_up (φ.1 (r + 61)) q (nI 0) := by rw [a2.i 61 (by decide)]; unfold rcφ; simp (disch := first | assumption | omega) only [uI_s, uI_d, uI_2, uI_3, uL_1, uL_s, uL_d, uL_3]
    have e62 : φ2.1 (r + 62) = va_up (φ.1 (r + 62)) q (nI S.time) := by rw [a2.i 62 (by decide)]; unfold rcφ; simp (disch := first | assumption | omega) only [uI_s, uI_d, uI_2, uI_3, uL_1, uL_s, uL_d, uL_3]
    have e63 : φ2.1 (r + 63) = va_up (φ.1 (r + 63)) q (nI (S.rnum s)) := by rw [a2.i 63 (by decide)]; unfold rcφ; simp (disch := first | assumption | omega) only [uI_s, uI_d, uI_2, uI_3, uL_1, uL_s, uL_d, uL_3]
    have e66 : φ2.1 (r + 66) = va_up (φ.1 (r + 66)) s (nI (S.rnum s + 1)) := by rw [a2.i 66 (by decide)]; unfold rcφ; simp (disch := first | assumption | omega) only [uI_s, uI_d, uI_2, uI_3, uL_1, uL_s, uL_d, uL_3]
    rw [f1.l 64 (by decide)] at a3
    rw [f1.i 65 (by decide)] at a4
    have hv : VSr (φ2.1 (r + 57)) (φ2.1 (r + 58)) (φ2.1 (r + 59)) (φ2.2.1 (r + 60)) (φ2.1 (r + 61)) (φ2.1 (r + 62)) (φ2.1 (r + 63)) (φ2.2.1 (r + 64)) (φ2.1 (r + 65)) (va_up S.sr s (S.sr s ++ [S.newQ s c q])) := by
      rw [e57, e58, e59, e60, e61, e62, e63]
      exact VSr.add h.sr hs (S.newQ s c q) rfl ⟨p1, p2⟩ p3 hl (fun j hj => by
        have hj' : ¬ (16 * q + 0 ≤ j ∧ j < 16 * q + leN c) := hj
        exact ⟨by rw [a3, if_neg hj'], by rw [a4, if_neg hj']⟩) (fun i hi => by
        have hi' : i < leN c := hi
        show φ2.2.1 (r + 64) (16 * q + i) = _ ∧ φ2.1 (r + 65) (16 * q + i) = _
        rw [a3, a4, if_pos (by omega), if_pos (by omega), show 16 * q + i - 16 * q = i by omega]
        exact ⟨rfl, rfl⟩)
    have hch : VCh (φ2.1 (r + 66)) (φ2.1 (r + 67)) (φ2.1 (r + 68)) (φ2.1 (r + 69)) ((S.w_sr (va_up S.sr s (S.sr s ++ [S.newQ s c q]))).w_rnum (va_up S.rnum s (S.rnum s + 1))) := by
      rw [e66, f2.i 67 (by decide), f2.i 68 (by decide), f2.i 69 (by decide)]
      refine ⟨fun t ht => ?_, h.ch.hlat, h.ch.hchb, fun t i ht hi => ?_⟩
      · show va_up _ _ _ t = nI (va_up S.rnum s (S.rnum s + 1) t)
        rw [vz_at, vz_at]
        split
        · rfl
        · exact h.ch.hnums t ht
      · obtain ⟨x, hx, hc⟩ := h.ch.hchr t i ht hi
        refine ⟨x, ?_, hc⟩
        show (va_up S.sr s (S.sr s ++ [S.newQ s c q]) t)[i]? = some x
        rw [vz_at]
        split
        · rename_i hts
          subst hts
          rw [List.getElem?_append_left (llt hx)]
          exact hx
        · exact hx
    exact ⟨(RL.up h.rl (congrFun f2.1 r)), (by rw [f2.o (by decide)]; exact ⟨h.sc.nm, h.sc.ns, h.sc.lim, h.sc.pol, h.sc.whole, h.sc.time, h.sc.tk, h.sc.wm, h.sc.rm, h.sc.db, h.sc.er⟩), (by rw [f2.i 1 (by decide)]; exact h.pg), (by rw [f2.i 2 (by decide)]; exact h.mp), (by rw [f2.i 3 (by decide)]; exact h.sp), (by rw [f2.i 4 (by decide)]; exact h.ea), (by rw [f2.i 5 (by decide)]; exact h.de), (by rw [f2.i 6 (by decide)]; exact h.wa), (by rw [f2.i 7 (by decide), f2.i 8 (by decide)]; exact h.me), (by rw [f2.i 9 (by decide), f2.i 10 (by decide), f2.i 11 (by decide), f2.i 12 (by decide), f2.i 13 (by decide), f2.i 14 (by decide), f2.i 15 (by decide), f2.i 16 (by decide), f2.i 17 (by decide), f2.i 18 (by decide), f2.i 20 (by decide), f2.i 21 (by decide), f2.i 22 (by decide), f2.i 23 (by decide), f2.i 24 (by decide), f2.l 19 (by decide), f2.l 25 (by decide)]; exact h.tk), (by rw [f2.i 26 (by decide), f2.i 27 (by decide), f2.l 28 (by decide), f2.i 29 (by decide)]; exact h.wi), (by rw [f2.i 31 (by decide)]; exact h.tr), (by rw [f2.l 32 (by decide), f2.i 33 (by decide), f2.i 34 (by decide), f2.i 35 (by decide)]; exact h.row), (by rw [f2.i 36 (by decide), f2.i 37 (by decide), f2.i 38 (by decide), f2.i 39 (by decide)]; exact h.uw), (by rw [f2.i 40 (by decide), f2.i 41 (by decide), f2.i 42 (by decide)]; exact h.ur), (by rw [f2.i 43 (by decide), f2.i 44 (by decide), f2.i 45 (by decide), f2.i 46 (by decide), f2.i 47 (by decide)]; exact ⟨h.la.haw, h.la.har, h.la.hb, h.la.hg, h.la.hinn⟩), (by rw [f2.i 48 (by decide), f2.i 49 (by decide), f2.i 50 (by decide), f2.l 51 (by decide), f2.i 52 (by decide), f2.i 53 (by decide), f2.i 54 (by decide), f2.l 55 (by decide), f2.i 56 (by decide)]; exact h.sw), hv, hch, (by rw [f2.i 70 (by decide), f2.i 71 (by decide)]; exact h.rg), (by unfold maOf; rw [f2.i 72 (by decide), f2.l 73 (by decide), f2.i 74 (by decide), f2.i 75 (by decide), f2.i 76 (by decide), f2.i 77 (by decide), f2.i 78 (by decide), f2.i 79 (by decide), f2.i 80 (by decide), f2.i 81 (by decide), f2.l 82 (by decide), f2.i 83 (by decide), f2.i 84 (by decide), f2.i 85 (by decide), f2.l 86 (by decide), f2.i 87 (by decide)]; exact h.mo), (by rw [f2.i 88 (by decide), f2.i 89 (by decide), f2.l 90 (by decide), f2.i 91 (by decide)]; exact h.wt)⟩
  have hid := idN_lt c
  have hx2 := exN_lt c
  have hany : ((List.range' 0 (leN c)).any fun k => spoR S.spo c k) = ((List.range (leN c)).any fun k => spoR S.spo c k) := by rw [List.range_eq_range']
  rw [hany, Bool.true_and]
  rw [f_Ref_readComes_L101, e_Ref_lengthOf, Option.bind_some, if_pos (Int32.le_refl _)]
  unfold f_Ref_readComes_L314
  simp only [e_Ref_isAlone, Option.bind_some, e_Ref_idOf, e_Ref_addressOf, e_Ref_lengthOf, e_Ref_sizeOf, hl2.o, if_true, rf_80 hl2, rg_80 hl2, rf_81 hl2, rg_81 hl2, zI_lit, zI_mul, zI_add, zix (show 64 * s + idN c < 256 by omega), bI_eq0]
  unfold XS.newRgt
  by_cases hx : exN c = 1
  · rw [if_neg (show ¬ nI (exN c) = nI 0 by rw [hx]; decide)]
    cases hsp : (List.range (leN c)).any fun k => spoR S.spo c k with
    | true =>
      rw [if_pos (show (!true) = false from rfl), if_neg (fun hc => by cases hc.2), rgt_id]
      refine ⟨φ2, rfl, ?_, f2.mono (by decide)⟩
      exact hnb
    | false =>
      rw [if_neg (show ¬ (!false) = false by decide), if_pos ⟨hx, rfl⟩]
      have f3 : RFr r [70, 71] φ2 (uI (uI φ2 (r + 70) (64 * s + idN c) (nI (adN c))) (r + 71) (64 * s + idN c) (nI (leN c * szN c))) := by repeat (first | exact RFr.refl _ _ _ | refine RFr.uI ?_ (by decide) _ _ | refine RFr.uL ?_ (by decide) _ _ | refine rfr_uO ?_ (by decide) _ _)
      refine ⟨_, rfl, ?_, (f2.mono (by decide)).trans (f3.mono (by decide))⟩
      have hg := VRg.some hnb.rg (s := s) (j := idN c) hid (adN c) (leN c * szN c)
      exact ⟨(RL.up hnb.rl (congrFun f3.1 r)), (by rw [f3.o (by decide)]; exact ⟨hnb.sc.nm, hnb.sc.ns, hnb.sc.lim, hnb.sc.pol, hnb.sc.whole, hnb.sc.time, hnb.sc.tk, hnb.sc.wm, hnb.sc.rm, hnb.sc.db, hnb.sc.er⟩), (by rw [f3.i 1 (by decide)]; exact hnb.pg), (by rw [f3.i 2 (by decide)]; exact hnb.mp), (by rw [f3.i 3 (by decide)]; exact hnb.sp), (by rw [f3.i 4 (by decide)]; exact hnb.ea), (by rw [f3.i 5 (by decide)]; exact hnb.de), (by rw [f3.i 6 (by decide)]; exact hnb.wa), (by rw [f3.i 7 (by decide), f3.i 8 (by decide)]; exact hnb.me), (by rw [f3.i 9 (by decide), f3.i 10 (by decide), f3.i 11 (by decide), f3.i 12 (by decide), f3.i 13 (by decide), f3.i 14 (by decide), f3.i 15 (by decide), f3.i 16 (by decide), f3.i 17 (by decide), f3.i 18 (by decide), f3.i 20 (by decide), f3.i 21 (by decide), f3.i 22 (by decide), f3.i 23 (by decide), f3.i 24 (by decide), f3.l 19 (by decide), f3.l 25 (by decide)]; exact hnb.tk), (by rw [f3.i 26 (by decide), f3.i 27 (by decide), f3.l 28 (by decide), f3.i 29 (by decide)]; exact hnb.wi), (by rw [f3.i 31 (by decide)]; exact hnb.tr), (by rw [f3.l 32 (by decide), f3.i 33 (by decide), f3.i 34 (by decide), f3.i 35 (by decide)]; exact hnb.row), (by rw [f3.i 36 (by decide), f3.i 37 (by decide), f3.i 38 (by decide), f3.i 39 (by decide)]; exact hnb.uw), (by rw [f3.i 40 (by decide), f3.i 41 (by decide), f3.i 42 (by decide)]; exact hnb.ur), (by rw [f3.i 43 (by decide), f3.i 44 (by decide), f3.i 45 (by decide), f3.i 46 (by decide), f3.i 47 (by decide)]; exact ⟨hnb.la.haw, hnb.la.har, hnb.la.hb, hnb.la.hg, hnb.la.hinn⟩), (by rw [f3.i 48 (by decide), f3.i 49 (by decide), f3.i 50 (by decide), f3.l 51 (by decide), f3.i 52 (by decide), f3.i 53 (by decide), f3.i 54 (by decide), f3.l 55 (by decide), f3.i 56 (by decide)]; exact hnb.sw), (by rw [f3.i 57 (by decide), f3.i 58 (by decide), f3.i 59 (by decide), f3.l 60 (by decide), f3.i 61 (by decide), f3.i 62 (by decide), f3.i 63 (by decide), f3.l 64 (by decide), f3.i 65 (by decide)]; exact hnb.sr), (by rw [f3.i 66 (by decide), f3.i 67 (by decide), f3.i 68 (by decide), f3.i 69 (by decide)]; exact ⟨hnb.ch.hnums, hnb.ch.hlat, hnb.ch.hchb, hnb.ch.hchr⟩), (by simp (disch := first | assumption | omega) only [uI_s, uI_d, uI_2, uI_3, uL_1, uL_s, uL_d, uL_3]; exact hg), (by unfold maOf; rw [f3.i 72 (by decide), f3.l 73 (by decide), f3.i 74 (by decide), f3.i 75 (by decide), f3.i 76 (by decide), f3.i 77 (by decide), f3.i 78 (by decide), f3.i 79 (by decide), f3.i 80 (by decide), f3.i 81 (by decide), f3.l 82 (by decide), f3.i 83 (by decide), f3.i 84 (by decide), f3.i 85 (by decide), f3.l 86 (by decide), f3.i 87 (by decide)]; exact hnb.mo), (by rw [f3.i 88 (by decide), f3.i 89 (by decide), f3.l 90 (by decide), f3.i 91 (by decide)]; exact hnb.wt)⟩
  · have hx0 : exN c = 0 := by omega
    rw [if_pos (show nI (exN c) = nI 0 by rw [hx0]), if_neg (fun hc => hx hc.1), rgt_id]
    refine ⟨φ2, rfl, ?_, f2.mono (by decide)⟩
    exact hnb
