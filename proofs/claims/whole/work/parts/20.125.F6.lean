/-! THE FACE: what is set -/
theorem rA_ge {w nm ns i : Nat} (h : okR nm ns i) : w + 3 ≤ rA w nm i := by
  unfold rA
  split <;> omega
theorem CSw.setG {Γ : gm_T} {φ φ' : ph_T} {w : Nat} {S T : XS} (h : CSw Γ φ w S) (f : Fr w (w + 2) φ φ') (e2 : φ'.2.2 = φ.2.2) (ho : SwO (φ'.1 w) T) (hp : ∀ p, p < 16 → φ'.1 (w + 1) p = nI (T.pages p)) (e_nm : T.nm = S.nm) (e_ns : T.ns = S.ns) (e_row : T.row = S.row) (e_uw : T.uw = S.uw) (e_ur : T.ur = S.ur) (e_la : T.la = S.la) (e_lr : T.lr = S.lr) (e_lb : T.lb = S.lb) (e_lg : T.lg = S.lg) (e_inb : T.inb = S.inb) : CSw Γ φ' w T := by
  have n4 := h.lay.nm4
  have n5 := h.lay.ns4
  have eA : swA w S.nm S.ns = w + 24 + 20 * S.nm + 20 * S.ns := rfl
  have eB : swB w S.nm S.ns = w + 26 + 30 * S.nm + 20 * S.ns := rfl
  refine ⟨?_, ho, hp, ?_, ?_, ?_, ?_, ?_, ?_, ?_, ?_⟩
  · rw [e_nm, e_ns]
    exact h.lay.up (by rw [e2]) (by rw [e2]) (by rw [e2]) (by rw [e2]) (by rw [e2])
  · rw [e_nm, e_ns, e_row]
    intro i hi
    have := rA_ge (w := w) hi
    exact (h.row i hi).sm (f.sm (by omega))
  · rw [e_nm, e_ns, e_uw]
    intro m hm
    exact (h.uw m hm).sm (f.sm (by omega))
  · rw [e_nm, e_ns, e_ur]
    intro m hm
    exact (h.ur m hm).sm (f.sm (by omega))
  · rw [e_nm, e_ns, e_la, f.i (by omega)]; exact h.la
  · rw [e_nm, e_ns, e_lr, f.i (by omega)]; exact h.lr
  · rw [e_nm, e_ns, e_lb, f.i (by omega)]; exact h.lb
  · rw [e_nm, e_ns, e_lg, f.i (by omega)]; exact h.lg
  · rw [e_nm, e_ns, e_inb, f.i (by omega)]; exact h.inb
theorem JI.pol {k : Nat} {S : XS} (h : JI k S) {n : Nat} (hn : n < 4) (w : Bool) : JI k ((S.w_pol n).w_whole w) := by
  obtain ⟨h1, h2, h3, h4⟩ := h
  have hb : Bd ((S.w_pol n).w_whole w) := ⟨h1.bd.nm, h1.bd.ns, h1.bd.lim, hn, h1.bd.time, h1.bd.db, h1.bd.moved, h1.bd.pages, h1.bd.mpat, h1.bd.spat, h1.bd.delay, h1.bd.way, h1.bd.mem, h1.bd.sw, h1.bd.sr, h1.bd.rnum, h1.bd.lat, h1.bd.uw, h1.bd.ur, h1.bd.la, h1.bd.lr, h1.bd.lb, h1.bd.lg, h1.bd.rgt, h1.bd.rowT, h1.bd.tk⟩
  exact ⟨⟨hb, h1.tb, h1.tk, h1.rw, h1.uw, h1.ur, h1.pw, h1.em, h1.nc, h1.tg, h1.rc, h1.db, h1.mo, h1.cb, h1.ch, h1.ib, h1.ou, h1.mv⟩, ⟨h2.a0, h2.a3, h2.d, h2.b, h2.r, h2.mh, h2.sh⟩, ⟨h3.n, h3.e, h3.l, h3.p, h3.q⟩, h4⟩
theorem q_policy {Γ : gm_T} {φ : ph_T} {b : Nat} {S : XS} {k : Nat} (h : CV Γ φ b S) (hJ : JI k S) (p : Int32) (w : Bool) : Face Γ φ b S k (f_Bus_policy Γ φ b p (bI w)) (fun φ1 r => f_Ref_policy Γ φ1 r p (bI w)) IAE IAE IAE := by
  have hm : f_Bus_needNumber Γ φ p (0 : Int32) (3 : Int32) = _ := nNum Γ φ p (lo := 0) (hi := 3) (by decide) (by decide)
  obtain ⟨g1, g2, g3, g4⟩ := h.reg
  have n4 := h.lay.nm4
  have n5 := h.lay.ns4
  have hb : b + 35 ≤ bQ b S.nm S.ns := by unfold bQ; omega
  cases hp : inN p 0 3 with
  | false =>
    refine Face.bad h hJ 1 0 (by decide) (by decide) ?_ (fun φ1 r hr => ⟨0, ?_⟩)
    · unfold f_Bus_policy
      rw [hm, hp]; rfl
    · unfold f_Ref_policy f_Ref_policy_L18
      rw [show f_Ref_in Γ φ1 p.toInt64 (0 : Int64) (3 : Int64) = _ from e_inN Γ φ1 p 0 3, hp, Option.bind_some, if_pos (bf_eq _), if_pos hr.rl.o, if_pos hr.rl.o, if_neg (er_1 _ _)]
      rfl
  | true =>
    obtain ⟨n, _, hn, rfl, _⟩ := inN_t (by decide) (by decide) hp
    have f : Fr (b + 4) (b + 4 + 2) φ (uI (uI φ (b + 4) 13 (nI n)) (b + 4) 14 (bI w)) := fr_uI (fr_uI (Fr.refl _ _ _) (by omega) _ _) (by omega) _ _
    refine Face.do (S' := (S.w_pol n).w_whole w) (nI S.pol) ?_ ?_ (f.mono (by omega) (by omega)) (hJ.pol (by omega) w) rfl rfl ?_
    · unfold f_Bus_policy
      rw [hm, hp, if_pos rfl, bT_l, if_pos h.lay.o, h.lay.f1, Option.bind_some, if_pos h.sw.lay.o, if_pos (bI_or _), h.sw.ob.pol]
    · refine h.swG (f.mono (by omega) (by omega)) ?_ ⟨rfl, rfl, rfl, rfl, rfl, rfl, rfl, rfl, rfl, rfl, rfl, rfl, rfl, rfl, rfl, rfl, rfl, rfl, rfl, rfl⟩
      refine h.sw.setG f rfl ?_ ?_ rfl rfl rfl rfl rfl rfl rfl rfl rfl rfl
      · rw [uI_s, uI_s]
        refine ⟨?_, ?_, ?_, ?_, vz_same _ _ _, ?_, ?_⟩
        · rw [vz_ne _ (by decide), vz_ne _ (by decide)]; exact h.sw.ob.nm
        · rw [vz_ne _ (by decide), vz_ne _ (by decide)]; exact h.sw.ob.ns
        · rw [vz_ne _ (by decide), vz_ne _ (by decide)]; exact h.sw.ob.lim
        · rw [vz_ne _ (by decide), vz_same]; rfl
        · rw [vz_ne _ (by decide), vz_ne _ (by decide)]; exact h.sw.ob.db
        · rw [vz_ne _ (by decide), vz_ne _ (by decide)]; exact h.sw.ob.mv
      · intro q hq
        rw [uI_1, if_neg (by omega), uI_1, if_neg (by omega)]
        exact h.sw.pg q hq
    · intro φ1 r hr hh he φ0 e0 hr0
      have f2 : RFr r [0] φ1 (uI (uI φ1 r 4 (nI n)) r 5 (bI w)) := by repeat (first | exact RFr.refl _ _ _ | refine RFr.uI ?_ (by decide) _ _ | refine RFr.uL ?_ (by decide) _ _ | refine rfr_uO ?_ (by decide) _ _)
      refine ⟨_, ?_, ?_, fun j hj => by rw [f2.i 30 (by decide)]; exact hh j hj, f2.fr (by decide)⟩
      · show f_Ref_policy Γ φ0 r _ _ = _
        unfold f_Ref_policy f_Ref_policy_L18
        rw [show f_Ref_in Γ φ0 (nI n).toInt64 (0 : Int64) (3 : Int64) = _ from e_inN Γ φ0 (nI n) 0 3, hp, Option.bind_some, if_neg (bt_ne _), if_pos hr.rl.o, if_pos hr.rl.o, if_pos (er_0 _ _), if_pos (bI_or _), zI_0, ← e0, hr.sc.pol]
        rfl
      · have hsc := hr.sc
        refine ⟨(RL.up hr.rl (congrFun f2.1 r)), ?_, (by rw [f2.i 1 (by decide)]; exact hr.pg), (by rw [f2.i 2 (by decide)]; exact hr.mp), (by rw [f2.i 3 (by decide)]; exact hr.sp), (by rw [f2.i 4 (by decide)]; exact hr.ea), (by rw [f2.i 5 (by decide)]; exact hr.de), (by rw [f2.i 6 (by decide)]; exact hr.wa), (by rw [f2.i 7 (by decide), f2.i 8 (by decide)]; exact hr.me), (by rw [f2.i 9 (by decide), f2.i 10 (by decide), f2.i 11 (by decide), f2.i 12 (by decide), f2.i 13 (by decide), f2.i 14 (by decide), f2.i 15 (by decide), f2.i 16 (by decide), f2.i 17 (by decide), f2.i 18 (by decide), f2.i 20 (by decide), f2.i 21 (by decide), f2.i 22 (by decide), f2.i 23 (by decide), f2.i 24 (by decide), f2.l 19 (by decide), f2.l 25 (by decide)]; exact hr.tk), (by rw [f2.i 26 (by decide), f2.i 27 (by decide), f2.l 28 (by decide), f2.i 29 (by decide)]; exact hr.wi), (by rw [f2.i 31 (by decide)]; exact hr.tr), (by rw [f2.l 32 (by decide), f2.i 33 (by decide), f2.i 34 (by decide), f2.i 35 (by decide)]; exact hr.row), (by rw [f2.i 36 (by decide), f2.i 37 (by decide), f2.i 38 (by decide), f2.i 39 (by decide)]; exact hr.uw), (by rw [f2.i 40 (by decide), f2.i 41 (by decide), f2.i 42 (by decide)]; exact hr.ur), (by rw [f2.i 43 (by decide), f2.i 44 (by decide), f2.i 45 (by decide), f2.i 46 (by decide), f2.i 47 (by decide)]; exact ⟨hr.la.haw, hr.la.har, hr.la.hb, hr.la.hg, hr.la.hinn⟩), (by rw [f2.i 48 (by decide), f2.i 49 (by decide), f2.i 50 (by decide), f2.l 51 (by decide), f2.i 52 (by decide), f2.i 53 (by decide), f2.i 54 (by decide), f2.l 55 (by decide), f2.i 56 (by decide)]; exact hr.sw), (by rw [f2.i 57 (by decide), f2.i 58 (by decide), f2.i 59 (by decide), f2.l 60 (by decide), f2.i 61 (by decide), f2.i 62 (by decide), f2.i 63 (by decide), f2.l 64 (by decide), f2.i 65 (by decide)]; exact hr.sr), (by rw [f2.i 66 (by decide), f2.i 67 (by decide), f2.i 68 (by decide), f2.i 69 (by decide)]; exact ⟨hr.ch.hnums, hr.ch.hlat, hr.ch.hchb, hr.ch.hchr⟩), (by rw [f2.i 70 (by decide), f2.i 71 (by decide)]; exact hr.rg), (by unfold maOf; rw [f2.i 72 (by decide), f2.l 73 (by decide), f2.i 74 (by decide), f2.i 75 (by decide), f2.i 76 (by decide), f2.i 77 (by decide), f2.i 78 (by decide), f2.i 79 (by decide), f2.i 80 (by decide), f2.i 81 (by decide), f2.l 82 (by decide), f2.i 83 (by decide), f2.i 84 (by decide), f2.i 85 (by decide), f2.l 86 (by decide), f2.i 87 (by decide)]; exact hr.mo), (by rw [f2.i 88 (by decide), f2.i 89 (by decide), f2.l 90 (by decide), f2.i 91 (by decide)]; exact hr.wt)⟩
        rw [uI_s, uI_s]
        refine ⟨?_, ?_, ?_, ?_, vz_same _ _ _, ?_, ?_, ?_, ?_, ?_, ?_⟩
        · rw [vz_ne _ (by decide), vz_ne _ (by decide)]; exact hsc.nm
        · rw [vz_ne _ (by decide), vz_ne _ (by decide)]; exact hsc.ns
        · rw [vz_ne _ (by decide), vz_ne _ (by decide)]; exact hsc.lim
        · rw [vz_ne _ (by decide), vz_same]; rfl
        · rw [vz_ne _ (by decide), vz_ne _ (by decide)]; exact hsc.time
        · rw [vz_ne _ (by decide), vz_ne _ (by decide)]; exact hsc.tk
        · rw [vz_ne _ (by decide), vz_ne _ (by decide)]; exact hsc.wm
        · rw [vz_ne _ (by decide), vz_ne _ (by decide)]; exact hsc.rm
        · rw [vz_ne _ (by decide), vz_ne _ (by decide)]; exact hsc.db
        · rw [vz_ne _ (by decide), vz_ne _ (by decide)]; exact he
