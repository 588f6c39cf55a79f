/-! THE FACE: masters' and slaves' settings -/
theorem JI.mas {k : Nat} {S : XS} (h : JI k S) {m : Nat} {mp : Nat → Nat} (hm : ∀ c, mp c < 65536) (e : Bool) : JI k ((S.w_mpat (va_up S.mpat m mp)).w_early (va_up S.early m e)) := by
  obtain ⟨h1, h2, h3, h4⟩ := h
  have hb : Bd ((S.w_mpat (va_up S.mpat m mp)).w_early (va_up S.early m e)) := by
    refine ⟨h1.bd.nm, h1.bd.ns, h1.bd.lim, h1.bd.pol, h1.bd.time, h1.bd.db, h1.bd.moved, h1.bd.pages, ?_, h1.bd.spat, h1.bd.delay, h1.bd.way, h1.bd.mem, h1.bd.sw, h1.bd.sr, h1.bd.rnum, h1.bd.lat, h1.bd.uw, h1.bd.ur, h1.bd.la, h1.bd.lr, h1.bd.lb, h1.bd.lg, h1.bd.rgt, h1.bd.rowT, h1.bd.tk⟩
    intro m' c
    show va_up S.mpat m mp m' c < 65536
    rw [vz_at]
    split
    · exact hm c
    · exact h1.bd.mpat m' c
  exact ⟨⟨hb, h1.tb, h1.tk, h1.rw, h1.uw, h1.ur, h1.pw, h1.em, h1.nc, h1.tg, h1.rc, h1.db, h1.mo, h1.cb, h1.ch, h1.ib, h1.ou, h1.mv⟩, ⟨h2.a0, h2.a3, h2.d, h2.b, h2.r, h2.mh, h2.sh⟩, ⟨h3.n, h3.e, h3.l, h3.p, h3.q⟩, h4⟩
theorem VPat.up {f : aI} {g : Nat → Nat → Nat} (h : VPat f g) {m c v : Nat} (hm : m < 4) (hc : c < 5) : VPat (va_up f (5 * m + c) (nI v)) (va_up g m (va_up (g m) c v)) := by
  intro m' c' hm' hc'
  by_cases e1 : m' = m
  · subst e1
    rw [vz_same]
    by_cases e2 : c' = c
    · subst e2; rw [vz_same, vz_same]
    · rw [vz_ne _ (by omega), vz_ne _ e2]; exact h m' c' hm' hc'
  · rw [vz_ne _ (by omega), vz_ne _ e1]; exact h m' c' hm' hc'
theorem VB4.up {f : aI} {g : Nat → Bool} (h : VB4 f g) (m : Nat) (v : Bool) : VB4 (va_up f m (bI v)) (va_up g m v) := by
  intro m' hm'
  by_cases e1 : m' = m
  · subst e1; rw [vz_same, vz_same]
  · rw [vz_ne _ e1, vz_ne _ e1]; exact h m' hm'
theorem VN4.up {f : aI} {g : Nat → Nat} (h : VN4 f g) (m v : Nat) : VN4 (va_up f m (nI v)) (va_up g m v) := by
  intro m' hm'
  by_cases e1 : m' = m
  · subst e1; rw [vz_same, vz_same]
  · rw [vz_ne _ e1, vz_ne _ e1]; exact h m' hm'
theorem q_master {Γ : gm_T} {φ : ph_T} {b : Nat} {S : XS} {k : Nat} (h : CV Γ φ b S) (hJ : JI k S) (p c x : Int32) : Face Γ φ b S k (f_Bus_master Γ φ b p c x) (fun φ1 r => f_Ref_master Γ φ1 r p c x) IOB IOB IOB := by
  obtain ⟨g1, g2, g3, g4⟩ := h.reg
  have n4 := h.lay.nm4
  have n5 := h.lay.ns4
  have hn := nIdx Γ φ p (n := S.nm) (by omega) (by omega)
  have hn5 : f_Bus_needIndex Γ φ c (5 : Int32) = _ := nIdx Γ φ c (n := 5) (by decide) (by decide)
  have hri : ∀ φ1 r, RV Γ φ1 r S → f_Ref_in Γ φ1 p.toInt64 (0 : Int64) ((φ1.1 r 1).toInt64 - (1 : Int64)) = some (bI (inN p 0 (S.nm - 1)), φ1) := by
    intro φ1 r hr
    rw [hr.sc.nm, nI_64m1 (by omega) (by omega)]
    exact e_inN Γ φ1 p 0 (S.nm - 1)
  have bad : ∀ φ1 r, RV Γ φ1 r S → f_Ref_master_L33 Γ φ1 r p c x r = some (0, uI φ1 r 0 (nI 1)) := by
    intro φ1 r hr
    unfold f_Ref_master_L33 f_Ref_master_L34
    rw [if_pos hr.rl.o, if_pos hr.rl.o, if_neg (er_1 _ _)]
    rfl
  cases hp : inN p 0 (S.nm - 1) with
  | false =>
    refine Face.bad h hJ 1 0 (by decide) (by decide) ?_ (fun φ1 r hr => ⟨0, ?_⟩)
    · unfold f_Bus_master
      rw [if_pos h.lay.o, h.lay.f2, Option.bind_some, h.lay.g2, Option.bind_some, hn, hp]; rfl
    · show f_Ref_master Γ φ1 r p c x = _
      unfold f_Ref_master
      rw [if_pos hr.rl.o, hri φ1 r hr, hp, Option.bind_some, if_pos (bf_eq _)]
      exact bad φ1 r hr
  | true =>
    obtain ⟨m, _, hm, rfl, _⟩ := inN_t (by omega) (by omega) hp
    cases hc : inN c 0 4 with
    | false =>
      refine Face.bad h hJ 1 0 (by decide) (by decide) ?_ (fun φ1 r hr => ⟨0, ?_⟩)
      · unfold f_Bus_master
        rw [if_pos h.lay.o, h.lay.f2, Option.bind_some, h.lay.g2, Option.bind_some, hn, hp, if_pos rfl, bT_l, hn5, hc]; rfl
      · show f_Ref_master Γ φ1 r _ c x = _
        unfold f_Ref_master
        rw [if_pos hr.rl.o, hri φ1 r hr, hp, Option.bind_some, if_neg (bt_ne _), show f_Ref_in Γ φ1 c.toInt64 (0 : Int64) (4 : Int64) = _ from e_inN Γ φ1 c 0 4, hc, Option.bind_some, if_pos (bf_eq _)]
        exact bad φ1 r hr
    | true =>
      obtain ⟨i, _, hi, rfl, _⟩ := inN_t (by decide) (by decide) hc
      have hA := h.ma m (by omega)
      have hmi := mA_in (b := b) (ns := S.ns) (show m < S.nm by omega)
      have hbq : b + 35 ≤ bQ b S.nm S.ns := by unfold bQ; omega
      have f : Fr (mAd b S.nm S.ns m) (mAd b S.nm S.ns m + 2) φ (uI φ (mAd b S.nm S.ns m + 1) i (nI (toN x % 65536))) := fr_uI (Fr.refl _ _ _) (by omega) _ _
      refine Face.do (S' := (S.w_mpat (va_up S.mpat m (va_up (S.mpat m) i (toN x % 65536)))).w_early (va_up S.early m (S.early m))) (nI (S.mpat m i)) ?_ ?_ (f.mono (by omega) (by omega)) (hJ.mas (fun c' => ?_) _) rfl rfl ?_
      · unfold f_Bus_master f_Bus_exchange
        rw [if_pos h.lay.o, h.lay.f2, Option.bind_some, h.lay.g2, Option.bind_some, hn, hp, if_pos rfl, bT_l, hn5, hc, if_pos rfl, bT_l, h.lay.f2, Option.bind_some, h.lay.g2, Option.bind_some, zix (by omega), Option.bind_some, h.lay.ma m (by omega), Option.bind_some, if_pos hA.o, hA.f0, Option.bind_some, hA.g0, Option.bind_some, zix (by omega), Option.bind_some, Option.bind_some, zix (by omega), Option.bind_some, hA.pt i (by omega), and16]
        rfl
      · refine h.maG (by omega) f ⟨hA.o, hA.f0, hA.f2, hA.f3, hA.g0, hA.g2, hA.g3, ?_, ?_, hA.wl, hA.rl, ?_, ?_, ?_, ?_, ?_, ?_⟩
        · intro c' hc'
          rw [uI_s]
          by_cases e : c' = i
          · subst e; rw [vz_same, vz_same]
          · rw [vz_ne _ e, vz_ne _ e]; exact hA.pt c' hc'
        · rw [uI_1, if_neg (by omega)]; exact hA.ea
        · rw [uI_1, if_neg (by omega)]; exact hA.cw
        · rw [uI_1, if_neg (by omega)]; exact hA.cr
        · rw [uI_1, if_neg (by omega)]; exact hA.sw
        · rw [uI_1, if_neg (by omega)]; exact hA.sr
        · rw [uI_1, if_neg (by omega)]; exact hA.fd
        · rw [uI_1, if_neg (by omega)]; exact hA.op
      · rw [vz_at]
        split
        · exact Nat.mod_lt _ (by decide)
        · exact hJ.1.bd.mpat m c'
      · intro φ1 r hr hh he φ0 e0 hr0
        have f2 : RFr r [2] φ1 (uI φ1 (r + 2) (5 * m + i) (nI (toN x % 65536))) := by repeat (first | exact RFr.refl _ _ _ | refine RFr.uI ?_ (by decide) _ _ | refine RFr.uL ?_ (by decide) _ _ | refine rfr_uO ?_ (by decide) _ _)
        refine ⟨_, ?_, ?_, fun j hj => by rw [f2.i 30 (by decide)]; exact hh j hj, f2.fr (by decide)⟩
        · show f_Ref_master Γ φ0 r _ _ _ = _
          unfold f_Ref_master f_Ref_master_L34
          rw [if_pos hr.rl.o, hri φ0 r hr0, hp, Option.bind_some, if_neg (bt_ne _), show f_Ref_in Γ φ0 (nI i).toInt64 (0 : Int64) (4 : Int64) = _ from e_inN Γ φ0 (nI i) 0 4, hc, Option.bind_some, if_neg (bt_ne _), if_pos hr.rl.o, if_pos hr.rl.o, if_pos (er_0 _ _), rf_8 hr0.rl, Option.bind_some, rg_8 hr0.rl, Option.bind_some, show (5 : Int32) * nI m + nI i = nI (5 * m + i) from by rw [show (5 : Int32) = nI 5 from rfl, zI_mul, zI_add], zix (by omega), Option.bind_some, Option.bind_some, zix (by omega), Option.bind_some, zI_0, ← e0, hr.mp m i (by omega) (by omega), and16]
          rfl
        · refine ⟨(RL.up hr.rl (congrFun f2.1 r)), (by rw [f2.o (by decide)]; exact ⟨hr.sc.nm, hr.sc.ns, hr.sc.lim, hr.sc.pol, hr.sc.whole, hr.sc.time, hr.sc.tk, hr.sc.wm, hr.sc.rm, hr.sc.db, hr.sc.er⟩), (by rw [f2.i 1 (by decide)]; exact hr.pg), ?_, (by rw [f2.i 3 (by decide)]; exact hr.sp), ?_, (by rw [f2.i 5 (by decide)]; exact hr.de), (by rw [f2.i 6 (by decide)]; exact hr.wa), (by rw [f2.i 7 (by decide), f2.i 8 (by decide)]; exact hr.me), (by rw [f2.i 9 (by decide), f2.i 10 (by decide), f2.i 11 (by decide), f2.i 12 (by decide), f2.i 13 (by decide), f2.i 14 (by decide), f2.i 15 (by decide), f2.i 16 (by decide), f2.i 17 (by decide), f2.i 18 (by decide), f2.i 20 (by decide), f2.i 21 (by decide), f2.i 22 (by decide), f2.i 23 (by decide), f2.i 24 (by decide), f2.l 19 (by decide), f2.l 25 (by decide)]; exact hr.tk), (by rw [f2.i 26 (by decide), f2.i 27 (by decide), f2.l 28 (by decide), f2.i 29 (by decide)]; exact hr.wi), (by rw [f2.i 31 (by decide)]; exact hr.tr), (by rw [f2.l 32 (by decide), f2.i 33 (by decide), f2.i 34 (by decide), f2.i 35 (by decide)]; exact hr.row), (by rw [f2.i 36 (by decide), f2.i 37 (by decide), f2.i 38 (by decide), f2.i 39 (by decide)]; exact hr.uw), (by rw [f2.i 40 (by decide), f2.i 41 (by decide), f2.i 42 (by decide)]; exact hr.ur), (by rw [f2.i 43 (by decide), f2.i 44 (by decide), f2.i 45 (by decide), f2.i 46 (by decide), f2.i 47 (by decide)]; exact ⟨hr.la.haw, hr.la.har, hr.la.hb, hr.la.hg, hr.la.hinn⟩), (by rw [f2.i 48 (by decide), f2.i 49 (by decide), f2.i 50 (by decide), f2.l 51 (by decide), f2.i 52 (by decide), f2.i 53 (by decide), f2.i 54 (by decide), f2.l 55 (by decide), f2.i 56 (by decide)]; exact hr.sw), (by rw [f2.i 57 (by decide), f2.i 58 (by decide), f2.i 59 (by decide), f2.l 60 (by decide), f2.i 61 (by decide), f2.i 62 (by decide), f2.i 63 (by decide), f2.l 64 (by decide), f2.i 65 (by decide)]; exact hr.sr), (by rw [f2.i 66 (by decide), f2.i 67 (by decide), f2.i 68 (by decide), f2.i 69 (by decide)]; exact ⟨hr.ch.hnums, hr.ch.hlat, hr.ch.hchb, hr.ch.hchr⟩), (by rw [f2.i 70 (by decide), f2.i 71 (by decide)]; exact hr.rg), (by unfold maOf; rw [f2.i 72 (by decide), f2.l 73 (by decide), f2.i 74 (by decide), f2.i 75 (by decide), f2.i 76 (by decide), f2.i 77 (by decide), f2.i 78 (by decide), f2.i 79 (by decide), f2.i 80 (by decide), f2.i 81 (by decide), f2.l 82 (by decide), f2.i 83 (by decide), f2.i 84 (by decide), f2.i 85 (by decide), f2.l 86 (by decide), f2.i 87 (by decide)]; exact hr.mo), (by rw [f2.i 88 (by decide), f2.i 89 (by decide), f2.l 90 (by decide), f2.i 91 (by decide)]; exact hr.wt)⟩
          · rw [uI_s]; exact hr.mp.up (by omega) (by omega)
          · rw [f2.i 4 (by decide)]
            show VB4 _ (va_up S.early m (S.early m))
            rw [vz_self]
            exact hr.ea
theorem q_early {Γ : gm_T} {φ : ph_T} {b : Nat} {S : XS} {k : Nat} (h : CV Γ φ b S) (hJ : JI k S) (p : Int32) (w : Bool) : Face Γ φ b S k (f_Bus_early Γ φ b p (bI w)) (fun φ1 r => f_Ref_early Γ φ1 r p (bI w)) IOB IOB IOB := by
  obtain ⟨g1, g2, g3, g4⟩ := h.reg
  have n4 := h.lay.nm4
  have n5 := h.lay.ns4
  have hn := nIdx Γ φ p (n := S.nm) (by omega) (by omega)
  have hri : ∀ φ1 r, RV Γ φ1 r S → f_Ref_in Γ φ1 p.toInt64 (0 : Int64) ((φ1.1 r 1).toInt64 - (1 : Int64)) = some (bI (inN p 0 (S.nm - 1)), φ1) := by
    intro φ1 r hr
    rw [hr.sc.nm, nI_64m1 (by omega) (by omega)]
    exact e_inN Γ φ1 p 0 (S.nm - 1)
  cases hp : inN p 0 (S.nm - 1) with
  | false =>
    refine Face.bad h hJ 1 0 (by decide) (by decide) ?_ (fun φ1 r hr => ⟨0, ?_⟩)
    · unfold f_Bus_early
      rw [if_pos h.lay.o, h.lay.f2, Option.bind_some, h.lay.g2, Option.bind_some, hn, hp]; rfl
    · show f_Ref_early Γ φ1 r p _ = _
      unfold f_Ref_early f_Ref_early_L22
      rw [if_pos hr.rl.o, hri φ1 r hr, hp, Option.bind_some, if_pos (bf_eq _), if_pos hr.rl.o, if_pos hr.rl.o, if_neg (er_1 _ _), if_pos (by decide)]
      rfl
  | true =>
    obtain ⟨m, _, hm, rfl, _⟩ := inN_t (by omega) (by omega) hp
    have hA := h.ma m (by omega)
    have hmi := mA_in (b := b) (ns := S.ns) (show m < S.nm by omega)
    have hbq : b + 35 ≤ bQ b S.nm S.ns := by unfold bQ; omega
    have f : Fr (mAd b S.nm S.ns m) (mAd b S.nm S.ns m + 2) φ (uI φ (mAd b S.nm S.ns m) 1 (bI w)) := fr_uI (Fr.refl _ _ _) (by omega) _ _
    refine Face.do (S' := (S.w_mpat (va_up S.mpat m (S.mpat m))).w_early (va_up S.early m w)) (bI (S.early m)) ?_ ?_ (f.mono (by omega) (by omega)) (hJ.mas (hJ.1.bd.mpat m) _) rfl rfl ?_
    · unfold f_Bus_early
      rw [if_pos h.lay.o, h.lay.f2, Option.bind_some, h.lay.g2, Option.bind_some, hn, hp, if_pos rfl, bT_l, h.lay.f2, Option.bind_some, h.lay.g2, Option.bind_some, zix (by omega), Option.bind_some, h.lay.ma m (by omega), Option.bind_some, if_pos hA.o, Option.bind_some, zix (by omega), Option.bind_some, h.lay.ma m (by omega), Option.bind_some, if_pos hA.o, if_pos (bI_or _), hA.ea, if_pos (bI_or _)]
    · refine h.maG (by omega) f ⟨hA.o, hA.f0, hA.f2, hA.f3, hA.g0, hA.g2, hA.g3, ?_, ?_, hA.wl, hA.rl, ?_, ?_, ?_, ?_, ?_, ?_⟩
      · rw [uI_1, if_neg (by omega)]; exact hA.pt
      · rw [uI_s, vz_same]
      · rw [uI_s, vz_ne _ (by decide)]; exact hA.cw
      · rw [uI_s, vz_ne _ (by decide)]; exact hA.cr
      · rw [uI_s, vz_ne _ (by decide)]; exact hA.sw
      · rw [uI_s, vz_ne _ (by decide)]; exact hA.sr
      · rw [uI_s, vz_ne _ (by decide)]; exact hA.fd
      · rw [uI_s, vz_ne _ (by decide)]; exact hA.op
    · intro φ1 r hr hh he φ0 e0 hr0
      have f2 : RFr r [4] φ1 (uI φ1 (r + 4) m (bI w)) := by repeat (first | exact RFr.refl _ _ _ | refine RFr.uI ?_ (by decide) _ _ | refine RFr.uL ?_ (by decide) _ _ | refine rfr_uO ?_ (by decide) _ _)
      refine ⟨_, ?_, ?_, fun j hj => by rw [f2.i 30 (by decide)]; exact hh j hj, f2.fr (by decide)⟩
      · show f_Ref_early Γ φ0 r _ _ = _
        unfold f_Ref_early f_Ref_early_L22
        rw [if_pos hr.rl.o, hri φ0 r hr0, hp, Option.bind_some, if_neg (bt_ne _), if_pos hr.rl.o, if_pos hr.rl.o, if_pos (er_0 _ _), rf_10 hr0.rl, Option.bind_some, rg_10 hr0.rl, Option.bind_some, zix (by omega), Option.bind_some, Option.bind_some, zix (by omega), Option.bind_some, if_pos (bI_or _), zI_0, ← e0, hr.ea m (by omega), if_pos (show bI ((S.w_err 0).early m) = nI 0 ∨ bI ((S.w_err 0).early m) = 1 from bI_or _)]
        rfl
      · refine ⟨(RL.up hr.rl (congrFun f2.1 r)), (by rw [f2.o (by decide)]; exact ⟨hr.sc.nm, hr.sc.ns, hr.sc.lim, hr.sc.pol, hr.sc.whole, hr.sc.time, hr.sc.tk, hr.sc.wm, hr.sc.rm, hr.sc.db, hr.sc.er⟩), (by rw [f2.i 1 (by decide)]; exact hr.pg), ?_, (by rw [f2.i 3 (by decide)]; exact hr.sp), ?_, (by rw [f2.i 5 (by decide)]; exact hr.de), (by rw [f2.i 6 (by decide)]; exact hr.wa), (by rw [f2.i 7 (by decide), f2.i 8 (by decide)]; exact hr.me), (by rw [f2.i 9 (by decide), f2.i 10 (by decide), f2.i 11 (by decide), f2.i 12 (by decide), f2.i 13 (by decide), f2.i 14 (by decide), f2.i 15 (by decide), f2.i 16 (by decide), f2.i 17 (by decide), f2.i 18 (by decide), f2.i 20 (by decide), f2.i 21 (by decide), f2.i 22 (by decide), f2.i 23 (by decide), f2.i 24 (by decide), f2.l 19 (by decide), f2.l 25 (by decide)]; exact hr.tk), (by rw [f2.i 26 (by decide), f2.i 27 (by decide), f2.l 28 (by decide), f2.i 29 (by decide)]; exact hr.wi), (by rw [f2.i 31 (by decide)]; exact hr.tr), (by rw [f2.l 32 (by decide), f2.i 33 (by decide), f2.i 34 (by decide), f2.i 35 (by decide)]; exact hr.row), (by rw [f2.i 36 (by decide), f2.i 37 (by decide), f2.i 38 (by decide), f2.i 39 (by decide)]; exact hr.uw), (by rw [f2.i 40 (by decide), f2.i 41 (by decide), f2.i 42 (by decide)]; exact hr.ur), (by rw [f2.i 43 (by decide), f2.i 44 (by decide), f2.i 45 (by decide), f2.i 46 (by decide), f2.i 47 (by decide)]; exact ⟨hr.la.haw, hr.la.har, hr.la.hb, hr.la.hg, hr.la.hinn⟩), (by rw [f2.i 48 (by decide), f2.i 49 (by decide), f2.i 50 (by decide), f2.l 51 (by decide), f2.i 52 (by decide), f2.i 53 (by decide), f2.i 54 (by decide), f2.l 55 (by decide), f2.i 56 (by decide)]; exact hr.sw), (by rw [f2.i 57 (by decide), f2.i 58 (by decide), f2.i 59 (by decide), f2.l 60 (by decide), f2.i 61 (by decide), f2.i 62 (by decide), f2.i 63 (by decide), f2.l 64 (by decide), f2.i 65 (by decide)]; exact hr.sr), (by rw [f2.i 66 (by decide), f2.i 67 (by decide), f2.i 68 (by decide), f2.i 69 (by decide)]; exact ⟨hr.ch.hnums, hr.ch.hlat, hr.ch.hchb, hr.ch.hchr⟩), (by rw [f2.i 70 (by decide), f2.i 71 (by decide)]; exact hr.rg), (by unfold maOf; rw [f2.i 72 (by decide), f2.l 73 (by decide), f2.i 74 (by decide), f2.i 75 (by decide), f2.i 76 (by decide), f2.i 77 (by decide), f2.i 78 (by decide), f2.i 79 (by decide), f2.i 80 (by decide), f2.i 81 (by decide), f2.l 82 (by decide), f2.i 83 (by decide), f2.i 84 (by decide), f2.i 85 (by decide), f2.l 86 (by decide), f2.i 87 (by decide)]; exact hr.mo), (by rw [f2.i 88 (by decide), f2.i 89 (by decide), f2.l 90 (by decide), f2.i 91 (by decide)]; exact hr.wt)⟩
        · rw [f2.i 2 (by decide)]
          show VPat _ (va_up S.mpat m (S.mpat m))
          rw [vz_self]
          exact hr.mp
        · rw [uI_s]; exact hr.ea.up m w
theorem JI.sla {k : Nat} {S : XS} (h : JI k S) {s : Nat} {sp : Nat → Nat} {d w : Nat} (hm : ∀ c, sp c < 65536) (hd : d < 16) (hw : w < 3) : JI k (((S.w_spat (va_up S.spat s sp)).w_delay (va_up S.delay s d)).w_way (va_up S.way s w)) := by
  obtain ⟨h1, h2, h3, h4⟩ := h
  have hb : Bd (((S.w_spat (va_up S.spat s sp)).w_delay (va_up S.delay s d)).w_way (va_up S.way s w)) := by
    refine ⟨h1.bd.nm, h1.bd.ns, h1.bd.lim, h1.bd.pol, h1.bd.time, h1.bd.db, h1.bd.moved, h1.bd.pages, h1.bd.mpat, ?_, ?_, ?_, h1.bd.mem, h1.bd.sw, h1.bd.sr, h1.bd.rnum, h1.bd.lat, h1.bd.uw, h1.bd.ur, h1.bd.la, h1.bd.lr, h1.bd.lb, h1.bd.lg, h1.bd.rgt, h1.bd.rowT, h1.bd.tk⟩
    · intro m' c
      show va_up S.spat s sp m' c < 65536
      rw [vz_at]
      split
      · exact hm c
      · exact h1.bd.spat m' c
    · intro m'
      show va_up S.delay s d m' < 16
      rw [vz_at]
      split
      · exact hd
      · exact h1.bd.delay m'
    · intro m'
      show va_up S.way s w m' < 3
      rw [vz_at]
      split
      · exact hw
      · exact h1.bd.way m'
  exact ⟨⟨hb, h1.tb, h1.tk, h1.rw, h1.uw, h1.ur, h1.pw, h1.em, h1.nc, h1.tg, h1.rc, h1.db, h1.mo, h1.cb, h1.ch, h1.ib, h1.ou, h1.mv⟩, ⟨h2.a0, h2.a3, h2.d, h2.b, h2.r, h2.mh, h2.sh⟩, ⟨h3.n, h3.e, h3.l, h3.p, h3.q⟩, h4⟩
theorem CL.of_r {α : Type} {Γ : gm_T} {φ φ' : ph_T} {a room : Nat} {E : ph_T → Nat → α → Prop} {l : List Nat} {L : List α} (h : CL Γ φ a room E l L) (s : Sm a (a + 2 + 3 * room) φ φ') : CL Γ φ' a room E l L := h.sm s
theorem q_slave {Γ : gm_T} {φ : ph_T} {b : Nat} {S : XS} {k : Nat} (h : CV Γ φ b S) (hJ : JI k S) (p c x : Int32) : Face Γ φ b S k (f_Bus_slave Γ φ b p c x) (fun φ1 r => f_Ref_slave Γ φ1 r p c x) IOB IOB IOB := by
  obtain ⟨g1, g2, g3, g4⟩ := h.reg
  have n4 := h.lay.nm4
  have n5 := h.lay.ns4
  have hn := nIdx Γ φ p (n := S.ns) (by omega) (by omega)
  have hn5 : f_Bus_needIndex Γ φ c (5 : Int32) = _ := nIdx Γ φ c (n := 5) (by decide) (by decide)
  have hri : ∀ φ1 r, RV Γ φ1 r S → f_Ref_in Γ φ1 p.toInt64 (0 : Int64) ((φ1.1 r 2).toInt64 - (1 : Int64)) = some (bI (inN p 0 (S.ns - 1)), φ1) := by
    intro φ1 r hr
    rw [hr.sc.ns, nI_64m1 (by omega) (by omega)]
    exact e_inN Γ φ1 p 0 (S.ns - 1)
  have bad : ∀ φ1 r, RV Γ φ1 r S → f_Ref_slave_L33 Γ φ1 r p c x r = some (0, uI φ1 r 0 (nI 1)) := by
    intro φ1 r hr
    unfold f_Ref_slave_L33 f_Ref_slave_L34
    rw [if_pos hr.rl.o, if_pos hr.rl.o, if_neg (er_1 _ _)]
    rfl
  cases hp : inN p 0 (S.ns - 1) with
  | false =>
    refine Face.bad h hJ 1 0 (by decide) (by decide) ?_ (fun φ1 r hr => ⟨0, ?_⟩)
    · unfold f_Bus_slave
      rw [if_pos h.lay.o, h.lay.f3, Option.bind_some, h.lay.g3, Option.bind_some, hn, hp]; rfl
    · show f_Ref_slave Γ φ1 r p c x = _
      unfold f_Ref_slave
      rw [if_pos hr.rl.o, hri φ1 r hr, hp, Option.bind_some, if_pos (bf_eq _)]
      exact bad φ1 r hr
  | true =>
    obtain ⟨m, _, hm, rfl, _⟩ := inN_t (by omega) (by omega) hp
    cases hc : inN c 0 4 with
    | false =>
      refine Face.bad h hJ 1 0 (by decide) (by decide) ?_ (fun φ1 r hr => ⟨0, ?_⟩)
      · unfold f_Bus_slave
        rw [if_pos h.lay.o, h.lay.f3, Option.bind_some, h.lay.g3, Option.bind_some, hn, hp, if_pos rfl, bT_l, hn5, hc]; rfl
      · show f_Ref_slave Γ φ1 r _ c x = _
        unfold f_Ref_slave
        rw [if_pos hr.rl.o, hri φ1 r hr, hp, Option.bind_some, if_neg (bt_ne _), show f_Ref_in Γ φ1 c.toInt64 (0 : Int64) (4 : Int64) = _ from e_inN Γ φ1 c 0 4, hc, Option.bind_some, if_pos (bf_eq _)]
        exact bad φ1 r hr
    | true =>
      obtain ⟨i, _, hi, rfl, _⟩ := inN_t (by decide) (by decide) hc
      have hA := h.sl m (by omega)
      have hmi := sA_in (b := b) (nm := S.nm) (show m < S.ns by omega)
      have hbq : b + 35 ≤ bQ b S.nm S.ns := by unfold bQ; omega
      have f1 : Fr (sAd b S.nm S.ns m + 1) (sAd b S.nm S.ns m + 2) φ (uI φ (sAd b S.nm S.ns m + 1) i (nI (toN x % 65536))) := fr_uI (Fr.refl _ _ _) (by omega) _ _
      have f := f1.mono (lo' := sAd b S.nm S.ns m) (hi' := sAd b S.nm S.ns m + 32) (by omega) (by omega)
      refine Face.do (S' := ((S.w_spat (va_up S.spat m (va_up (S.spat m) i (toN x % 65536)))).w_delay (va_up S.delay m (S.delay m))).w_way (va_up S.way m (S.way m))) (nI (S.spat m i)) ?_ ?_ (f.mono (by omega) (by omega)) (hJ.sla (fun c' => ?_) (hJ.1.bd.delay m) (hJ.1.bd.way m)) rfl rfl ?_
      · unfold f_Bus_slave f_Bus_exchange
        rw [if_pos h.lay.o, h.lay.f3, Option.bind_some, h.lay.g3, Option.bind_some, hn, hp, if_pos rfl, bT_l, hn5, hc, if_pos rfl, bT_l, h.lay.f3, Option.bind_some, h.lay.g3, Option.bind_some, zix (by omega), Option.bind_some, h.lay.sl m (by omega), Option.bind_some, if_pos hA.o, hA.f1, Option.bind_some, hA.g1, Option.bind_some, zix (by omega), Option.bind_some, Option.bind_some, zix (by omega), Option.bind_some, hA.pt i (by omega), and16]
        rfl
      · obtain ⟨l1, hw1⟩ := hA.sw
        obtain ⟨l2, hw2⟩ := hA.sr
        refine h.slG (by omega) f ⟨hA.o, hA.f0, hA.f1, hA.f2, hA.f3, hA.f4, hA.f5, hA.g1, hA.g4, hA.g5, ⟨l1, hw1.sm (f1.sm (by omega))⟩, ⟨l2, hw2.sm (f1.sm (by omega))⟩, ?_, ?_, ?_, ?_, ?_, ?_, ?_⟩
        · intro c' hc'
          show _ = nI (va_up S.spat m _ m c')
          rw [uI_s, vz_same]
          by_cases e : c' = i
          · subst e; rw [vz_same, vz_same]
          · rw [vz_ne _ e, vz_ne _ e]; exact hA.pt c' hc'
        · rw [f1.i (by omega), f1.i (by omega)]; exact hA.rg
        · rw [f1.i (by omega)]
          show _ = nI (va_up S.delay m (S.delay m) m)
          rw [vz_same]; exact hA.dl
        · rw [f1.i (by omega)]
          show _ = nI (va_up S.way m (S.way m) m)
          rw [vz_same]; exact hA.wy
        · rw [f1.i (by omega)]; exact hA.cb
        · rw [f1.i (by omega)]; exact hA.cr
        · rw [f1.i (by omega)]; exact hA.lt
      · rw [vz_at]
        split
        · exact Nat.mod_lt _ (by decide)
        · exact hJ.1.bd.spat m c'
      · intro φ1 r hr hh he φ0 e0 hr0
        have f2 : RFr r [3] φ1 (uI φ1 (r + 3) (5 * m + i) (nI (toN x % 65536))) := by repeat (first | exact RFr.refl _ _ _ | refine RFr.uI ?_ (by decide) _ _ | refine RFr.uL ?_ (by decide) _ _ | refine rfr_uO ?_ (by decide) _ _)
        refine ⟨_, ?_, ?_, fun j hj => by rw [f2.i 30 (by decide)]; exact hh j hj, f2.fr (by decide)⟩
        · show f_Ref_slave Γ φ0 r _ _ _ = _
          unfold f_Ref_slave f_Ref_slave_L34
          rw [if_pos hr.rl.o, hri φ0 r hr0, hp, Option.bind_some, if_neg (bt_ne _), show f_Ref_in Γ φ0 (nI i).toInt64 (0 : Int64) (4 : Int64) = _ from e_inN Γ φ0 (nI i) 0 4, hc, Option.bind_some, if_neg (bt_ne _), if_pos hr.rl.o, if_pos hr.rl.o, if_pos (er_0 _ _), rf_9 hr0.rl, Option.bind_some, rg_9 hr0.rl, Option.bind_some, show (5 : Int32) * nI m + nI i = nI (5 * m + i) from by rw [show (5 : Int32) = nI 5 from rfl, zI_mul, zI_add], zix (by omega), Option.bind_some, Option.bind_some, zix (by omega), Option.bind_some, zI_0, ← e0, hr.sp m i (by omega) (by omega), and16]
          rfl
        · refine ⟨(RL.up hr.rl (congrFun f2.1 r)), (by rw [f2.o (by decide)]; exact ⟨hr.sc.nm, hr.sc.ns, hr.sc.lim, hr.sc.pol, hr.sc.whole, hr.sc.time, hr.sc.tk, hr.sc.wm, hr.sc.rm, hr.sc.db, hr.sc.er⟩), (by rw [f2.i 1 (by decide)]; exact hr.pg), (by rw [f2.i 2 (by decide)]; exact hr.mp), ?_, (by rw [f2.i 4 (by decide)]; exact hr.ea), ?_, ?_, (by rw [f2.i 7 (by decide), f2.i 8 (by decide)]; exact hr.me), (by rw [f2.i 9 (by decide), f2.i 10 (by decide), f2.i 11 (by decide), f2.i 12 (by decide), f2.i 13 (by decide), f2.i 14 (by decide), f2.i 15 (by decide), f2.i 16 (by decide), f2.i 17 (by decide), f2.i 18 (by decide), f2.i 20 (by decide), f2.i 21 (by decide), f2.i 22 (by decide), f2.i 23 (by decide), f2.i 24 (by decide), f2.l 19 (by decide), f2.l 25 (by decide)]; exact hr.tk), (by rw [f2.i 26 (by decide), f2.i 27 (by decide), f2.l 28 (by decide), f2.i 29 (by decide)]; exact hr.wi), (by rw [f2.i 31 (by decide)]; exact hr.tr), (by rw [f2.l 32 (by decide), f2.i 33 (by decide), f2.i 34 (by decide), f2.i 35 (by decide)]; exact hr.row), (by rw [f2.i 36 (by decide), f2.i 37 (by decide), f2.i 38 (by decide), f2.i 39 (by decide)]; exact hr.uw), (by rw [f2.i 40 (by decide), f2.i 41 (by decide), f2.i 42 (by decide)]; exact hr.ur), (by rw [f2.i 43 (by decide), f2.i 44 (by decide), f2.i 45 (by decide), f2.i 46 (by decide), f2.i 47 (by decide)]; exact ⟨hr.la.haw, hr.la.har, hr.la.hb, hr.la.hg, hr.la.hinn⟩), (by rw [f2.i 48 (by decide), f2.i 49 (by decide), f2.i 50 (by decide), f2.l 51 (by decide), f2.i 52 (by decide), f2.i 53 (by decide), f2.i 54 (by decide), f2.l 55 (by decide), f2.i 56 (by decide)]; exact hr.sw), (by rw [f2.i 57 (by decide), f2.i 58 (by decide), f2.i 59 (by decide), f2.l 60 (by decide), f2.i 61 (by decide), f2.i 62 (by decide), f2.i 63 (by decide), f2.l 64 (by decide), f2.i 65 (by decide)]; exact hr.sr), (by rw [f2.i 66 (by decide), f2.i 67 (by decide), f2.i 68 (by decide), f2.i 69 (by decide)]; exact ⟨hr.ch.hnums, hr.ch.hlat, hr.ch.hchb, hr.ch.hchr⟩), (by rw [f2.i 70 (by decide), f2.i 71 (by decide)]; exact hr.rg), (by unfold maOf; rw [f2.i 72 (by decide), f2.l 73 (by decide), f2.i 74 (by decide), f2.i 75 (by decide), f2.i 76 (by decide), f2.i 77 (by decide), f2.i 78 (by decide), f2.i 79 (by decide), f2.i 80 (by decide), f2.i 81 (by decide), f2.l 82 (by decide), f2.i 83 (by decide), f2.i 84 (by decide), f2.i 85 (by decide), f2.l 86 (by decide), f2.i 87 (by decide)]; exact hr.mo), (by rw [f2.i 88 (by decide), f2.i 89 (by decide), f2.l 90 (by decide), f2.i 91 (by decide)]; exact hr.wt)⟩
          · rw [uI_s]; exact hr.sp.up (by omega) (by omega)
          · rw [f2.i 5 (by decide)]
            show VN4 _ (va_up S.delay m (S.delay m))
            rw [vz_self]
            exact hr.de
          · rw [f2.i 6 (by decide)]
            show VN4 _ (va_up S.way m (S.way m))
            rw [vz_self]
            exact hr.wa
theorem q_way {Γ : gm_T} {φ : ph_T} {b : Nat} {S : XS} {k : Nat} (h : CV Γ φ b S) (hJ : JI k S) (p d w : Int32) : Face Γ φ b S k (f_Bus_way Γ φ b p d w) (fun φ1 r => f_Ref_way Γ φ1 r p d w) IOB IAE IAE := by
  obtain ⟨g1, g2, g3, g4⟩ := h.reg
  have n4 := h.lay.nm4
  have n5 := h.lay.ns4
  have hn := nIdx Γ φ p (n := S.ns) (by omega) (by omega)
  have hd15 : f_Bus_needNumber Γ φ d (0 : Int32) (15 : Int32) = _ := nNum Γ φ d (lo := 0) (hi := 15) (by decide) (by decide)
  have hw2 : f_Bus_needNumber Γ φ w (0 : Int32) (2 : Int32) = _ := nNum Γ φ w (lo := 0) (hi := 2) (by decide) (by decide)
  have hri : ∀ φ1 r, RV Γ φ1 r S → f_Ref_in Γ φ1 p.toInt64 (0 : Int64) ((φ1.1 r 2).toInt64 - (1 : Int64)) = some (bI (inN p 0 (S.ns - 1)), φ1) := by
    intro φ1 r hr
    rw [hr.sc.ns, nI_64m1 (by omega) (by omega)]
    exact e_inN Γ φ1 p 0 (S.ns - 1)
  have bad : ∀ φ1 r, RV Γ φ1 r S → f_Ref_way_L45 Γ φ1 r p d w r = some (0, uI φ1 r 0 (nI 2)) := by
    intro φ1 r hr
    unfold f_Ref_way_L45 f_Ref_way_L50
    rw [if_pos hr.rl.o, if_pos hr.rl.o, if_neg (er_2 _ _)]
    rfl
  cases hp : inN p 0 (S.ns - 1) with
  | false =>
    refine Face.bad h hJ 1 0 (by decide) (by decide) ?_ (fun φ1 r hr => ⟨0, ?_⟩)
    · unfold f_Bus_way
      rw [if_pos h.lay.o, h.lay.f3, Option.bind_some, h.lay.g3, Option.bind_some, hn, hp]; rfl
    · show f_Ref_way Γ φ1 r p d w = _
      unfold f_Ref_way f_Ref_way_L50
      rw [if_pos hr.rl.o, hri φ1 r hr, hp, Option.bind_some, if_pos (bf_eq _), if_pos hr.rl.o, if_pos hr.rl.o, if_neg (er_1 _ _)]
      rfl
  | true =>
    obtain ⟨m, _, hm, rfl, _⟩ := inN_t (by omega) (by omega) hp
    cases hd : inN d 0 15 with
    | false =>
      refine Face.bad h hJ 2 0 (by decide) (by decide) ?_ (fun φ1 r hr => ⟨0, ?_⟩)
      · unfold f_Bus_way
        rw [if_pos h.lay.o, h.lay.f3, Option.bind_some, h.lay.g3, Option.bind_some, hn, hp, if_pos rfl, bT_l, hd15, hd]; rfl
      · show f_Ref_way Γ φ1 r _ d w = _
        unfold f_Ref_way
        rw [if_pos hr.rl.o, hri φ1 r hr, hp, Option.bind_some, if_neg (bt_ne _), show f_Ref_in Γ φ1 d.toInt64 (0 : Int64) (15 : Int64) = _ from e_inN Γ φ1 d 0 15, hd, Option.bind_some, if_pos (bf_eq _)]
        exact bad φ1 r hr
    | true =>
      obtain ⟨i, _, hi, rfl, _⟩ := inN_t (by decide) (by decide) hd
      cases hw : inN w 0 2 with
      | false =>
        refine Face.bad h hJ 2 0 (by decide) (by decide) ?_ (fun φ1 r hr => ⟨0, ?_⟩)
        · unfold f_Bus_way
          rw [if_pos h.lay.o, h.lay.f3, Option.bind_some, h.lay.g3, Option.bind_some, hn, hp, if_pos rfl, bT_l, hd15, hd, if_pos rfl, bT_l, hw2, hw]; rfl
        · show f_Ref_way Γ φ1 r _ _ w = _
          unfold f_Ref_way
          rw [if_pos hr.rl.o, hri φ1 r hr, hp, Option.bind_some, if_neg (bt_ne _), show f_Ref_in Γ φ1 (nI i).toInt64 (0 : Int64) (15 : Int64) = _ from e_inN Γ φ1 (nI i) 0 15, hd, Option.bind_some, if_neg (bt_ne _), show f_Ref_in Γ φ1 w.toInt64 (0 : Int64) (2 : Int64) = _ from e_inN Γ φ1 w 0 2, hw, Option.bind_some, if_pos (bf_eq _)]
          exact bad φ1 r hr
      | true =>
        obtain ⟨j, _, hj, rfl, _⟩ := inN_t (by decide) (by decide) hw
        have hA := h.sl m (by omega)
        have hmi := sA_in (b := b) (nm := S.nm) (show m < S.ns by omega)
        have hbq : b + 35 ≤ bQ b S.nm S.ns := by unfold bQ; omega
        have f1 : Fr (sAd b S.nm S.ns m) (sAd b S.nm S.ns m + 1) φ (uI (uI φ (sAd b S.nm S.ns m) 6 (nI i)) (sAd b S.nm S.ns m) 7 (nI j)) := fr_uI (fr_uI (Fr.refl _ _ _) (by omega) _ _) (by omega) _ _
        have f := f1.mono (lo' := sAd b S.nm S.ns m) (hi' := sAd b S.nm S.ns m + 32) (by omega) (by omega)
        refine Face.do (S' := ((S.w_spat (va_up S.spat m (S.spat m))).w_delay (va_up S.delay m i)).w_way (va_up S.way m j)) (nI (16 * S.way m + S.delay m)) ?_ ?_ (f.mono (by omega) (by omega)) (hJ.sla (hJ.1.bd.spat m) (by omega) (by omega)) rfl rfl ?_
        · unfold f_Bus_way
          rw [if_pos h.lay.o, h.lay.f3, Option.bind_some, h.lay.g3, Option.bind_some, hn, hp, if_pos rfl, bT_l, hd15, hd, if_pos rfl, bT_l, hw2, hw, if_pos rfl, bT_l, h.lay.f3, Option.bind_some, h.lay.g3, Option.bind_some, zix (by omega), Option.bind_some, h.lay.sl m (by omega), Option.bind_some, if_pos hA.o, hA.wy, hA.dl, show (16 : Int32) = nI 16 from rfl, zI_mul, zI_add]
        · obtain ⟨l1, hw1⟩ := hA.sw
          obtain ⟨l2, hw2⟩ := hA.sr
          refine h.slG (by omega) f ⟨hA.o, hA.f0, hA.f1, hA.f2, hA.f3, hA.f4, hA.f5, hA.g1, hA.g4, hA.g5, ⟨l1, hw1.sm (f1.sm (by omega))⟩, ⟨l2, hw2.sm (f1.sm (by omega))⟩, ?_, ?_, ?_, ?_, ?_, ?_, ?_⟩
          · intro c' hc'
            show _ = nI (va_up S.spat m _ m c')
            rw [f1.i (by omega), vz_same]
            exact hA.pt c' hc'
          · rw [f1.i (by omega), f1.i (by omega)]; exact hA.rg
          · rw [uI_s, uI_s, vz_ne _ (by decide), vz_same]
            show _ = nI (va_up S.delay m i m)
            rw [vz_same]
          · rw [uI_s, vz_same]
            show _ = nI (va_up S.way m j m)
            rw [vz_same]
          · rw [uI_s, uI_s, vz_ne _ (by decide), vz_ne _ (by decide)]; exact hA.cb
          · rw [uI_s, uI_s, vz_ne _ (by decide), vz_ne _ (by decide)]; exact hA.cr
          · rw [uI_s, uI_s, vz_ne _ (by decide), vz_ne _ (by decide)]; exact hA.lt
        · intro φ1 r hr hh he φ0 e0 hr0
          have f2 : RFr r [5, 6] φ1 (uI (uI φ1 (r + 6) m (nI j)) (r + 5) m (nI i)) := by repeat (first | exact RFr.refl _ _ _ | refine RFr.uI ?_ (by decide) _ _ | refine RFr.uL ?_ (by decide) _ _ | refine rfr_uO ?_ (by decide) _ _)
          refine ⟨_, ?_, ?_, fun j hj => by rw [f2.i 30 (by decide)]; exact hh j hj, f2.fr (by decide)⟩
          · show f_Ref_way Γ φ0 r _ _ _ = _
            unfold f_Ref_way f_Ref_way_L50
            rw [if_pos hr.rl.o, hri φ0 r hr0, hp, Option.bind_some, if_neg (bt_ne _), show f_Ref_in Γ φ0 (nI i).toInt64 (0 : Int64) (15 : Int64) = _ from e_inN Γ φ0 (nI i) 0 15, hd, Option.bind_some, if_neg (bt_ne _), show f_Ref_in Γ φ0 (nI j).toInt64 (0 : Int64) (2 : Int64) = _ from e_inN Γ φ0 (nI j) 0 2, hw, Option.bind_some, if_neg (bt_ne _), if_pos hr.rl.o, if_pos hr.rl.o, if_pos (er_0 _ _), rf_12 hr0.rl, Option.bind_some, rg_12 hr0.rl, Option.bind_some, zix (by omega), Option.bind_some, rf_11 hr0.rl, Option.bind_some, rg_11 hr0.rl, Option.bind_some, zix (by omega), Option.bind_some, Option.bind_some, zix (by omega), Option.bind_some, Option.bind_some, zix (by omega), Option.bind_some, zI_0, ← e0, hr.wa m (by omega), hr.de m (by omega), show (16 : Int32) = nI 16 from rfl, zI_mul, zI_add]
            rfl
          · refine ⟨(RL.up hr.rl (congrFun f2.1 r)), (by rw [f2.o (by decide)]; exact ⟨hr.sc.nm, hr.sc.ns, hr.sc.lim, hr.sc.pol, hr.sc.whole, hr.sc.time, hr.sc.tk, hr.sc.wm, hr.sc.rm, hr.sc.db, hr.sc.er⟩), (by rw [f2.i 1 (by decide)]; exact hr.pg), (by rw [f2.i 2 (by decide)]; exact hr.mp), ?_, (by rw [f2.i 4 (by decide)]; exact hr.ea), ?_, ?_, (by rw [f2.i 7 (by decide), f2.i 8 (by decide)]; exact hr.me), (by rw [f2.i 9 (by decide), f2.i 10 (by decide), f2.i 11 (by decide), f2.i 12 (by decide), f2.i 13 (by decide), f2.i 14 (by decide), f2.i 15 (by decide), f2.i 16 (by decide), f2.i 17 (by decide), f2.i 18 (by decide), f2.i 20 (by decide), f2.i 21 (by decide), f2.i 22 (by decide), f2.i 23 (by decide), f2.i 24 (by decide), f2.l 19 (by decide), f2.l 25 (by decide)]; exact hr.tk), (by rw [f2.i 26 (by decide), f2.i 27 (by decide), f2.l 28 (by decide), f2.i 29 (by decide)]; exact hr.wi), (by rw [f2.i 31 (by decide)]; exact hr.tr), (by rw [f2.l 32 (by decide), f2.i 33 (by decide), f2.i 34 (by decide), f2.i 35 (by decide)]; exact hr.row), (by rw [f2.i 36 (by decide), f2.i 37 (by decide), f2.i 38 (by decide), f2.i 39 (by decide)]; exact hr.uw), (by rw [f2.i 40 (by decide), f2.i 41 (by decide), f2.i 42 (by decide)]; exact hr.ur), (by rw [f2.i 43 (by decide), f2.i 44 (by decide), f2.i 45 (by decide), f2.i 46 (by decide), f2.i 47 (by decide)]; exact ⟨hr.la.haw, hr.la.har, hr.la.hb, hr.la.hg, hr.la.hinn⟩), (by rw [f2.i 48 (by decide), f2.i 49 (by decide), f2.i 50 (by decide), f2.l 51 (by decide), f2.i 52 (by decide), f2.i 53 (by decide), f2.i 54 (by decide), f2.l 55 (by decide), f2.i 56 (by decide)]; exact hr.sw), (by rw [f2.i 57 (by decide), f2.i 58 (by decide), f2.i 59 (by decide), f2.l 60 (by decide), f2.i 61 (by decide), f2.i 62 (by decide), f2.i 63 (by decide), f2.l 64 (by decide), f2.i 65 (by decide)]; exact hr.sr), (by rw [f2.i 66 (by decide), f2.i 67 (by decide), f2.i 68 (by decide), f2.i 69 (by decide)]; exact ⟨hr.ch.hnums, hr.ch.hlat, hr.ch.hchb, hr.ch.hchr⟩), (by rw [f2.i 70 (by decide), f2.i 71 (by decide)]; exact hr.rg), (by unfold maOf; rw [f2.i 72 (by decide), f2.l 73 (by decide), f2.i 74 (by decide), f2.i 75 (by decide), f2.i 76 (by decide), f2.i 77 (by decide), f2.i 78 (by decide), f2.i 79 (by decide), f2.i 80 (by decide), f2.i 81 (by decide), f2.l 82 (by decide), f2.i 83 (by decide), f2.i 84 (by decide), f2.i 85 (by decide), f2.l 86 (by decide), f2.i 87 (by decide)]; exact hr.mo), (by rw [f2.i 88 (by decide), f2.i 89 (by decide), f2.l 90 (by decide), f2.i 91 (by decide)]; exact hr.wt)⟩
            · rw [f2.i 3 (by decide)]
              show VPat _ (va_up S.spat m (S.spat m))
              rw [vz_self]
              exact hr.sp
            · rw [uI_s, uI_1, if_neg (by omega)]; exact hr.de.up m i
            · rw [uI_1, if_neg (by omega), uI_s]; exact hr.wa.up m j
