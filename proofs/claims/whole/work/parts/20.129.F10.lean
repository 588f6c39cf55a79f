/-! THE FACE: watchers are told, and begin again -/
theorem h4 {n : Nat} (h : n ≤ 3) : n = 0 ∨ n = 1 ∨ n = 2 ∨ n = 3 := by omega
theorem c_see55 {Γ : gm_T} {φ : ph_T} {a c n : Nat} {x : WI} {hd : Nat → Bool} {tr : Nat → Int32} (h : CPt Γ φ a x hd tr) (hc : c < 5) (hn : n ≤ 3) : f_Bus_see_L55 Γ φ (nI c) (nI n) (some a) = some (.inl (), uI φ (a + 2) c (bI (decide (2 ≤ n)))) := by
  have key : ∀ y0 : Int32, (y0 = 0 ∨ y0 = 1) → f_Bus_see_L72 Γ φ y0 (nI c) (some (a + 2)) = some (.inl (), uI φ (a + 2) c y0) := by
    intro y0 hy
    unfold f_Bus_see_L72
    rw [Option.bind_some, h.g1, Option.bind_some, zix (by omega), Option.bind_some, if_pos hy]
  unfold f_Bus_see_L55
  rw [Option.bind_some, if_pos h.o, h.f1, key _ (by decide), key _ (by decide)]
  rcases h4 hn with rfl | rfl | rfl | rfl
  · rw [if_pos (by decide)]; rfl
  · rw [if_pos (by decide)]; rfl
  · rw [if_neg (by decide)]; rfl
  · rw [if_neg (by decide)]; rfl
theorem seeW_eq (x : WI) (c : Nat) (v : WV) (rd : Bool) : ((x.sil c).snd' c v).rdy c rd = seeW x c v rd := by
  unfold WI.sil WI.snd' WI.rdy seeW
  show ((va_up (va_up x.w c WV0) c v, va_up (va_up x.rd c false) c rd) : (Nat → WV) × (Nat → Bool)) = _
  rw [vz_va, vz_va]
theorem seeW_e0 (x : WI) (c : Nat) (rd : Bool) : (x.sil c).rdy c rd = seeW x c WV0 rd := by
  unfold WI.sil WI.rdy seeW
  show ((va_up x.w c WV0, va_up (va_up x.rd c false) c rd) : (Nat → WV) × (Nat → Bool)) = _
  rw [vz_va]
theorem q_see {Γ : gm_T} {φ : ph_T} {b : Nat} {S : XS} {k : Nat} (h : CV Γ φ b S) (hJ : JI k S) (p c n : Int32) (ct : Int64) (rs : Int32) : Face Γ φ b S k (f_Bus_see Γ φ b p c n ct rs) (fun φ1 r => f_Ref_see Γ φ1 r p c n ct rs) IOB IAE IAE := by
  obtain ⟨g1, g2, g3, g4⟩ := h.reg
  have n4 := h.lay.nm4
  have n5 := h.lay.ns4
  have hbq : b + 35 ≤ bQ b S.nm S.ns := by unfold bQ; omega
  have hn : f_Bus_needIndex Γ φ p (2 : Int32) = _ := nIdx Γ φ p (n := 2) (by decide) (by decide)
  have hc5 : f_Bus_needIndex Γ φ c (5 : Int32) = _ := nIdx Γ φ c (n := 5) (by decide) (by decide)
  have hh3 : f_Bus_needNumber Γ φ n (0 : Int32) (3 : Int32) = _ := nNum Γ φ n (lo := 0) (hi := 3) (by decide) (by decide)
  have hr9 : f_Bus_needNumber Γ φ rs (0 : Int32) (511 : Int32) = _ := nNum Γ φ rs (lo := 0) (hi := 511) (by decide) (by decide)
  have bad1 : ∀ φ1 r, RV Γ φ1 r S → f_Ref_see_L20 Γ φ1 r p c n ct rs r = some ((), uI φ1 r 0 (nI 1)) := by
    intro φ1 r hr
    unfold f_Ref_see_L20 f_Ref_see_L54
    rw [if_pos hr.rl.o, if_pos hr.rl.o, if_neg (er_1 _ _)]
    rfl
  have bad2 : ∀ φ1 r, RV Γ φ1 r S → f_Ref_see_L49 Γ φ1 r p c n ct rs r = some ((), uI φ1 r 0 (nI 2)) := by
    intro φ1 r hr
    unfold f_Ref_see_L49 f_Ref_see_L54
    rw [if_pos hr.rl.o, if_pos hr.rl.o, if_neg (er_2 _ _)]
    rfl
  cases hp : inN p 0 1 with
  | false =>
    refine Face.bad h hJ 1 () (by decide) (by decide) ?_ (fun φ1 r hr => ⟨(), ?_⟩)
    · unfold f_Bus_see
      rw [hn, show inN p 0 (2 - 1) = false from hp]; rfl
    · show f_Ref_see Γ φ1 r p c n ct rs = _
      unfold f_Ref_see
      rw [r_isWatcher, hp, Option.bind_some, if_pos (bf_eq _)]
      exact bad1 φ1 r hr
  | true =>
  obtain ⟨i, _, hi, rfl, _⟩ := inN_t (by decide) (by decide) hp
  cases hc : inN c 0 4 with
  | false =>
    refine Face.bad h hJ 1 () (by decide) (by decide) ?_ (fun φ1 r hr => ⟨(), ?_⟩)
    · unfold f_Bus_see
      rw [hn, show inN (nI i) 0 (2 - 1) = true from hp, if_pos rfl, bT_l, hc5, show inN c 0 (5 - 1) = false from hc]; rfl
    · show f_Ref_see Γ φ1 r _ c n ct rs = _
      unfold f_Ref_see
      rw [r_isWatcher, hp, Option.bind_some, if_neg (bt_ne _), show f_Ref_in Γ φ1 c.toInt64 (0 : Int64) (4 : Int64) = _ from e_inN Γ φ1 c 0 4, hc, Option.bind_some, if_pos (bf_eq _)]
      exact bad1 φ1 r hr
  | true =>
  obtain ⟨j, _, hj, rfl, _⟩ := inN_t (by decide) (by decide) hc
  cases hm : inN n 0 3 with
  | false =>
    refine Face.bad h hJ 2 () (by decide) (by decide) ?_ (fun φ1 r hr => ⟨(), ?_⟩)
    · unfold f_Bus_see
      rw [hn, show inN (nI i) 0 (2 - 1) = true from hp, if_pos rfl, bT_l, hc5, show inN (nI j) 0 (5 - 1) = true from hc, if_pos rfl, bT_l, hh3, hm]; rfl
    · show f_Ref_see Γ φ1 r _ _ n ct rs = _
      unfold f_Ref_see
      rw [r_isWatcher, hp, Option.bind_some, if_neg (bt_ne _), show f_Ref_in Γ φ1 (nI j).toInt64 (0 : Int64) (4 : Int64) = _ from e_inN Γ φ1 (nI j) 0 4, hc, Option.bind_some, if_neg (bt_ne _), show f_Ref_in Γ φ1 n.toInt64 (0 : Int64) (3 : Int64) = _ from e_inN Γ φ1 n 0 3, hm, Option.bind_some, if_pos (bf_eq _)]
      exact bad2 φ1 r hr
  | true =>
  obtain ⟨q, _, hq, rfl, _⟩ := inN_t (by decide) (by decide) hm
  cases hrr : inN rs 0 511 with
  | false =>
    refine Face.bad h hJ 2 () (by decide) (by decide) ?_ (fun φ1 r hr => ⟨(), ?_⟩)
    · unfold f_Bus_see
      rw [hn, show inN (nI i) 0 (2 - 1) = true from hp, if_pos rfl, bT_l, hc5, show inN (nI j) 0 (5 - 1) = true from hc, if_pos rfl, bT_l, hh3, hm, if_pos rfl, bT_l, hr9, hrr]; rfl
    · show f_Ref_see Γ φ1 r _ _ _ ct rs = _
      unfold f_Ref_see
      rw [r_isWatcher, hp, Option.bind_some, if_neg (bt_ne _), show f_Ref_in Γ φ1 (nI j).toInt64 (0 : Int64) (4 : Int64) = _ from e_inN Γ φ1 (nI j) 0 4, hc, Option.bind_some, if_neg (bt_ne _), show f_Ref_in Γ φ1 (nI q).toInt64 (0 : Int64) (3 : Int64) = _ from e_inN Γ φ1 (nI q) 0 3, hm, Option.bind_some, if_neg (bt_ne _), show f_Ref_in Γ φ1 rs.toInt64 (0 : Int64) (511 : Int64) = _ from e_inN Γ φ1 rs 0 511, hrr, Option.bind_some, if_pos (bf_eq _)]
      exact bad2 φ1 r hr
  | true =>
  have hok : okP S.nm S.ns (8 + i) := Or.inr (Or.inr (by omega))
  have pin := pA_in (b := b) n4.2 n5.2 hok
  obtain ⟨hd, hP⟩ := h.po (8 + i) hok
  have hM := h.mo (8 + i) hok
  have hB0 : f_Bus_see Γ φ b (nI i) (nI j) (nI q) ct rs = Option.bind (f_Port_silence Γ φ (pAd b S.nm S.ns (8 + i)) (nI j)) fun q30 => if (nI q &&& (1 : Int32)) = 0 then f_Bus_see_L55 Γ q30.2 (nI j) (nI q) (some (pAd b S.nm S.ns (8 + i))) else Option.bind (f_Port_send Γ q30.2 (pAd b S.nm S.ns (8 + i)) (nI j) ct rs) fun q31 => f_Bus_see_L55 Γ q31.2 (nI j) (nI q) (some (pAd b S.nm S.ns (8 + i))) := by
    unfold f_Bus_see
    rw [hn, show inN (nI i) 0 (2 - 1) = true from hp, if_pos rfl, bT_l, hc5, show inN (nI j) 0 (5 - 1) = true from hc, if_pos rfl, bT_l, hh3, hm, if_pos rfl, bT_l, hr9, hrr, if_pos rfl, bT_l, if_pos h.lay.o, h.lay.f6, Option.bind_some, h.lay.g6, Option.bind_some, zix (by omega), Option.bind_some, h.lay.wp i (by omega), Option.bind_some, if_pos hP.o]
  have hB : ∃ φ', f_Bus_see Γ φ b (nI i) (nI j) (nI q) ct rs = some (.inl (), φ') ∧ CPt Γ φ' (pAd b S.nm S.ns (8 + i)) (seeW (S.wi (8 + i)) j (if q % 2 = 1 then ⟨true, ct, rs⟩ else WV0) (decide (2 ≤ q))) hd (S.tr (8 + i)) ∧ Fr (pAd b S.nm S.ns (8 + i)) (pAd b S.nm S.ns (8 + i) + 7) φ φ' := by
    obtain ⟨φ1, a1, a2, a3⟩ := c_silence hP (c := j) (by omega)
    rw [hB0, a1, Option.bind_some]
    by_cases hodd : q % 2 = 1
    · obtain ⟨φ2, b1, b2, b3⟩ := c_send a2 (c := j) (by omega) ct rs
      obtain ⟨d1, d2⟩ := c_rdy b2 (c := j) (by omega) (decide (2 ≤ q))
      refine ⟨_, ?_, ?_, a3.trans (b3.trans d2)⟩
      · have : ¬ nI q &&& (1 : Int32) = 0 := by rcases h4 hq with rfl | rfl | rfl | rfl <;> first | (exfalso; omega) | decide
        rw [if_neg this, b1, Option.bind_some]
        exact c_see55 b2 (by omega) hq
      · rw [seeW_eq] at d1
        rw [if_pos hodd]
        exact d1
    · obtain ⟨d1, d2⟩ := c_rdy a2 (c := j) (by omega) (decide (2 ≤ q))
      refine ⟨_, ?_, ?_, a3.trans d2⟩
      · have : nI q &&& (1 : Int32) = 0 := by rcases h4 hq with rfl | rfl | rfl | rfl <;> first | (exfalso; omega) | decide
        rw [if_pos this]
        exact c_see55 a2 (by omega) hq
      · rw [seeW_e0] at d1
        rw [if_neg hodd]
        exact d1
  obtain ⟨φ', a1, a2, a3⟩ := hB
  generalize hv : (if q % 2 = 1 then (⟨true, ct, rs⟩ : WV) else WV0) = v at a2
  have f := a3.mono (lo' := pAd b S.nm S.ns (8 + i)) (hi' := pAd b S.nm S.ns (8 + i) + 111) (by omega) (by omega)
  refine Face.do (S' := ((S.w_wi (va_up S.wi (8 + i) (seeW (S.wi (8 + i)) j v (decide (2 ≤ q))))).w_tr (va_up S.tr (8 + i) (S.tr (8 + i)))).w_mon (va_up S.mon (8 + i) (S.mon (8 + i)))) () a1 (h.port hok f a2 (hM.sm (a3.sm (by omega)))) (f.mono (by omega) (by omega)) (hJ.wat (by omega) _ _ (hJ.1.mo (8 + i))) rfl rfl ?_
  intro φ1 r hr hh he φ0 e0 hr0
  obtain ⟨d1, d2⟩ := r_seeW hr (w := i) (c := j) (by omega) (by omega) v (decide (2 ≤ q))
  refine ⟨_, ?_, ?_, He.wat (S := S) (fun j hj => by rw [d2.i 30 (by decide)]; exact hh j hj) rfl rfl (fun q hq => vz_ne _ (by omega)), d2.fr (by decide)⟩
  · show f_Ref_see Γ φ0 r _ _ _ ct rs = _
    unfold f_Ref_see f_Ref_see_L54 f_Ref_see_L90 f_Ref_see_L107 f_Ref_see_L130 f_Ref_see_L153
    rw [r_isWatcher, hp, Option.bind_some, if_neg (bt_ne _), show f_Ref_in Γ φ0 (nI j).toInt64 (0 : Int64) (4 : Int64) = _ from e_inN Γ φ0 (nI j) 0 4, hc, Option.bind_some, if_neg (bt_ne _), show f_Ref_in Γ φ0 (nI q).toInt64 (0 : Int64) (3 : Int64) = _ from e_inN Γ φ0 (nI q) 0 3, hm, Option.bind_some, if_neg (bt_ne _), show f_Ref_in Γ φ0 rs.toInt64 (0 : Int64) (511 : Int64) = _ from e_inN Γ φ0 rs 0 511, hrr, Option.bind_some, if_neg (bt_ne _)]
    simp only [hr.rl.o, if_true]
    rw [if_pos (er_0 _ _), if_neg (by decide), zI_0, ← e0, show (5 : Int32) * nI i + nI j = nI (5 * i + j) from by rw [show (5 : Int32) = nI 5 from rfl, zI_mul, zI_add]]
    rw [show φ0.2.2 = φ1.2.2 from by rw [e0]; rfl]
    have hix : ix (nI (5 * i + j)) 10 = some (5 * i + j) := zix (by omega)
    simp only [rf_98 hr.rl, rg_98 hr.rl, rf_99 hr.rl, rg_99 hr.rl, rf_100 hr.rl, rg_100 hr.rl, rf_101 hr.rl, rg_101 hr.rl, Option.bind_some, hix, uI_3, uL_3]
    have hz : ∀ (v2 v3 : Int32), (uI (uI φ1 (r + 88) (5 * i + j) v2) (r + 89) (5 * i + j) v3).1 (r + 88) (5 * i + j) = v2 := by
      intro v2 v3
      rw [uI_1, if_neg (by omega), uI_s, vz_same]
    simp only [uL_1, hz]
    unfold seeφ
    rcases h4 hq with rfl | rfl | rfl | rfl
    · have hvv : v = WV0 := by rw [← hv]; rfl
      subst hvv
      rw [if_neg (by decide), if_pos (by decide), if_pos (by decide), if_pos (by decide), if_pos (by decide)]; rfl
    · have hvv : v = ⟨true, ct, rs⟩ := by rw [← hv]; rfl
      subst hvv
      rw [if_pos (by decide), if_pos (by decide), if_pos (by decide), if_pos (by decide), if_neg (by decide)]; rfl
    · have hvv : v = WV0 := by rw [← hv]; rfl
      subst hvv
      rw [if_neg (by decide), if_pos (by decide), if_neg (by decide), if_pos (by decide), if_pos (by decide)]; rfl
    · have hvv : v = ⟨true, ct, rs⟩ := by rw [← hv]; rfl
      subst hvv
      rw [if_pos (by decide), if_pos (by decide), if_neg (by decide), if_pos (by decide), if_neg (by decide)]; rfl
  · have hV : RV Γ (seeφ φ1 r (5 * i + j) v (decide (2 ≤ q))) r ((S.w_err 0).w_wi (va_up S.wi (8 + i) (seeW (S.wi (8 + i)) j v (decide (2 ≤ q))))) := d1
    have f0 : RFr r [] (seeφ φ1 r (5 * i + j) v (decide (2 ≤ q))) (seeφ φ1 r (5 * i + j) v (decide (2 ≤ q))) := RFr.refl _ _ _
    refine ⟨(RL.up hV.rl (congrFun f0.1 r)), (by rw [f0.o (by decide)]; exact ⟨hV.sc.nm, hV.sc.ns, hV.sc.lim, hV.sc.pol, hV.sc.whole, hV.sc.time, hV.sc.tk, hV.sc.wm, hV.sc.rm, hV.sc.db, hV.sc.er⟩), (by rw [f0.i 1 (by decide)]; exact hV.pg), (by rw [f0.i 2 (by decide)]; exact hV.mp), (by rw [f0.i 3 (by decide)]; exact hV.sp), (by rw [f0.i 4 (by decide)]; exact hV.ea), (by rw [f0.i 5 (by decide)]; exact hV.de), (by rw [f0.i 6 (by decide)]; exact hV.wa), (by rw [f0.i 7 (by decide), f0.i 8 (by decide)]; exact hV.me), (by rw [f0.i 9 (by decide), f0.i 10 (by decide), f0.i 11 (by decide), f0.i 12 (by decide), f0.i 13 (by decide), f0.i 14 (by decide), f0.i 15 (by decide), f0.i 16 (by decide), f0.i 17 (by decide), f0.i 18 (by decide), f0.i 20 (by decide), f0.i 21 (by decide), f0.i 22 (by decide), f0.i 23 (by decide), f0.i 24 (by decide), f0.l 19 (by decide), f0.l 25 (by decide)]; exact hV.tk), (by rw [f0.i 26 (by decide), f0.i 27 (by decide), f0.l 28 (by decide), f0.i 29 (by decide)]; exact hV.wi), ?_, (by rw [f0.l 32 (by decide), f0.i 33 (by decide), f0.i 34 (by decide), f0.i 35 (by decide)]; exact hV.row), (by rw [f0.i 36 (by decide), f0.i 37 (by decide), f0.i 38 (by decide), f0.i 39 (by decide)]; exact hV.uw), (by rw [f0.i 40 (by decide), f0.i 41 (by decide), f0.i 42 (by decide)]; exact hV.ur), (by rw [f0.i 43 (by decide), f0.i 44 (by decide), f0.i 45 (by decide), f0.i 46 (by decide), f0.i 47 (by decide)]; exact ⟨hV.la.haw, hV.la.har, hV.la.hb, hV.la.hg, hV.la.hinn⟩), (by rw [f0.i 48 (by decide), f0.i 49 (by decide), f0.i 50 (by decide), f0.l 51 (by decide), f0.i 52 (by decide), f0.i 53 (by decide), f0.i 54 (by decide), f0.l 55 (by decide), f0.i 56 (by decide)]; exact hV.sw), (by rw [f0.i 57 (by decide), f0.i 58 (by decide), f0.i 59 (by decide), f0.l 60 (by decide), f0.i 61 (by decide), f0.i 62 (by decide), f0.i 63 (by decide), f0.l 64 (by decide), f0.i 65 (by decide)]; exact hV.sr), (by rw [f0.i 66 (by decide), f0.i 67 (by decide), f0.i 68 (by decide), f0.i 69 (by decide)]; exact ⟨hV.ch.hnums, hV.ch.hlat, hV.ch.hchb, hV.ch.hchr⟩), (by rw [f0.i 70 (by decide), f0.i 71 (by decide)]; exact hV.rg), ?_, (by rw [f0.i 88 (by decide), f0.i 89 (by decide), f0.l 90 (by decide), f0.i 91 (by decide)]; exact hV.wt)⟩
    · show VTr _ (va_up S.tr (8 + i) (S.tr (8 + i)))
      rw [vz_self]
      exact hV.tr
    · show VMo _ (va_up S.mon (8 + i) (S.mon (8 + i)))
      rw [vz_self]
      exact hV.mo
/-- a port of the class begins again -/
theorem c_preset_L {Γ : gm_T} {a : Nat} {x : WI} : ∀ (d i fu : Nat) (φ : ph_T) (hd : Nat → Bool) (tr : Nat → Int32), i + d = 5 → d < fu → CPt Γ φ a x hd tr →
    ∃ φ', f_Port_reset_L6 Γ fu φ a (nI i) = f_Port_reset_L6 Γ 1 φ' a (nI 5) ∧ CPt Γ φ' a x (fun c => if i ≤ c then false else hd c) (fun c => if i ≤ c then 0 else tr c) ∧ Fr a (a + 7) φ φ' := by
  intro d
  induction d with
  | zero =>
    intro i fu φ hd tr hdd hfu h
    match fu, hfu with
    | fu + 1, _ =>
      have hi : i = 5 := by omega
      subst hi
      refine ⟨φ, ?_, ?_, Fr.refl _ _ _⟩
      · show f_Port_reset_L6 Γ (fu + 1) φ a (nI 5) = f_Port_reset_L6 Γ (0 + 1) φ a (nI 5)
        simp only [f_Port_reset_L6]
        rw [if_pos (show (5 : Int32) ≤ nI 5 by decide), if_pos (show (5 : Int32) ≤ nI 5 by decide)]
      · refine ⟨h.o, h.f0, h.f1, h.f2, h.f3, h.f4, h.f5, h.f6, h.g0, h.g1, h.g2, h.g3, h.g4, h.g5, h.w, fun c hc => ?_, fun c hc => ?_⟩
        · show _ = bI (if 5 ≤ c then false else hd c)
          rw [if_neg (by omega)]; exact h.hd c hc
        · show _ = (if 5 ≤ c then 0 else tr c)
          rw [if_neg (by omega)]; exact h.tr c hc
  | succ d ih =>
    intro i fu φ hd tr hdd hfu h
    match fu, hfu with
    | fu + 1, hfu =>
      have f1 : Fr a (a + 7) φ (uI (uI φ (a + 3) i (0 : Int32)) (a + 6) i (0 : Int32)) := fr_uI (fr_uI (Fr.refl _ _ _) (by omega) _ _) (by omega) _ _
      have h1 : CPt Γ (uI (uI φ (a + 3) i (0 : Int32)) (a + 6) i (0 : Int32)) a x (va_up hd i false) (va_up tr i 0) := by
        refine ⟨h.o, h.f0, h.f1, h.f2, h.f3, h.f4, h.f5, h.f6, h.g0, h.g1, h.g2, h.g3, h.g4, h.g5, fun c hc => ?_, fun c hc => ?_, fun c hc => ?_⟩
        · have := h.w c hc
          rw [uI_1, if_neg (by omega), uI_1, if_neg (by omega), uI_1, if_neg (by omega), uI_1, if_neg (by omega), uI_1, if_neg (by omega), uI_1, if_neg (by omega)]
          exact this
        · rw [uI_1, if_neg (by omega), uI_s, vz_at, vz_at]
          by_cases e : c = i
          · rw [if_pos e, if_pos e]; rfl
          · rw [if_neg e, if_neg e]; exact h.hd c hc
        · rw [uI_s, uI_1, if_neg (by omega), vz_at, vz_at]
          by_cases e : c = i
          · rw [if_pos e, if_pos e]
          · rw [if_neg e, if_neg e]; exact h.tr c hc
      obtain ⟨φ', b1, b2, b3⟩ := ih (i + 1) fu _ _ _ (by omega) (by omega) h1
      refine ⟨φ', ?_, ?_, f1.trans b3⟩
      · rw [f_Port_reset_L6, if_neg (by rw [show (5 : Int32) = nI 5 from rfl, zI_le (by omega) (by omega)]; omega), if_pos h.o, h.f2, Option.bind_some, h.g2, Option.bind_some, zix (by omega), Option.bind_some, if_pos (by decide), h.f5, Option.bind_some, h.g5, Option.bind_some, zix (by omega), Option.bind_some, show nI i + (1 : Int32) = nI (i + 1) from by rw [zI_1, zI_add]]
        exact b1
      · refine ⟨b2.o, b2.f0, b2.f1, b2.f2, b2.f3, b2.f4, b2.f5, b2.f6, b2.g0, b2.g1, b2.g2, b2.g3, b2.g4, b2.g5, b2.w, fun c hc => ?_, fun c hc => ?_⟩
        · have := b2.hd c hc
          rw [this]
          show bI (if i + 1 ≤ c then false else va_up hd i false c) = bI (if i ≤ c then false else hd c)
          rw [vz_at]
          by_cases e : c = i
          · rw [if_neg (by omega), if_pos e, if_pos (by omega)]
          · by_cases g : i + 1 ≤ c
            · rw [if_pos g, if_pos (by omega)]
            · rw [if_neg g, if_neg e, if_neg (by omega)]
        · have := b2.tr c hc
          rw [this]
          show (if i + 1 ≤ c then 0 else va_up tr i 0 c) = (if i ≤ c then 0 else tr c)
          rw [vz_at]
          by_cases e : c = i
          · rw [if_neg (by omega), if_pos e, if_pos (by omega)]
          · by_cases g : i + 1 ≤ c
            · rw [if_pos g, if_pos (by omega)]
            · rw [if_neg g, if_neg e, if_neg (by omega)]
theorem c_preset {Γ : gm_T} {φ : ph_T} {a : Nat} {x : WI} {hd : Nat → Bool} {tr : Nat → Int32} {o : MO} (h : CPt Γ φ a x hd tr) (hM : CMo Γ φ (a + 7) o) :
    ∃ φ', f_Port_reset Γ φ a = some ((), φ') ∧ CPt Γ φ' a WI0 (fun _ => false) (fun _ => 0) ∧ CMo Γ φ' (a + 7) MO0 ∧ Fr a (a + 111) φ φ' := by
  obtain ⟨φ1, a1, a2, a3⟩ := c_silAll h
  obtain ⟨φ2, b1, b2, b3⟩ := c_preset_L 5 0 jF φ1 _ _ rfl (by unfold jF; omega) a2
  have hM2 := (hM.sm (a3.sm (by omega))).sm (b3.sm (by omega))
  obtain ⟨φ3, c1, c2, c3⟩ := c_mreset hM2
  have hP3 := b2.sm (c3.sm (by omega))
  refine ⟨φ3, ?_, ?_, c2, (a3.mono (by omega) (by omega)).trans ((b3.mono (by omega) (by omega)).trans (c3.mono (by omega) (by omega)))⟩
  · unfold f_Port_reset
    rw [if_pos h.o, a1, Option.bind_some, zI_0]
    show f_Port_reset_L6 Γ jF φ1 a (nI 0) = _
    rw [b1, f_Port_reset_L6, if_pos (by decide), if_pos h.o, b2.f6, Option.bind_some, if_pos hM.o, c1]
    rfl
  · refine ⟨hP3.o, hP3.f0, hP3.f1, hP3.f2, hP3.f3, hP3.f4, hP3.f5, hP3.f6, hP3.g0, hP3.g1, hP3.g2, hP3.g3, hP3.g4, hP3.g5, hP3.w, fun c hc => ?_, fun c hc => ?_⟩
    · have := hP3.hd c hc
      rw [this, if_pos (Nat.zero_le _)]
    · have := hP3.tr c hc
      rw [this, if_pos (Nat.zero_le _)]
/-- what a monitor forgets -/
def MO.beg (o : MO) : MO := ((MO0.w_hc (o.hc)).w_hr (o.hr))
theorem CMo.beg {Γ : gm_T} {φ : ph_T} {b : Nat} (h : CMo Γ φ b MO0) (o : MO) : CMo Γ φ b o.beg :=
  ⟨h.o, h.f0, h.f1, h.f2, h.f3, h.f4, h.g2, h.g3, h.g4, h.ws, h.rs, fun c hc => ⟨(h.hel c hc).1, fun e => by cases e⟩, h.rul, h.cha, h.tic, h.tks, h.rl⟩
theorem rsOk_beg (o : MO) : rsOk o.beg.rs := fun e he => by cases he
/-- a monitor of the reference begins again -/
theorem r_bm_L {Γ : gm_T} {r p : Nat} (hp : p < 10) : ∀ (d i fu : Nat) (φ : ph_T), i + d = 5 → d < fu → RL Γ φ r →
    ∃ φ', f_Ref_beginMonitor_L44 Γ fu φ r (nI p) (nI i) = some ((), φ') ∧ RFr r [72] φ φ' ∧ ∀ q c, c < 5 → φ'.1 (r + 72) (5 * q + c) = if q = p ∧ i ≤ c then 0 else φ.1 (r + 72) (5 * q + c) := by
  intro d
  induction d with
  | zero =>
    intro i fu φ hd hfu h
    match fu, hfu with
    | fu + 1, _ =>
      refine ⟨φ, ?_, RFr.refl _ _ _, fun q c hc => ?_⟩
      · rw [f_Ref_beginMonitor_L44, if_pos (by rw [show (5 : Int32) = nI 5 from rfl, zI_le (by omega) (by omega)]; omega)]
      · rw [if_neg (by omega)]
  | succ d ih =>
    intro i fu φ hd hfu h
    match fu, hfu with
    | fu + 1, hfu =>
      have f1 : RFr r [72] φ (uI φ (r + 72) (5 * p + i) (0 : Int32)) := by repeat (first | exact RFr.refl _ _ _ | refine RFr.uI ?_ (by decide) _ _ | refine RFr.uL ?_ (by decide) _ _ | refine rfr_uO ?_ (by decide) _ _)
      obtain ⟨φ', b1, b2, b3⟩ := ih (i + 1) fu (uI φ (r + 72) (5 * p + i) (0 : Int32)) (by omega) (by omega) (h.up (congrFun f1.1 r))
      refine ⟨φ', ?_, f1.trans b2, fun q c hc => ?_⟩
      · rw [f_Ref_beginMonitor_L44, if_neg (by rw [show (5 : Int32) = nI 5 from rfl, zI_le (by omega) (by omega)]; omega), if_pos h.o, rf_82 h, Option.bind_some, rg_82 h, Option.bind_some, show (5 : Int32) * nI p + nI i = nI (5 * p + i) from by rw [show (5 : Int32) = nI 5 from rfl, zI_mul, zI_add], zix (by omega), Option.bind_some, if_pos (by decide), show nI i + (1 : Int32) = nI (i + 1) from by rw [zI_1, zI_add]]
        exact b1
      · rw [b3 q c hc, uI_s, vz_at]
        by_cases e : 5 * q + c = 5 * p + i
        · rw [if_pos e, if_pos (show q = p ∧ i ≤ c by omega)]
          split <;> rfl
        · rw [if_neg e]
          by_cases g : q = p ∧ i + 1 ≤ c
          · rw [if_pos g, if_pos (by omega)]
          · rw [if_neg g, if_neg (by omega)]
theorem r_beginMon {Γ : gm_T} {φ : ph_T} {r p : Nat} {S : XS} (hp : p < 10) (h : RV Γ φ r S) : ∃ φ', f_Ref_beginMonitor Γ φ r (nI p) = some ((), φ') ∧ RV Γ φ' r (S.setM p (S.mon p).beg) ∧ RFr r kMo φ φ' := by
  have f0 : RFr r kMo φ (uI (uI (uI (uI (uI (uI φ (r + 75) p (0 : Int32)) (r + 76) p (0 : Int32)) (r + 77) p (-1 : Int32)) (r + 78) p (-1 : Int32)) (r + 79) p (0 : Int32)) (r + 80) p (0 : Int32)) := by repeat (first | exact RFr.refl _ _ _ | refine RFr.uI ?_ (by decide) _ _ | refine RFr.uL ?_ (by decide) _ _ | refine rfr_uO ?_ (by decide) _ _)
  obtain ⟨φ', a1, a2, a3⟩ := r_bm_L (Γ := Γ) (r := r) hp 5 0 jF _ rfl (by unfold jF; omega) (h.rl.up (congrFun f0.1 r))
  have f : RFr r kMo φ φ' := f0.trans (a2.mono (by decide))
  refine ⟨φ', ?_, ?_, f⟩
  · unfold f_Ref_beginMonitor
    simp only [h.rl.o, if_true, rf_85 h.rl, rg_85 h.rl, rf_86 h.rl, rg_86 h.rl, rf_87 h.rl, rg_87 h.rl, rf_88 h.rl, rg_88 h.rl, rf_89 h.rl, rg_89 h.rl, rf_90 h.rl, rg_90 h.rl, Option.bind_some, zix (show p < 10 from hp)]
    exact a1
  · refine h.setM_mo f ?_
    intro q hq
    have hv := h.mo q hq
    have e75 : φ'.1 (r + 75) = va_up (φ.1 (r + 75)) p 0 := by
      rw [a2.i 75 (by decide), uI_1, if_neg (by omega), uI_1, if_neg (by omega), uI_1, if_neg (by omega), uI_1, if_neg (by omega), uI_1, if_neg (by omega), uI_s]
    have e76 : φ'.1 (r + 76) = va_up (φ.1 (r + 76)) p 0 := by
      rw [a2.i 76 (by decide), uI_1, if_neg (by omega), uI_1, if_neg (by omega), uI_1, if_neg (by omega), uI_1, if_neg (by omega), uI_s, uI_1, if_neg (by omega)]
    have e77 : φ'.1 (r + 77) = va_up (φ.1 (r + 77)) p (-1) := by
      rw [a2.i 77 (by decide), uI_1, if_neg (by omega), uI_1, if_neg (by omega), uI_1, if_neg (by omega), uI_s, uI_1, if_neg (by omega), uI_1, if_neg (by omega)]
    have e78 : φ'.1 (r + 78) = va_up (φ.1 (r + 78)) p (-1) := by
      rw [a2.i 78 (by decide), uI_1, if_neg (by omega), uI_1, if_neg (by omega), uI_s, uI_1, if_neg (by omega), uI_1, if_neg (by omega), uI_1, if_neg (by omega)]
    have e79 : φ'.1 (r + 79) = va_up (φ.1 (r + 79)) p 0 := by
      rw [a2.i 79 (by decide), uI_1, if_neg (by omega), uI_s, uI_1, if_neg (by omega), uI_1, if_neg (by omega), uI_1, if_neg (by omega), uI_1, if_neg (by omega)]
    have e80 : φ'.1 (r + 80) = va_up (φ.1 (r + 80)) p 0 := by
      rw [a2.i 80 (by decide), uI_s, uI_1, if_neg (by omega), uI_1, if_neg (by omega), uI_1, if_neg (by omega), uI_1, if_neg (by omega), uI_1, if_neg (by omega)]
    have e72 : ∀ c, c < 5 → φ'.1 (r + 72) (5 * q + c) = if q = p then 0 else φ.1 (r + 72) (5 * q + c) := by
      intro c hc
      have e0 : (uI (uI (uI (uI (uI (uI φ (r + 75) p (0 : Int32)) (r + 76) p (0 : Int32)) (r + 77) p (-1 : Int32)) (r + 78) p (-1 : Int32)) (r + 79) p (0 : Int32)) (r + 80) p (0 : Int32)).1 (r + 72) = φ.1 (r + 72) := by
        rw [uI_1, if_neg (by omega), uI_1, if_neg (by omega), uI_1, if_neg (by omega), uI_1, if_neg (by omega), uI_1, if_neg (by omega), uI_1, if_neg (by omega)]
      rw [a3 q c hc, e0]
      by_cases e : q = p
      · rw [if_pos ⟨e, Nat.zero_le _⟩, if_pos e]
      · rw [if_neg (fun hh => e hh.1), if_neg e]
    by_cases e : q = p
    · subst e
      show VM1 (maOf φ' r) q (va_up S.mon q (S.mon q).beg q)
      rw [vz_same]
      refine ⟨Nat.zero_le _, Nat.zero_le _, ?_, ?_, ?_, (by show 0 < 13; decide), ?_, ?_, ?_, ?_, ?_, ?_, ?_, ?_⟩
      · intro c hc
        have := (hv.hel c hc).2
        show φ'.1 (r + 72) (5 * q + c) = bI false ∧ φ'.2.1 (r + 73) (5 * q + c) = (S.mon q).hc c ∧ φ'.1 (r + 74) (5 * q + c) = (S.mon q).hr c
        rw [e72 c hc, if_pos rfl, a2.l 73 (by decide), a2.i 74 (by decide)]
        refine ⟨rfl, this.1, ?_⟩
        rw [uI_1, if_neg (by omega), uI_1, if_neg (by omega), uI_1, if_neg (by omega), uI_1, if_neg (by omega), uI_1, if_neg (by omega), uI_1, if_neg (by omega)]
        exact this.2
      · show φ'.1 (r + 75) q = 0
        rw [e75, vz_same]
      · show φ'.1 (r + 76) q = nI 0
        rw [e76, vz_same]; rfl
      · show φ'.1 (r + 77) q = m1
        rw [e77, vz_same]; rfl
      · show φ'.1 (r + 78) q = m1
        rw [e78, vz_same]; rfl
      · show φ'.1 (r + 79) q = nI 0
        rw [e79, vz_same]; rfl
      · show φ'.1 (r + 80) q = nI 0
        rw [e80, vz_same]; rfl
      · intro k e he; cases he
      · intro k e he; cases he
      · intro k e he; cases he
      · intro _ hh; cases hh
    · show VM1 (maOf φ' r) q (va_up S.mon p (S.mon p).beg q)
      rw [vz_ne _ e]
      have g : ∀ n, n ∉ [72, 75, 76, 77, 78, 79, 80] → n < 92 → φ'.1 (r + n) = φ.1 (r + n) := by
        intro n hn h92
        have hn2 : (r + n) ∉ [72].map (r + ·) := by
          intro hm
          obtain ⟨k, hk, ee⟩ := List.mem_map.mp hm
          have : k = n := by omega
          subst this
          apply hn
          simp at hk
          simp [hk]
        have := (a2.2 (r + n) hn2).1
        simp only [List.mem_cons, List.not_mem_nil, or_false, not_or] at hn
        rw [this, uI_1, if_neg (by omega), uI_1, if_neg (by omega), uI_1, if_neg (by omega), uI_1, if_neg (by omega), uI_1, if_neg (by omega), uI_1, if_neg (by omega)]
      refine ⟨hv.lw, hv.lr, ?_, ?_, ?_, hv.rl, ?_, ?_, ?_, ?_, ?_, ?_, ?_, hv.leg⟩
      · intro c hc
        have := hv.hel c hc
        show φ'.1 (r + 72) (5 * q + c) = _ ∧ φ'.2.1 (r + 73) (5 * q + c) = _ ∧ φ'.1 (r + 74) (5 * q + c) = _
        rw [e72 c hc, if_neg e, a2.l 73 (by decide), g 74 (by decide) (by decide)]
        exact this
      · show φ'.1 (r + 75) q = _
        rw [e75, vz_ne _ e]; exact hv.tks
      · show φ'.1 (r + 76) q = _
        rw [e76, vz_ne _ e]; exact hv.rul
      · show φ'.1 (r + 77) q = _
        rw [e77, vz_ne _ e]; exact hv.cha
      · show φ'.1 (r + 78) q = _
        rw [e78, vz_ne _ e]; exact hv.tic
      · show φ'.1 (r + 79) q = _
        rw [e79, vz_ne _ e]; exact hv.nw
      · show φ'.1 (r + 80) q = _
        rw [e80, vz_ne _ e]; exact hv.nr
      · intro k x hx
        show φ'.1 (r + 81) _ = _ ∧ (_ → φ'.2.1 (r + 82) _ = _ ∧ _) ∧ φ'.1 (r + 83) _ = _ ∧ φ'.1 (r + 84) _ = _ ∧ _
        rw [g 81 (by decide) (by decide), g 83 (by decide) (by decide), g 84 (by decide) (by decide), a2.l 82 (by decide)]
        exact hv.ws k x hx
      · intro k x hx i hi
        show φ'.1 (r + 85) _ = _
        rw [g 85 (by decide) (by decide)]
        exact hv.st k x hx i hi
      · intro k x hx
        show φ'.2.1 (r + 86) _ = _ ∧ φ'.1 (r + 87) _ = _ ∧ _
        rw [a2.l 86 (by decide), g 87 (by decide) (by decide)]
        exact hv.rs k x hx
theorem q_again {Γ : gm_T} {φ : ph_T} {b : Nat} {S : XS} {k : Nat} (h : CV Γ φ b S) (hJ : JI k S) (p : Int32) : Face Γ φ b S k (f_Bus_again Γ φ b p) (fun φ1 r => f_Ref_again Γ φ1 r p) IOB IOB IOB := by
  obtain ⟨g1, g2, g3, g4⟩ := h.reg
  have n4 := h.lay.nm4
  have n5 := h.lay.ns4
  have hbq : b + 35 ≤ bQ b S.nm S.ns := by unfold bQ; omega
  have hn : f_Bus_needIndex Γ φ p (2 : Int32) = _ := nIdx Γ φ p (n := 2) (by decide) (by decide)
  cases hp : inN p 0 1 with
  | false =>
    refine Face.bad h hJ 1 () (by decide) (by decide) ?_ (fun φ1 r hr => ⟨(), ?_⟩)
    · unfold f_Bus_again
      rw [hn, show inN p 0 (2 - 1) = false from hp]; rfl
    · show f_Ref_again Γ φ1 r p = _
      unfold f_Ref_again f_Ref_again_L13 f_Ref_again_L36
      rw [r_isWatcher, hp, Option.bind_some, if_pos (bf_eq _), if_pos hr.rl.o, if_pos hr.rl.o, if_neg (by rw [erz_at]; decide)]
      rfl
  | true =>
    obtain ⟨i, _, hi, rfl, _⟩ := inN_t (by decide) (by decide) hp
    have hok : okP S.nm S.ns (8 + i) := Or.inr (Or.inr (by omega))
    have pin := pA_in (b := b) n4.2 n5.2 hok
    obtain ⟨hd, hP⟩ := h.po (8 + i) hok
    have hM := h.mo (8 + i) hok
    obtain ⟨φ', a1, a2, a3, a4⟩ := c_preset hP hM
    refine Face.do (S' := ((S.w_wi (va_up S.wi (8 + i) WI0)).w_tr (va_up S.tr (8 + i) (fun _ => 0))).w_mon (va_up S.mon (8 + i) (S.mon (8 + i)).beg)) () (φ' := φ') ?_ (h.port hok a4 a2 (a3.beg _)) (a4.mono (by omega) (by omega)) (hJ.wat (by omega) _ _ (rsOk_beg _)) rfl rfl ?_
    · unfold f_Bus_again
      rw [hn, show inN (nI i) 0 (2 - 1) = true from hp, if_pos rfl, bT_l, if_pos h.lay.o, h.lay.f6, Option.bind_some, h.lay.g6, Option.bind_some, zix (by omega), Option.bind_some, h.lay.wp i (by omega), Option.bind_some, if_pos hP.o, a1]
      rfl
    · intro φ1 r hr hh he φ0 e0 hr0
      obtain ⟨φ2, c1, c2, c3⟩ := r_beginMon (p := 8 + i) (by omega) hr
      obtain ⟨φ3, d1, d2, d3⟩ := r_blank (w := i) (by omega) c2
      refine ⟨φ3, ?_, ?_, He.wat (S := S) (fun j hj => by rw [d3.i 30 (by decide), c3.i 30 (by decide)]; exact hh j hj) rfl rfl (fun q hq => vz_ne _ (by omega)), (c3.fr (by decide)).trans (d3.fr (by decide))⟩
      · show f_Ref_again Γ φ0 r _ = _
        unfold f_Ref_again f_Ref_again_L13 f_Ref_again_L36
        rw [r_isWatcher, hp, Option.bind_some, if_neg (bt_ne _), if_pos hr.rl.o, if_pos hr.rl.o, if_pos (erz_at _ _ _), zI_0, ← e0, show (8 : Int32) + nI i = nI (8 + i) from by rw [show (8 : Int32) = nI 8 from rfl, zI_add], c1, Option.bind_some, d1]
        rfl
      · have hV : RV Γ φ3 r (((S.w_err 0).setM (8 + i) (S.mon (8 + i)).beg).w_wi (va_up S.wi (8 + i) WI0)) := d2
        have f0 : RFr r [] φ3 φ3 := RFr.refl _ _ _
        refine ⟨(RL.up hV.rl (congrFun f0.1 r)), (by rw [f0.o (by decide)]; exact ⟨hV.sc.nm, hV.sc.ns, hV.sc.lim, hV.sc.pol, hV.sc.whole, hV.sc.time, hV.sc.tk, hV.sc.wm, hV.sc.rm, hV.sc.db, hV.sc.er⟩), (by rw [f0.i 1 (by decide)]; exact hV.pg), (by rw [f0.i 2 (by decide)]; exact hV.mp), (by rw [f0.i 3 (by decide)]; exact hV.sp), (by rw [f0.i 4 (by decide)]; exact hV.ea), (by rw [f0.i 5 (by decide)]; exact hV.de), (by rw [f0.i 6 (by decide)]; exact hV.wa), (by rw [f0.i 7 (by decide), f0.i 8 (by decide)]; exact hV.me), (by rw [f0.i 9 (by decide), f0.i 10 (by decide), f0.i 11 (by decide), f0.i 12 (by decide), f0.i 13 (by decide), f0.i 14 (by decide), f0.i 15 (by decide), f0.i 16 (by decide), f0.i 17 (by decide), f0.i 18 (by decide), f0.i 20 (by decide), f0.i 21 (by decide), f0.i 22 (by decide), f0.i 23 (by decide), f0.i 24 (by decide), f0.l 19 (by decide), f0.l 25 (by decide)]; exact hV.tk), (by rw [f0.i 26 (by decide), f0.i 27 (by decide), f0.l 28 (by decide), f0.i 29 (by decide)]; exact hV.wi), ?_, (by rw [f0.l 32 (by decide), f0.i 33 (by decide), f0.i 34 (by decide), f0.i 35 (by decide)]; exact hV.row), (by rw [f0.i 36 (by decide), f0.i 37 (by decide), f0.i 38 (by decide), f0.i 39 (by decide)]; exact hV.uw), (by rw [f0.i 40 (by decide), f0.i 41 (by decide), f0.i 42 (by decide)]; exact hV.ur), (by rw [f0.i 43 (by decide), f0.i 44 (by decide), f0.i 45 (by decide), f0.i 46 (by decide), f0.i 47 (by decide)]; exact ⟨hV.la.haw, hV.la.har, hV.la.hb, hV.la.hg, hV.la.hinn⟩), (by rw [f0.i 48 (by decide), f0.i 49 (by decide), f0.i 50 (by decide), f0.l 51 (by decide), f0.i 52 (by decide), f0.i 53 (by decide), f0.i 54 (by decide), f0.l 55 (by decide), f0.i 56 (by decide)]; exact hV.sw), (by rw [f0.i 57 (by decide), f0.i 58 (by decide), f0.i 59 (by decide), f0.l 60 (by decide), f0.i 61 (by decide), f0.i 62 (by decide), f0.i 63 (by decide), f0.l 64 (by decide), f0.i 65 (by decide)]; exact hV.sr), (by rw [f0.i 66 (by decide), f0.i 67 (by decide), f0.i 68 (by decide), f0.i 69 (by decide)]; exact ⟨hV.ch.hnums, hV.ch.hlat, hV.ch.hchb, hV.ch.hchr⟩), (by rw [f0.i 70 (by decide), f0.i 71 (by decide)]; exact hV.rg), (by unfold maOf; rw [f0.i 72 (by decide), f0.l 73 (by decide), f0.i 74 (by decide), f0.i 75 (by decide), f0.i 76 (by decide), f0.i 77 (by decide), f0.i 78 (by decide), f0.i 79 (by decide), f0.i 80 (by decide), f0.i 81 (by decide), f0.l 82 (by decide), f0.i 83 (by decide), f0.i 84 (by decide), f0.i 85 (by decide), f0.l 86 (by decide), f0.i 87 (by decide)]; exact hV.mo), (by rw [f0.i 88 (by decide), f0.i 89 (by decide), f0.l 90 (by decide), f0.i 91 (by decide)]; exact hV.wt)⟩
        show VTr _ (va_up S.tr (8 + i) (fun _ => 0))
        intro p k hp hk
        rw [vz_ne _ (show p ≠ 8 + i by omega)]
        exact hV.tr p k hp hk
