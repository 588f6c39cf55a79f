/-! THE FACE: bytes are spoilt, both sides -/
theorem r_spoil_L {Γ : gm_T} {r a N : Nat} {S : XS} {on : Bool} (ha : a < 65536) (hN : N < 2 ^ 31) (hS : S.err = 0) {spo : Nat → Bool} {e : Nat} (he : e = a + min N (65536 - a)) : ∀ (d y fu : Nat) (φ : ph_T), y + d = e → a ≤ y → d < fu → RV Γ φ r (S.w_spo (spW spo a e on y)) →
    ∃ φ', f_Ref_spoil_L36 Γ fu φ r (nI a) (nI N) (bI on) (nI ((List.range y).countP (pS spo a e on))) (nI y) = some (nI ((List.range e).countP (pS spo a e on)), φ') ∧ RV Γ φ' r (S.w_spo (spW spo a e on e)) ∧ RFr r [8] φ φ' := by
  intro d
  induction d with
  | zero =>
    intro y fu φ hd hy hfu h
    match fu, hfu with
    | fu + 1, _ =>
      have hye : y = e := by omega
      subst hye
      refine ⟨φ, ?_, h, RFr.refl _ _ _⟩
      have er : φ.1 r 0 = nI 0 := by rw [h.sc.er]; show nI S.err = nI 0; rw [hS]
      unfold f_Ref_spoil_L36 f_Ref_spoil_L93
      rw [if_pos h.rl.o, er, if_pos (by decide)]
      by_cases g : 65536 ≤ y
      · rw [if_pos (by rw [show (65536 : Int32) = nI 65536 from rfl, zI_le (by omega) (by omega)]; exact g)]
      · rw [if_neg (by rw [show (65536 : Int32) = nI 65536 from rfl, zI_le (by omega) (by omega)]; exact g), zI_sub (by omega), if_pos (by rw [zI_le (by omega) (by omega)]; omega)]
  | succ d ih =>
    intro y fu φ hd hy hfu h
    match fu, hfu with
    | fu + 1, hfu =>
      have er : φ.1 r 0 = nI 0 := by rw [h.sc.er]; show nI S.err = nI 0; rw [hS]
      have hsy : spW spo a e on y y = spo y := by unfold spW; rw [if_neg (by omega)]
      have hme : φ.1 (r + 8) y = bI (spo y) := by
        have := (h.me y (by omega)).2
        rw [this]
        exact congrArg bI hsy
      have f1 : RFr r [8] φ (uI φ (r + 8) y (bI on)) := by repeat (first | exact RFr.refl _ _ _ | refine RFr.uI ?_ (by decide) _ _ | refine RFr.uL ?_ (by decide) _ _ | refine rfr_uO ?_ (by decide) _ _)
      have h1 : RV Γ (uI φ (r + 8) y (bI on)) r (S.w_spo (spW spo a e on (y + 1))) := by
        have hh := h
        refine ⟨(RL.up h.rl (congrFun f1.1 r)), (by rw [f1.o (by decide)]; exact ⟨h.sc.nm, h.sc.ns, h.sc.lim, h.sc.pol, h.sc.whole, h.sc.time, h.sc.tk, h.sc.wm, h.sc.rm, h.sc.db, h.sc.er⟩), (by rw [f1.i 1 (by decide)]; exact h.pg), (by rw [f1.i 2 (by decide)]; exact h.mp), (by rw [f1.i 3 (by decide)]; exact h.sp), (by rw [f1.i 4 (by decide)]; exact h.ea), (by rw [f1.i 5 (by decide)]; exact h.de), (by rw [f1.i 6 (by decide)]; exact h.wa), ?_, (by rw [f1.i 9 (by decide), f1.i 10 (by decide), f1.i 11 (by decide), f1.i 12 (by decide), f1.i 13 (by decide), f1.i 14 (by decide), f1.i 15 (by decide), f1.i 16 (by decide), f1.i 17 (by decide), f1.i 18 (by decide), f1.i 20 (by decide), f1.i 21 (by decide), f1.i 22 (by decide), f1.i 23 (by decide), f1.i 24 (by decide), f1.l 19 (by decide), f1.l 25 (by decide)]; exact h.tk), (by rw [f1.i 26 (by decide), f1.i 27 (by decide), f1.l 28 (by decide), f1.i 29 (by decide)]; exact h.wi), (by rw [f1.i 31 (by decide)]; exact h.tr), (by rw [f1.l 32 (by decide), f1.i 33 (by decide), f1.i 34 (by decide), f1.i 35 (by decide)]; exact h.row), (by rw [f1.i 36 (by decide), f1.i 37 (by decide), f1.i 38 (by decide), f1.i 39 (by decide)]; exact h.uw), (by rw [f1.i 40 (by decide), f1.i 41 (by decide), f1.i 42 (by decide)]; exact h.ur), (by rw [f1.i 43 (by decide), f1.i 44 (by decide), f1.i 45 (by decide), f1.i 46 (by decide), f1.i 47 (by decide)]; exact ⟨h.la.haw, h.la.har, h.la.hb, h.la.hg, h.la.hinn⟩), (by rw [f1.i 48 (by decide), f1.i 49 (by decide), f1.i 50 (by decide), f1.l 51 (by decide), f1.i 52 (by decide), f1.i 53 (by decide), f1.i 54 (by decide), f1.l 55 (by decide), f1.i 56 (by decide)]; exact h.sw), (by rw [f1.i 57 (by decide), f1.i 58 (by decide), f1.i 59 (by decide), f1.l 60 (by decide), f1.i 61 (by decide), f1.i 62 (by decide), f1.i 63 (by decide), f1.l 64 (by decide), f1.i 65 (by decide)]; exact h.sr), (by rw [f1.i 66 (by decide), f1.i 67 (by decide), f1.i 68 (by decide), f1.i 69 (by decide)]; exact ⟨h.ch.hnums, h.ch.hlat, h.ch.hchb, h.ch.hchr⟩), (by rw [f1.i 70 (by decide), f1.i 71 (by decide)]; exact h.rg), (by unfold maOf; rw [f1.i 72 (by decide), f1.l 73 (by decide), f1.i 74 (by decide), f1.i 75 (by decide), f1.i 76 (by decide), f1.i 77 (by decide), f1.i 78 (by decide), f1.i 79 (by decide), f1.i 80 (by decide), f1.i 81 (by decide), f1.l 82 (by decide), f1.i 83 (by decide), f1.i 84 (by decide), f1.i 85 (by decide), f1.l 86 (by decide), f1.i 87 (by decide)]; exact h.mo), (by rw [f1.i 88 (by decide), f1.i 89 (by decide), f1.l 90 (by decide), f1.i 91 (by decide)]; exact h.wt)⟩
        rw [uI_s, uI_1, if_neg (by omega)]
        intro z hz
        have hz1 := hh.me z hz
        refine ⟨hz1.1, ?_⟩
        show va_up _ y (bI on) z = bI (spW spo a e on (y + 1) z)
        rw [vz_at]
        by_cases g : z = y
        · rw [if_pos g]
          unfold spW
          rw [if_pos (by omega)]
        · rw [if_neg g, hz1.2]
          show bI (spW spo a e on y z) = _
          unfold spW
          by_cases g2 : a ≤ z ∧ z < e ∧ z < y
          · rw [if_pos g2, if_pos (by omega)]
          · rw [if_neg g2, if_neg (by omega)]
      obtain ⟨φ', b1, b2, b3⟩ := ih (y + 1) fu _ (by omega) (by omega) (by omega) h1
      refine ⟨φ', ?_, b2, f1.trans b3⟩
      have hcs : (List.range (y + 1)).countP (pS spo a e on) = (List.range y).countP (pS spo a e on) + (if (spo y != on) = true then 1 else 0) := by
        rw [List.range_succ, List.countP_append, List.countP_cons, List.countP_nil]
        have : pS spo a e on y = (spo y != on) := by
          unfold pS
          rw [decide_eq_true (by omega)]; rfl
        rw [this, Nat.zero_add]
      have st76 : ∀ v : Nat, (List.range (y + 1)).countP (pS spo a e on) = (List.range y).countP (pS spo a e on) + v → f_Ref_spoil_L76 Γ (f_Ref_spoil_L36 Γ fu) φ r (nI a) (nI N) (bI on) (nI y) (nI v) (nI ((List.range y).countP (pS spo a e on))) = some (nI ((List.range e).countP (pS spo a e on)), φ') := by
        intro v hv
        unfold f_Ref_spoil_L76
        rw [if_pos h.rl.o, rf_14 h.rl, Option.bind_some, rg_14 h.rl, Option.bind_some, zix (by omega), Option.bind_some, if_pos (bI_or _), zI_add, ← hv, show nI y + (1 : Int32) = nI (y + 1) from by rw [zI_1, zI_add]]
        exact b1
      rw [f_Ref_spoil_L36, if_pos h.rl.o, er, if_pos (by decide), if_neg (by rw [show (65536 : Int32) = nI 65536 from rfl, zI_le (by omega) (by omega)]; omega), zI_sub (by omega), if_neg (by rw [zI_le (by omega) (by omega)]; omega), rf_14 h.rl, Option.bind_some, rg_14 h.rl, Option.bind_some, zix (by omega), Option.bind_some, hme]
      have hbI : (bI (spo y) = bI on) ↔ spo y = on := by cases spo y <;> cases on <;> decide
      by_cases g : spo y = on
      · rw [if_pos (hbI.mpr g)]
        refine st76 0 ?_
        rw [hcs, g]
        simp
      · rw [if_neg (fun hh => g (hbI.mp hh))]
        refine st76 1 ?_
        rw [hcs, if_pos (by simpa using g)]
theorem le1_nI {x : Int32} (h : (1 : Int32) ≤ x) : ∃ N, 1 ≤ N ∧ N < 2 ^ 31 ∧ x = nI N := by
  rw [Int32.le_iff_toInt_le, show (1 : Int32).toInt = 1 from by decide] at h
  have h2 : x.toInt < 2 ^ 31 := by
    have := Int32.toInt_lt x
    omega
  refine ⟨x.toInt.toNat, by omega, by omega, ?_⟩
  apply Int32.toInt_inj.mp
  rw [zI_toInt (by omega)]
  omega
theorem q_spoil {Γ : gm_T} {φ : ph_T} {b : Nat} {S : XS} {k : Nat} (h : CV Γ φ b S) (hJ : JI k S) (p x : Int32) (on : Bool) : Face Γ φ b S k (f_Bus_spoil Γ φ b p x (bI on)) (fun φ1 r => f_Ref_spoil Γ φ1 r p x (bI on)) IOB IAE IAE := by
  obtain ⟨g1, g2, g3, g4⟩ := h.reg
  have n4 := h.lay.nm4
  have n5 := h.lay.ns4
  have hbq : b + 35 ≤ bQ b S.nm S.ns := by unfold bQ; omega
  have hn : f_Bus_needIndex Γ φ p (65536 : Int32) = _ := nIdx Γ φ p (n := 65536) (by decide) (by decide)
  have bad : ∀ φ1 r, RV Γ φ1 r S → ∀ cd : Nat, cd < 4 → cd ≠ 0 → ∀ x2 : Int32, ∃ v, f_Ref_spoil_L27 Γ φ1 r p x2 (bI on) (nI cd) r = some (v, uI φ1 r 0 (nI cd)) := by
    intro φ1 r hr cd hcd hz x2
    refine ⟨0, ?_⟩
    unfold f_Ref_spoil_L27
    rw [if_pos hr.rl.o]
    show f_Ref_spoil_L36 Γ (99999 + 1) (uI φ1 r 0 (nI cd)) r p x2 (bI on) (0 : Int32) p = _
    unfold f_Ref_spoil_L36 f_Ref_spoil_L93
    rw [if_pos hr.rl.o, erz_at, if_neg (by rw [zI_0, zI_eq (by omega) (by omega)]; exact hz)]
  cases hp : inN p 0 65535 with
  | false =>
    refine Face.bad h hJ 1 0 (by decide) (by decide) ?_ (fun φ1 r hr => ?_)
    · unfold f_Bus_spoil
      rw [hn, show inN p 0 (65536 - 1) = false from hp]; rfl
    · obtain ⟨v, hv⟩ := bad φ1 r hr 1 (by decide) (by decide) x
      refine ⟨v, ?_⟩
      show f_Ref_spoil Γ φ1 r p x (bI on) = _
      unfold f_Ref_spoil
      rw [show f_Ref_in Γ φ1 p.toInt64 (0 : Int64) (65535 : Int64) = _ from e_inN Γ φ1 p 0 65535, hp, Option.bind_some, if_pos (bf_eq _)]
      exact hv
  | true =>
    by_cases hx : (1 : Int32) ≤ x
    · obtain ⟨a, _, ha, rfl, _⟩ := inN_t (by decide) (by decide) hp
      obtain ⟨N, hN1, hN2, rfl⟩ := le1_nI hx
      have hmin : f_Math_min Γ φ (nI N) ((65536 : Int32) - nI a) = some (nI (min N (65536 - a)), φ) := by
        unfold f_Math_min f_Math_min_L10
        rw [show (65536 : Int32) = nI 65536 from rfl, zI_sub (by omega)]
        by_cases g : 65536 - a < N
        · rw [if_pos (by rw [zI_lt (by omega) (by omega)]; exact g), Nat.min_eq_right (by omega)]
        · rw [if_neg (by rw [zI_lt (by omega) (by omega)]; exact g), Nat.min_eq_left (by omega)]
      obtain ⟨φ', a1, a2, a3⟩ := c_mark (on := on) h.mem (a := a) (n := min N (65536 - a)) (by omega) (by omega)
      refine Face.do (S' := (S.w_mem S.mem).w_spo (spW S.spo a (a + min N (65536 - a)) on 65536)) (nI ((List.range (a + min N (65536 - a))).countP (pS S.spo a (a + min N (65536 - a)) on))) (φ' := φ') ?_ (h.memG (a3.mono (by omega) (by omega)) a2) (a3.mono (by omega) (by omega)) (hJ.mem hJ.1.bd.mem _) rfl rfl ?_
      · unfold f_Bus_spoil
        rw [hn, show inN (nI a) 0 (65536 - 1) = true from hp, if_pos rfl, bT_l, if_pos hx, if_pos h.lay.o, hmin, Option.bind_some, h.lay.f0, Option.bind_some, if_pos h.mem.o, a1]
        rfl
      · intro φ1 r hr hh he φ0 e0 hr0
        have hV0 : RV Γ φ1 r ((S.w_err 0).w_spo (spW S.spo a (a + min N (65536 - a)) on a)) := by
          have : spW S.spo a (a + min N (65536 - a)) on a = S.spo := by
            funext y
            unfold spW
            rw [if_neg (by omega)]
          rw [this, show (S.w_err 0).w_spo S.spo = S.w_err 0 from XS.w_spo_self (S.w_err 0)]
          exact hr
        obtain ⟨φ2, b1, b2, b3⟩ := r_spoil_L (on := on) (spo := S.spo) (show a < 65536 by omega) hN2 (show (S.w_err 0).err = 0 from rfl) rfl (min N (65536 - a)) a jF φ1 rfl (Nat.le_refl _) (by unfold jF; omega) hV0
        refine ⟨φ2, ?_, ?_, fun j hj => by rw [b3.i 30 (by decide)]; exact hh j hj, b3.fr (by decide)⟩
        · show f_Ref_spoil Γ φ0 r (nI a) (nI N) (bI on) = _
          unfold f_Ref_spoil f_Ref_spoil_L27
          rw [show f_Ref_in Γ φ0 (nI a).toInt64 (0 : Int64) (65535 : Int64) = _ from e_inN Γ φ0 (nI a) 0 65535, hp, Option.bind_some, if_neg (bt_ne _), if_pos hx, if_pos hr.rl.o, zI_0, ← e0]
          rw [cnt_zero S.spo on (Nat.le_refl a)] at b1
          exact b1
        · have f0 : RFr r [] φ2 φ2 := RFr.refl _ _ _
          refine ⟨(RL.up b2.rl (congrFun f0.1 r)), (by rw [f0.o (by decide)]; exact ⟨b2.sc.nm, b2.sc.ns, b2.sc.lim, b2.sc.pol, b2.sc.whole, b2.sc.time, b2.sc.tk, b2.sc.wm, b2.sc.rm, b2.sc.db, b2.sc.er⟩), (by rw [f0.i 1 (by decide)]; exact b2.pg), (by rw [f0.i 2 (by decide)]; exact b2.mp), (by rw [f0.i 3 (by decide)]; exact b2.sp), (by rw [f0.i 4 (by decide)]; exact b2.ea), (by rw [f0.i 5 (by decide)]; exact b2.de), (by rw [f0.i 6 (by decide)]; exact b2.wa), ?_, (by rw [f0.i 9 (by decide), f0.i 10 (by decide), f0.i 11 (by decide), f0.i 12 (by decide), f0.i 13 (by decide), f0.i 14 (by decide), f0.i 15 (by decide), f0.i 16 (by decide), f0.i 17 (by decide), f0.i 18 (by decide), f0.i 20 (by decide), f0.i 21 (by decide), f0.i 22 (by decide), f0.i 23 (by decide), f0.i 24 (by decide), f0.l 19 (by decide), f0.l 25 (by decide)]; exact b2.tk), (by rw [f0.i 26 (by decide), f0.i 27 (by decide), f0.l 28 (by decide), f0.i 29 (by decide)]; exact b2.wi), (by rw [f0.i 31 (by decide)]; exact b2.tr), (by rw [f0.l 32 (by decide), f0.i 33 (by decide), f0.i 34 (by decide), f0.i 35 (by decide)]; exact b2.row), (by rw [f0.i 36 (by decide), f0.i 37 (by decide), f0.i 38 (by decide), f0.i 39 (by decide)]; exact b2.uw), (by rw [f0.i 40 (by decide), f0.i 41 (by decide), f0.i 42 (by decide)]; exact b2.ur), (by rw [f0.i 43 (by decide), f0.i 44 (by decide), f0.i 45 (by decide), f0.i 46 (by decide), f0.i 47 (by decide)]; exact ⟨b2.la.haw, b2.la.har, b2.la.hb, b2.la.hg, b2.la.hinn⟩), (by rw [f0.i 48 (by decide), f0.i 49 (by decide), f0.i 50 (by decide), f0.l 51 (by decide), f0.i 52 (by decide), f0.i 53 (by decide), f0.i 54 (by decide), f0.l 55 (by decide), f0.i 56 (by decide)]; exact b2.sw), (by rw [f0.i 57 (by decide), f0.i 58 (by decide), f0.i 59 (by decide), f0.l 60 (by decide), f0.i 61 (by decide), f0.i 62 (by decide), f0.i 63 (by decide), f0.l 64 (by decide), f0.i 65 (by decide)]; exact b2.sr), (by rw [f0.i 66 (by decide), f0.i 67 (by decide), f0.i 68 (by decide), f0.i 69 (by decide)]; exact ⟨b2.ch.hnums, b2.ch.hlat, b2.ch.hchb, b2.ch.hchr⟩), (by rw [f0.i 70 (by decide), f0.i 71 (by decide)]; exact b2.rg), (by unfold maOf; rw [f0.i 72 (by decide), f0.l 73 (by decide), f0.i 74 (by decide), f0.i 75 (by decide), f0.i 76 (by decide), f0.i 77 (by decide), f0.i 78 (by decide), f0.i 79 (by decide), f0.i 80 (by decide), f0.i 81 (by decide), f0.l 82 (by decide), f0.i 83 (by decide), f0.i 84 (by decide), f0.i 85 (by decide), f0.l 86 (by decide), f0.i 87 (by decide)]; exact b2.mo), (by rw [f0.i 88 (by decide), f0.i 89 (by decide), f0.l 90 (by decide), f0.i 91 (by decide)]; exact b2.wt)⟩
          intro y hy
          have := b2.me y hy
          refine ⟨this.1, this.2.trans (congrArg bI ?_)⟩
          show spW S.spo a (a + min N (65536 - a)) on (a + min N (65536 - a)) y = spW S.spo a (a + min N (65536 - a)) on 65536 y
          unfold spW
          by_cases g : a ≤ y ∧ y < a + min N (65536 - a)
          · rw [if_pos (by omega), if_pos (by omega)]
          · rw [if_neg (by omega), if_neg (by omega)]
    · refine Face.bad h hJ 2 0 (by decide) (by decide) ?_ (fun φ1 r hr => ?_)
      · unfold f_Bus_spoil
        rw [hn, show inN p 0 (65536 - 1) = true from hp, if_pos rfl, bT_l, if_neg hx]; rfl
      · obtain ⟨v, hv⟩ := bad φ1 r hr 2 (by decide) (by decide) x
        refine ⟨v, ?_⟩
        show f_Ref_spoil Γ φ1 r p x (bI on) = _
        unfold f_Ref_spoil
        rw [show f_Ref_in Γ φ1 p.toInt64 (0 : Int64) (65535 : Int64) = _ from e_inN Γ φ1 p 0 65535, hp, Option.bind_some, if_neg (bt_ne _), if_neg hx]
        exact hv
