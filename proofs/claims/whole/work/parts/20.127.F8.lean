/-! THE FACE: pages, memory -/
theorem in_m1 (x : Int32) {hi : Nat} (hh : hi < 2 ^ 31) : inL x.toInt64 (-1 : Int64) (nL hi) = (decide (x = -1) || inN x 0 hi) := by
  unfold inN inL
  by_cases hx : x = -1
  · subst hx
    rw [decide_eq_true (show ((-1 : Int32) = -1) from rfl), Bool.true_or]
    have e2 : (nL hi).toInt = hi := Int64.toInt_ofNat_of_lt (by omega)
    have : ¬ nL hi < (-1 : Int32).toInt64 := by
      rw [Int64.lt_iff_toInt_lt, e2, show ((-1 : Int32).toInt64).toInt = -1 from by decide]
      omega
    rw [decide_eq_true this, decide_eq_true (show ¬ (-1 : Int32).toInt64 < (-1 : Int64) from by decide)]
    rfl
  · rw [decide_eq_false hx, Bool.false_or]
    congr 1
    apply decide_eq_decide.mpr
    rw [Int64.lt_iff_toInt_lt, Int64.lt_iff_toInt_lt, Int32.toInt_toInt64, show (-1 : Int64).toInt = -1 from by decide, show (nL 0).toInt = 0 from by decide]
    have : x.toInt ≠ -1 := by
      intro h
      apply hx
      apply Int32.toInt_inj.mp
      rw [h]
      decide
    omega
theorem JI.pag {k : Nat} {S : XS} (h : JI k S) {p v : Nat} (hv : v ≤ S.ns) : JI k (S.w_pages (va_up S.pages p v)) := by
  obtain ⟨h1, h2, h3, h4⟩ := h
  have hb : Bd (S.w_pages (va_up S.pages p v)) := by
    refine ⟨h1.bd.nm, h1.bd.ns, h1.bd.lim, h1.bd.pol, h1.bd.time, h1.bd.db, h1.bd.moved, ?_, h1.bd.mpat, h1.bd.spat, h1.bd.delay, h1.bd.way, h1.bd.mem, h1.bd.sw, h1.bd.sr, h1.bd.rnum, h1.bd.lat, h1.bd.uw, h1.bd.ur, h1.bd.la, h1.bd.lr, h1.bd.lb, h1.bd.lg, h1.bd.rgt, h1.bd.rowT, h1.bd.tk⟩
    intro q
    show va_up S.pages p v q ≤ S.ns
    rw [vz_at]
    split
    · exact hv
    · exact h1.bd.pages q
  exact ⟨⟨hb, h1.tb, h1.tk, h1.rw, h1.uw, h1.ur, h1.pw, h1.em, h1.nc, h1.tg, h1.rc, h1.db, h1.mo, h1.cb, h1.ch, h1.ib, h1.ou, h1.mv⟩, ⟨h2.a0, h2.a3, h2.d, h2.b, h2.r, h2.mh, h2.sh⟩, ⟨h3.n, h3.e, h3.l, h3.p, h3.q⟩, h4⟩
theorem q_map {Γ : gm_T} {φ : ph_T} {b : Nat} {S : XS} {k : Nat} (h : CV Γ φ b S) (hJ : JI k S) (p x : Int32) : Face Γ φ b S k (f_Bus_map Γ φ b p x) (fun φ1 r => f_Ref_map Γ φ1 r p x) IOB ISE ISE := by
  obtain ⟨g1, g2, g3, g4⟩ := h.reg
  have n4 := h.lay.nm4
  have n5 := h.lay.ns4
  have hbq : b + 35 ≤ bQ b S.nm S.ns := by unfold bQ; omega
  have hopn : S.opn ≤ 64 := Nat.le_trans List.countP_le_length h.tk.le
  have hn : f_Bus_needIndex Γ φ p (16 : Int32) = _ := nIdx Γ φ p (n := 16) (by decide) (by decide)
  have hx := nIdx Γ φ x (n := S.ns) (by omega) (by omega)
  have hrx : ∀ φ1 r, RV Γ φ1 r S → f_Ref_in Γ φ1 x.toInt64 (-1 : Int64) ((φ1.1 r 2).toInt64 - (1 : Int64)) = some (bI (decide (x = -1) || inN x 0 (S.ns - 1)), φ1) := by
    intro φ1 r hr
    rw [hr.sc.ns, nI_64m1 (by omega) (by omega), e_in, in_m1 x (by omega)]
  have bad : ∀ φ1 r, RV Γ φ1 r S → f_Ref_map_L31 Γ φ1 r p x r = some (0, uI φ1 r 0 (nI 1)) := by
    intro φ1 r hr
    unfold f_Ref_map_L31 f_Ref_map_L47
    rw [if_pos hr.rl.o, if_pos hr.rl.o, if_neg (er_1 _ _)]
    rfl
  cases hp : inN p 0 15 with
  | false =>
    refine Face.bad h hJ 1 0 (by decide) (by decide) ?_ (fun φ1 r hr => ⟨0, ?_⟩)
    · unfold f_Bus_map
      rw [hn, show inN p 0 (16 - 1) = false from hp]; rfl
    · show f_Ref_map Γ φ1 r p x = _
      unfold f_Ref_map
      rw [show f_Ref_in Γ φ1 p.toInt64 (0 : Int64) (15 : Int64) = _ from e_inN Γ φ1 p 0 15, hp, Option.bind_some, if_pos (bf_eq _)]
      exact bad φ1 r hr
  | true =>
    obtain ⟨i, _, hi, rfl, _⟩ := inN_t (by decide) (by decide) hp
    have hB : f_Bus_map Γ φ b (nI i) x = if (decide (x = -1) || inN x 0 (S.ns - 1)) = true then f_Bus_map_L20 Γ φ b (nI i) x else some (.inr IOB, φ) := by
      unfold f_Bus_map
      rw [hn, show inN (nI i) 0 (16 - 1) = true from hp, if_pos rfl, bT_l]
      by_cases e : x = -1
      · rw [if_pos e, decide_eq_true e]; rfl
      · rw [if_neg e, if_pos h.lay.o, h.lay.f3, Option.bind_some, h.lay.g3, Option.bind_some, hx, bT_if, decide_eq_false e]; rfl
    cases hv : (decide (x = -1) || inN x 0 (S.ns - 1)) with
    | false =>
      refine Face.bad h hJ 1 0 (by decide) (by decide) ?_ (fun φ1 r hr => ⟨0, ?_⟩)
      · rw [hB, hv]; rfl
      · show f_Ref_map Γ φ1 r _ x = _
        unfold f_Ref_map
        rw [show f_Ref_in Γ φ1 (nI i).toInt64 (0 : Int64) (15 : Int64) = _ from e_inN Γ φ1 (nI i) 0 15, hp, Option.bind_some, if_neg (bt_ne _), if_pos hr.rl.o, hrx φ1 r hr, hv, Option.bind_some, if_pos (bf_eq _)]
        exact bad φ1 r hr
    | true =>
      by_cases ho : S.opn = 0
      · obtain ⟨v, hvn, hxv, hxm⟩ : ∃ v, v ≤ S.ns ∧ (if x = -1 then nI S.ns else x) = nI v ∧ x = (if v = S.ns then m1 else nI v) := by
          by_cases e : x = -1
          · exact ⟨S.ns, Nat.le_refl _, by rw [if_pos e], by rw [if_pos rfl]; exact e⟩
          · rw [decide_eq_false e, Bool.false_or] at hv
            obtain ⟨n, _, h2, h3, _⟩ := inN_t (by omega) (by omega) hv
            exact ⟨n, by omega, by rw [if_neg e, h3], by rw [if_neg (by omega)]; exact h3⟩
        have hpi := hJ.1.bd.pages i
        have f1 : Fr (b + 4 + 1) (b + 4 + 2) φ (uI φ (b + 4 + 1) i (nI v)) := fr_uI (Fr.refl _ _ _) (by omega) _ _
        have f := f1.mono (lo' := b + 4) (hi' := b + 4 + 2) (by omega) (by omega)
        refine Face.do (S' := S.w_pages (va_up S.pages i v)) (if S.pages i = S.ns then m1 else nI (S.pages i)) ?_ ?_ (f.mono (by omega) (by omega)) (hJ.pag hvn) rfl rfl ?_
        · rw [hB, hv, if_pos rfl]
          unfold f_Bus_map_L20 f_Bus_map_L69 f_Bus_map_L84
          rw [if_pos h.lay.o, c_open h hJ.tkm, Option.bind_some, if_pos (by rw [ho]; show nI 0 ≤ 0; decide), h.lay.f1, Option.bind_some, if_pos h.sw.lay.o, h.sw.lay.f3, Option.bind_some, h.sw.lay.g3, Option.bind_some, zix (by omega), Option.bind_some, h.lay.f3, Option.bind_some, h.lay.g3, h.sw.pg i (by omega)]
          simp only [Option.bind_some, h.sw.lay.g3, zix (show i < 16 by omega), h.lay.o, if_true, h.lay.f3, h.lay.g3]
          have hne : ∀ {α : Type} (y z : α), (if nI (S.pages i) = nI S.ns then y else z) = if S.pages i = S.ns then y else z := fun y z => zI_eq_ite (by omega) (by omega) y z
          by_cases e : x = -1
          · rw [if_pos e] at hxv
            rw [if_pos e, hxv, ← hxv]
            by_cases e2 : S.pages i = S.ns
            · rw [if_pos e2, if_pos (by rw [e2])]; rfl
            · rw [if_neg e2, if_neg (by rw [zI_eq (by omega) (by omega)]; exact e2)]
          · rw [if_neg e] at hxv
            rw [if_neg e, hxv]
            by_cases e2 : S.pages i = S.ns
            · rw [if_pos e2, if_pos (by rw [e2])]; rfl
            · rw [if_neg e2, if_neg (by rw [zI_eq (by omega) (by omega)]; exact e2)]
        · refine h.swG (f.mono (by omega) (by omega)) ?_ ⟨rfl, rfl, rfl, rfl, rfl, rfl, rfl, rfl, rfl, rfl, rfl, rfl, rfl, rfl, rfl, rfl, rfl, rfl, rfl, rfl⟩
          refine h.sw.setG f rfl ?_ ?_ rfl rfl rfl rfl rfl rfl rfl rfl rfl rfl
          · rw [uI_1, if_neg (by omega)]
            exact ⟨h.sw.ob.nm, h.sw.ob.ns, h.sw.ob.lim, h.sw.ob.pol, h.sw.ob.whole, h.sw.ob.db, h.sw.ob.mv⟩
          · intro q hq
            show _ = nI (va_up S.pages i v q)
            rw [uI_s]
            by_cases e : q = i
            · subst e; rw [vz_same, vz_same]
            · rw [vz_ne _ e, vz_ne _ e]; exact h.sw.pg q hq
        · intro φ1 r hr hh he φ0 e0 hr0
          have f2 : RFr r [1] φ1 (uI φ1 (r + 1) i x) := by repeat (first | exact RFr.refl _ _ _ | refine RFr.uI ?_ (by decide) _ _ | refine RFr.uL ?_ (by decide) _ _ | refine rfr_uO ?_ (by decide) _ _)
          refine ⟨_, ?_, ?_, fun j hj => by rw [f2.i 30 (by decide)]; exact hh j hj, f2.fr (by decide)⟩
          · show f_Ref_map Γ φ0 r _ _ = _
            unfold f_Ref_map f_Ref_map_L47
            rw [show f_Ref_in Γ φ0 (nI i).toInt64 (0 : Int64) (15 : Int64) = _ from e_inN Γ φ0 (nI i) 0 15, hp, Option.bind_some, if_neg (bt_ne _), if_pos hr.rl.o, hrx φ0 r hr0, hv, Option.bind_some, if_neg (bt_ne _), r_open hr0, Option.bind_some, if_pos (by rw [ho]; show nI 0 ≤ 0; decide), if_pos hr.rl.o, if_pos hr.rl.o, if_pos (er_0 _ _), rf_7 hr0.rl, Option.bind_some, rg_7 hr0.rl, Option.bind_some, zix (by omega), Option.bind_some, Option.bind_some, zix (by omega), Option.bind_some, zI_0, ← e0, hr.pg i (by omega)]
            rfl
          · refine ⟨(RL.up hr.rl (congrFun f2.1 r)), (by rw [f2.o (by decide)]; exact ⟨hr.sc.nm, hr.sc.ns, hr.sc.lim, hr.sc.pol, hr.sc.whole, hr.sc.time, hr.sc.tk, hr.sc.wm, hr.sc.rm, hr.sc.db, hr.sc.er⟩), ?_, (by rw [f2.i 2 (by decide)]; exact hr.mp), (by rw [f2.i 3 (by decide)]; exact hr.sp), (by rw [f2.i 4 (by decide)]; exact hr.ea), (by rw [f2.i 5 (by decide)]; exact hr.de), (by rw [f2.i 6 (by decide)]; exact hr.wa), (by rw [f2.i 7 (by decide), f2.i 8 (by decide)]; exact hr.me), (by rw [f2.i 9 (by decide), f2.i 10 (by decide), f2.i 11 (by decide), f2.i 12 (by decide), f2.i 13 (by decide), f2.i 14 (by decide), f2.i 15 (by decide), f2.i 16 (by decide), f2.i 17 (by decide), f2.i 18 (by decide), f2.i 20 (by decide), f2.i 21 (by decide), f2.i 22 (by decide), f2.i 23 (by decide), f2.i 24 (by decide), f2.l 19 (by decide), f2.l 25 (by decide)]; exact hr.tk), (by rw [f2.i 26 (by decide), f2.i 27 (by decide), f2.l 28 (by decide), f2.i 29 (by decide)]; exact hr.wi), (by rw [f2.i 31 (by decide)]; exact hr.tr), (by rw [f2.l 32 (by decide), f2.i 33 (by decide), f2.i 34 (by decide), f2.i 35 (by decide)]; exact hr.row), (by rw [f2.i 36 (by decide), f2.i 37 (by decide), f2.i 38 (by decide), f2.i 39 (by decide)]; exact hr.uw), (by rw [f2.i 40 (by decide), f2.i 41 (by decide), f2.i 42 (by decide)]; exact hr.ur), (by rw [f2.i 43 (by decide), f2.i 44 (by decide), f2.i 45 (by decide), f2.i 46 (by decide), f2.i 47 (by decide)]; exact ⟨hr.la.haw, hr.la.har, hr.la.hb, hr.la.hg, hr.la.hinn⟩), (by rw [f2.i 48 (by decide), f2.i 49 (by decide), f2.i 50 (by decide), f2.l 51 (by decide), f2.i 52 (by decide), f2.i 53 (by decide), f2.i 54 (by decide), f2.l 55 (by decide), f2.i 56 (by decide)]; exact hr.sw), (by rw [f2.i 57 (by decide), f2.i 58 (by decide), f2.i 59 (by decide), f2.l 60 (by decide), f2.i 61 (by decide), f2.i 62 (by decide), f2.i 63 (by decide), f2.l 64 (by decide), f2.i 65 (by decide)]; exact hr.sr), (by rw [f2.i 66 (by decide), f2.i 67 (by decide), f2.i 68 (by decide), f2.i 69 (by decide)]; exact ⟨hr.ch.hnums, hr.ch.hlat, hr.ch.hchb, hr.ch.hchr⟩), (by rw [f2.i 70 (by decide), f2.i 71 (by decide)]; exact hr.rg), (by unfold maOf; rw [f2.i 72 (by decide), f2.l 73 (by decide), f2.i 74 (by decide), f2.i 75 (by decide), f2.i 76 (by decide), f2.i 77 (by decide), f2.i 78 (by decide), f2.i 79 (by decide), f2.i 80 (by decide), f2.i 81 (by decide), f2.l 82 (by decide), f2.i 83 (by decide), f2.i 84 (by decide), f2.i 85 (by decide), f2.l 86 (by decide), f2.i 87 (by decide)]; exact hr.mo), (by rw [f2.i 88 (by decide), f2.i 89 (by decide), f2.l 90 (by decide), f2.i 91 (by decide)]; exact hr.wt)⟩
            rw [uI_s]
            intro q hq
            show _ = if va_up S.pages i v q = S.ns then m1 else nI (va_up S.pages i v q)
            by_cases e : q = i
            · subst e; rw [vz_same, vz_same]; exact hxm
            · rw [vz_ne _ e, vz_ne _ e]; exact hr.pg q hq
      · refine Face.bad h hJ 2 0 (by decide) (by decide) ?_ (fun φ1 r hr => ⟨0, ?_⟩)
        · rw [hB, hv, if_pos rfl]
          unfold f_Bus_map_L20
          rw [if_pos h.lay.o, c_open h hJ.tkm, Option.bind_some, if_neg (by rw [zI_0, zI_le (by omega) (by omega)]; omega)]
          rfl
        · show f_Ref_map Γ φ1 r _ x = _
          unfold f_Ref_map f_Ref_map_L47
          rw [show f_Ref_in Γ φ1 (nI i).toInt64 (0 : Int64) (15 : Int64) = _ from e_inN Γ φ1 (nI i) 0 15, hp, Option.bind_some, if_neg (bt_ne _), if_pos hr.rl.o, hrx φ1 r hr, hv, Option.bind_some, if_neg (bt_ne _), r_open hr, Option.bind_some, if_neg (by show ¬ nI S.opn ≤ 0; rw [zI_0, zI_le (by omega) (by omega)]; omega), if_pos hr.rl.o, if_pos hr.rl.o, if_neg (er_2 _ _)]
          rfl
theorem JI.mem {k : Nat} {S : XS} (h : JI k S) {mem : Nat → Nat} (hm : ∀ y, mem y < 256) (spo : Nat → Bool) : JI k ((S.w_mem mem).w_spo spo) := by
  obtain ⟨h1, h2, h3, h4⟩ := h
  have hb : Bd ((S.w_mem mem).w_spo spo) := ⟨h1.bd.nm, h1.bd.ns, h1.bd.lim, h1.bd.pol, h1.bd.time, h1.bd.db, h1.bd.moved, h1.bd.pages, h1.bd.mpat, h1.bd.spat, h1.bd.delay, h1.bd.way, hm, h1.bd.sw, h1.bd.sr, h1.bd.rnum, h1.bd.lat, h1.bd.uw, h1.bd.ur, h1.bd.la, h1.bd.lr, h1.bd.lb, h1.bd.lg, h1.bd.rgt, h1.bd.rowT, h1.bd.tk⟩
  exact ⟨⟨hb, h1.tb, h1.tk, h1.rw, h1.uw, h1.ur, h1.pw, h1.em, h1.nc, h1.tg, h1.rc, h1.db, h1.mo, h1.cb, h1.ch, h1.ib, h1.ou, h1.mv⟩, ⟨h2.a0, h2.a3, h2.d, h2.b, h2.r, h2.mh, h2.sh⟩, ⟨h3.n, h3.e, h3.l, h3.p, h3.q⟩, h4⟩
theorem CMem.eq {Γ : gm_T} {φ : ph_T} {a : Nat} {mem mem' : Nat → Nat} {spo : Nat → Bool} (h : CMem Γ φ a mem spo) (e : ∀ y, y < 65536 → mem' y = mem y) : CMem Γ φ a mem' spo :=
  ⟨h.o, h.f0, h.f1, h.g0, h.g1, fun y hy => by rw [e y hy]; exact h.w y hy, h.s⟩
theorem poke_d {n v : Nat} (hv : v < 256) : (nI v).toInt64 <<< (Int32.toInt64 ((8 : Int32) * (nI n &&& (7 : Int32))) &&& 63) = nL (v * 2 ^ (8 * (n % 8))) := by
  have e1 : nI n &&& (7 : Int32) = nI (n % 8) := by
    rw [show (7 : Int32) = nI (2 ^ 3 - 1) from rfl, zI_and, Nat.and_two_pow_sub_one_eq_mod]
  have e3 : (nI v).toInt64 = nL v := by
    apply Int64.toInt_inj.mp
    rw [Int32.toInt_toInt64, zI_toInt (by omega)]
    exact (Int64.toInt_ofNat_of_lt (by omega)).symm
  rw [e1, show (8 : Int32) = nI 8 from rfl, zI_mul, sh_l (by omega), e3, nL_shl (by omega)]
theorem poke_s {n : Nat} : (1 : Int32) <<< ((nI n &&& (7 : Int32)) &&& 31) = nI (2 ^ (n % 8)) := by
  have e1 : nI n &&& (7 : Int32) = nI (n % 8) := by
    rw [show (7 : Int32) = nI (2 ^ 3 - 1) from rfl, zI_and, Nat.and_two_pow_sub_one_eq_mod]
  have e2 : nI (n % 8) &&& (31 : Int32) = nI (n % 8) := by
    rw [show (31 : Int32) = nI (2 ^ 5 - 1) from rfl, zI_and, Nat.and_two_pow_sub_one_eq_mod]
    congr 1
    omega
  rw [e1, e2, zI_1, zI_shl (by omega), Nat.shiftLeft_eq, Nat.one_mul]
theorem poke_m {mem : Nat → Nat} {n v : Nat} (hv : v < 256) (y : Nat) : va_up mem n v y = stB mem n (2 ^ (n % 8)) (nL (v * 2 ^ (8 * (n % 8)))) y := by
  unfold stB
  rw [vz_at, Nat.testBit_two_pow]
  have h8 : n % 8 < 8 := Nat.mod_lt _ (by decide)
  by_cases e : y = n
  · subst e
    rw [if_pos rfl, if_pos ⟨rfl, by simp⟩]
    unfold byN
    have : v * 2 ^ (8 * (y % 8)) < 2 ^ 64 := by
      have h1 : 2 ^ (8 * (y % 8)) ≤ 2 ^ 56 := Nat.pow_le_pow_right (by decide) (by omega)
      calc v * 2 ^ (8 * (y % 8)) ≤ 255 * 2 ^ 56 := Nat.mul_le_mul (by omega) h1
        _ < 2 ^ 64 := by decide
    rw [uN_nL this, Nat.mul_div_cancel _ (Nat.two_pow_pos _)]
    omega
  · rw [if_neg e, if_neg]
    rintro ⟨h1, h2⟩
    have := of_decide_eq_true h2
    omega
theorem q_poke {Γ : gm_T} {φ : ph_T} {b : Nat} {S : XS} {k : Nat} (h : CV Γ φ b S) (hJ : JI k S) (p x : Int32) : Face Γ φ b S k (f_Bus_poke Γ φ b p x) (fun φ1 r => f_Ref_poke Γ φ1 r p x) IOB IAE IAE := by
  obtain ⟨g1, g2, g3, g4⟩ := h.reg
  have n4 := h.lay.nm4
  have n5 := h.lay.ns4
  have hbq : b + 35 ≤ bQ b S.nm S.ns := by unfold bQ; omega
  have hn : f_Bus_needIndex Γ φ p (65536 : Int32) = _ := nIdx Γ φ p (n := 65536) (by decide) (by decide)
  have hm : f_Bus_needNumber Γ φ x (0 : Int32) (255 : Int32) = _ := nNum Γ φ x (lo := 0) (hi := 255) (by decide) (by decide)
  cases hp : inN p 0 65535 with
  | false =>
    refine Face.bad h hJ 1 0 (by decide) (by decide) ?_ (fun φ1 r hr => ⟨0, ?_⟩)
    · unfold f_Bus_poke
      rw [hn, show inN p 0 (65536 - 1) = false from hp]; rfl
    · show f_Ref_poke Γ φ1 r p x = _
      unfold f_Ref_poke f_Ref_poke_L34
      rw [show f_Ref_in Γ φ1 p.toInt64 (0 : Int64) (65535 : Int64) = _ from e_inN Γ φ1 p 0 65535, hp, Option.bind_some, if_pos (bf_eq _), if_pos hr.rl.o, if_pos hr.rl.o, if_neg (er_1 _ _)]
      rfl
  | true =>
    obtain ⟨n, _, hn2, rfl, _⟩ := inN_t (by decide) (by decide) hp
    cases hx : inN x 0 255 with
    | false =>
      refine Face.bad h hJ 2 0 (by decide) (by decide) ?_ (fun φ1 r hr => ⟨0, ?_⟩)
      · unfold f_Bus_poke
        rw [hn, show inN (nI n) 0 (65536 - 1) = true from hp, if_pos rfl, bT_l, hm, hx]; rfl
      · show f_Ref_poke Γ φ1 r _ x = _
        unfold f_Ref_poke f_Ref_poke_L34
        rw [show f_Ref_in Γ φ1 (nI n).toInt64 (0 : Int64) (65535 : Int64) = _ from e_inN Γ φ1 (nI n) 0 65535, hp, Option.bind_some, if_neg (bt_ne _), show f_Ref_in Γ φ1 x.toInt64 (0 : Int64) (255 : Int64) = _ from e_inN Γ φ1 x 0 255, hx, Option.bind_some, if_pos (bf_eq _), if_pos hr.rl.o, if_pos hr.rl.o, if_neg (er_2 _ _)]
        rfl
    | true =>
      obtain ⟨v, _, hv, rfl, _⟩ := inN_t (by decide) (by decide) hx
      have hst : 2 ^ (n % 8) < 256 := by
        have : 2 ^ (n % 8) ≤ 2 ^ 7 := Nat.pow_le_pow_right (by decide) (by omega)
        omega
      obtain ⟨φ', a1, a2, a3⟩ := c_store h.mem (x := n) (st := 2 ^ (n % 8)) (by omega) hst (nL (v * 2 ^ (8 * (n % 8))))
      refine Face.do (S' := (S.w_mem (va_up S.mem n v)).w_spo S.spo) (nI (S.mem n)) (φ' := φ') ?_ ?_ (a3.mono (by omega) (by omega)) (hJ.mem (fun y => ?_) _) rfl rfl ?_
      · unfold f_Bus_poke
        rw [hn, show inN (nI n) 0 (65536 - 1) = true from hp, if_pos rfl, bT_l, hm, hx, if_pos rfl, bT_l, if_pos h.lay.o, h.lay.f0, Option.bind_some, if_pos h.mem.o, c_byteAt h.mem (by omega), Option.bind_some, h.lay.f0, Option.bind_some, if_pos h.mem.o, poke_d (by omega), poke_s, a1]
        rfl
      · exact h.memG (a3.mono (by omega) (by omega)) (a2.eq (fun y _ => poke_m (by omega) y))
      · rw [vz_at]
        split
        · omega
        · exact hJ.1.bd.mem y
      · intro φ1 r hr hh he φ0 e0 hr0
        have f2 : RFr r [7] φ1 (uI φ1 (r + 7) n (nI v)) := by repeat (first | exact RFr.refl _ _ _ | refine RFr.uI ?_ (by decide) _ _ | refine RFr.uL ?_ (by decide) _ _ | refine rfr_uO ?_ (by decide) _ _)
        refine ⟨_, ?_, ?_, fun j hj => by rw [f2.i 30 (by decide)]; exact hh j hj, f2.fr (by decide)⟩
        · show f_Ref_poke Γ φ0 r _ _ = _
          unfold f_Ref_poke f_Ref_poke_L34
          rw [show f_Ref_in Γ φ0 (nI n).toInt64 (0 : Int64) (65535 : Int64) = _ from e_inN Γ φ0 (nI n) 0 65535, hp, Option.bind_some, if_neg (bt_ne _), show f_Ref_in Γ φ0 (nI v).toInt64 (0 : Int64) (255 : Int64) = _ from e_inN Γ φ0 (nI v) 0 255, hx, Option.bind_some, if_neg (bt_ne _), if_pos hr.rl.o, if_pos hr.rl.o, if_pos (er_0 _ _), rf_13 hr0.rl, Option.bind_some, rg_13 hr0.rl, Option.bind_some, zix (by omega), Option.bind_some, Option.bind_some, zix (by omega), Option.bind_some, zI_0, ← e0, (hr.me n (by omega)).1]
          rfl
        · refine ⟨(RL.up hr.rl (congrFun f2.1 r)), (by rw [f2.o (by decide)]; exact ⟨hr.sc.nm, hr.sc.ns, hr.sc.lim, hr.sc.pol, hr.sc.whole, hr.sc.time, hr.sc.tk, hr.sc.wm, hr.sc.rm, hr.sc.db, hr.sc.er⟩), (by rw [f2.i 1 (by decide)]; exact hr.pg), (by rw [f2.i 2 (by decide)]; exact hr.mp), (by rw [f2.i 3 (by decide)]; exact hr.sp), (by rw [f2.i 4 (by decide)]; exact hr.ea), (by rw [f2.i 5 (by decide)]; exact hr.de), (by rw [f2.i 6 (by decide)]; exact hr.wa), ?_, (by rw [f2.i 9 (by decide), f2.i 10 (by decide), f2.i 11 (by decide), f2.i 12 (by decide), f2.i 13 (by decide), f2.i 14 (by decide), f2.i 15 (by decide), f2.i 16 (by decide), f2.i 17 (by decide), f2.i 18 (by decide), f2.i 20 (by decide), f2.i 21 (by decide), f2.i 22 (by decide), f2.i 23 (by decide), f2.i 24 (by decide), f2.l 19 (by decide), f2.l 25 (by decide)]; exact hr.tk), (by rw [f2.i 26 (by decide), f2.i 27 (by decide), f2.l 28 (by decide), f2.i 29 (by decide)]; exact hr.wi), (by rw [f2.i 31 (by decide)]; exact hr.tr), (by rw [f2.l 32 (by decide), f2.i 33 (by decide), f2.i 34 (by decide), f2.i 35 (by decide)]; exact hr.row), (by rw [f2.i 36 (by decide), f2.i 37 (by decide), f2.i 38 (by decide), f2.i 39 (by decide)]; exact hr.uw), (by rw [f2.i 40 (by decide), f2.i 41 (by decide), f2.i 42 (by decide)]; exact hr.ur), (by rw [f2.i 43 (by decide), f2.i 44 (by decide), f2.i 45 (by decide), f2.i 46 (by decide), f2.i 47 (by decide)]; exact ⟨hr.la.haw, hr.la.har, hr.la.hb, hr.la.hg, hr.la.hinn⟩), (by rw [f2.i 48 (by decide), f2.i 49 (by decide), f2.i 50 (by decide), f2.l 51 (by decide), f2.i 52 (by decide), f2.i 53 (by decide), f2.i 54 (by decide), f2.l 55 (by decide), f2.i 56 (by decide)]; exact hr.sw), (by rw [f2.i 57 (by decide), f2.i 58 (by decide), f2.i 59 (by decide), f2.l 60 (by decide), f2.i 61 (by decide), f2.i 62 (by decide), f2.i 63 (by decide), f2.l 64 (by decide), f2.i 65 (by decide)]; exact hr.sr), (by rw [f2.i 66 (by decide), f2.i 67 (by decide), f2.i 68 (by decide), f2.i 69 (by decide)]; exact ⟨hr.ch.hnums, hr.ch.hlat, hr.ch.hchb, hr.ch.hchr⟩), (by rw [f2.i 70 (by decide), f2.i 71 (by decide)]; exact hr.rg), (by unfold maOf; rw [f2.i 72 (by decide), f2.l 73 (by decide), f2.i 74 (by decide), f2.i 75 (by decide), f2.i 76 (by decide), f2.i 77 (by decide), f2.i 78 (by decide), f2.i 79 (by decide), f2.i 80 (by decide), f2.i 81 (by decide), f2.l 82 (by decide), f2.i 83 (by decide), f2.i 84 (by decide), f2.i 85 (by decide), f2.l 86 (by decide), f2.i 87 (by decide)]; exact hr.mo), (by rw [f2.i 88 (by decide), f2.i 89 (by decide), f2.l 90 (by decide), f2.i 91 (by decide)]; exact hr.wt)⟩
          rw [uI_s, uI_1, if_neg (by omega)]
          intro y hy
          show va_up _ n (nI v) y = nI (va_up S.mem n v y) ∧ _
          refine ⟨?_, (hr.me y hy).2⟩
          by_cases e : y = n
          · subst e; rw [vz_same, vz_same]
          · rw [vz_ne _ e, vz_ne _ e]; exact (hr.me y hy).1
