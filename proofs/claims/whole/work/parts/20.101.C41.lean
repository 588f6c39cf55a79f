/-! THE CLASS: goes over all ports -/
theorem c_goS {Γ : gm_T} {φ : ph_T} {b s c x1 : Nat} {S : XS} (h : CV Γ φ b S) (hB : Bd S) (hs : s < S.ns) (hc : c < 5) (hmv : mvW (S.wi (4 + s)) c = true) (hP : PrS S s c) (hC : PrC S s c) (K : ph_T → Nat → Int32 → Int32 → Option (Int32 × ph_T)) (fu : Nat) :
    ∃ φ', f_Bus_goOver_L110 Γ K (fu + 1) φ b (nI x1) (nI s) (nI c) = f_Bus_goOver_L110 Γ K fu φ' b (nI (x1 + 1)) (nI s) (nI (c + 1)) ∧ CV Γ φ' b ((S.bump (4 + s) c).passS s c) ∧ Fr b (tAd b S.nm S.ns + 256) φ φ' := by
  have n4 := h.lay.nm4
  have n5 := h.lay.ns4
  have hp : okP S.nm S.ns (4 + s) := Or.inr (Or.inl (by omega))
  obtain ⟨g1, g2, g3, g4⟩ := h.reg
  have pin := pA_in (b := b) n4.2 n5.2 hp
  have ps := pA_s (b := b) n4.2 n5.2 hp hs
  have sin := sA_in (b := b) (nm := S.nm) hs
  obtain ⟨hd0, p0⟩ := h.po (4 + s) hp
  have hsl0 := h.sl s hs
  -- the row
  obtain ⟨φ1, a1, a2, a3⟩ := c_passSlave h.sw p0 hs hc (fun hh => hP.room hh) (fun hh => hP.row (by omega))
  have a3' : Fr (b + 4) (bQ b S.nm S.ns) φ φ1 := by rw [← g1]; exact a3
  have p1 : CPt Γ φ1 (pAd b S.nm S.ns (4 + s)) (S.wi (4 + s)) hd0 (S.tr (4 + s)) := p0.sm (a3'.sm (by omega))
  have hsl1 : CSl Γ φ1 (sAd b S.nm S.ns s) (b + 1) (S.bump (4 + s) c) s := (hsl0.sm (a3'.sm (by omega))).cg rfl rfl rfl rfl rfl rfl (fun i hi => hi) (fun i hi => hi) rfl
  have hm1 : CMem Γ φ1 (b + 1) (S.bump (4 + s) c).mem (S.bump (4 + s) c).spo := h.mem.sm (a3'.sm (by omega))
  have hBb : Bd (S.bump (4 + s) c) := ⟨hB.nm, hB.ns, hB.lim, hB.pol, hB.time, hB.db, hB.moved, hB.pages, hB.mpat, hB.spat, hB.delay, hB.way, hB.mem, hB.sw, hB.sr, hB.rnum, hB.lat, hB.uw, hB.ur, hB.la, hB.lr, hB.lb, hB.lg, hB.rgt, hB.rowT, hB.tk⟩
  have hPb : PrS (S.bump (4 + s) c) s c := ⟨hP.sw, hP.rg, hP.mem, hP.row, hP.room, hP.c0, hP.c1, hP.c2, hP.c3, hP.c4⟩
  have hCb : PrC (S.bump (4 + s) c) s c := ⟨hC.cb, hC.z⟩
  -- the slave
  obtain ⟨φ2, b1, b2, b3, b4⟩ := c_spass (a := sAd b S.nm S.ns s) (am := b + 1) (ap := pAd b S.nm S.ns (4 + s)) (S := S.bump (4 + s) c) (by omega) hsl1 hm1 p1 hBb hPb hCb hc
  have p2 : CPt Γ φ2 (pAd b S.nm S.ns (4 + s)) (S.wi (4 + s)) hd0 (S.tr (4 + s)) := p1.sm (b4.sm (fun y _ _ => by unfold pSm; omega))
  obtain ⟨φ3, c1, c2, c3⟩ := c_count p2 hc
  have f1 : FrP (pGs b S.nm S.ns s) φ φ1 := a3'.toP (fun y _ _ => Or.inl (by omega))
  have f2 : FrP (pGs b S.nm S.ns s) φ1 φ2 := b4.mono (fun y hy => by rcases hy with hy | hy; exact Or.inr (Or.inl hy); exact Or.inl (by omega))
  have f3 : FrP (pGs b S.nm S.ns s) φ2 φ3 := c3.toP (fun y h1 h2 => Or.inr (Or.inr ⟨h1, h2⟩))
  have LU : ∀ {ψ ψ' : ph_T}, BuL Γ ψ b S.nm S.ns → FrP (pGs b S.nm S.ns s) ψ ψ' → BuL Γ ψ' b S.nm S.ns := fun {ψ ψ'} hL f => by
    have R : ∀ y, ¬ pGs b S.nm S.ns s y → ψ'.2.2 y = ψ.2.2 y := fun y hy => (f y hy).2.2
    exact hL.up (R _ (by unfold pGs; omega)) (R _ (by unfold pGs; omega)) (R _ (by unfold pGs; omega)) (R _ (by unfold pGs; omega)) (R _ (by unfold pGs; omega)) (R _ (by unfold pGs; omega)) (R _ (by unfold pGs; omega))
  have L1 := LU h.lay f1
  have L2 := LU L1 f2
  have ti1 : φ1.1 b 9 = nI S.time := by rw [a3'.i (by omega)]; exact h.ti
  refine ⟨φ3, ?_, ?_, (f1.trans (f2.trans f3)).toFr (fun y hy => by unfold pGs at hy; omega)⟩
  · have b1' : f_Slave_pass Γ φ1 (sAd b S.nm S.ns s) (some (pAd b S.nm S.ns (4 + s))) (nI c) (nI S.time) = some ((), φ2) := b1
    rw [f_Bus_goOver_L110, if_neg (by rw [show (5 : Int32) = nI 5 from rfl, zI_le (by omega) (by omega)]; omega), if_pos h.lay.o, h.lay.f5, Option.bind_some, h.lay.g5, Option.bind_some, zix (by omega), Option.bind_some, h.lay.sp s hs, Option.bind_some, if_pos p0.o, c_moves p0 hc, Option.bind_some]
    dsimp only
    rw [hmv, if_neg (by decide), h.lay.f5, Option.bind_some, h.lay.g5, Option.bind_some, zix (by omega), Option.bind_some, h.lay.f1, Option.bind_some, if_pos h.sw.lay.o, h.lay.sp s hs, h.ti, a1, Option.bind_some]
    dsimp only
    rw [L1.f3, Option.bind_some, h.lay.g3, Option.bind_some, zix (by omega), Option.bind_some, L1.f5, Option.bind_some, h.lay.g5, Option.bind_some, zix (by omega), Option.bind_some, L1.sl s hs, Option.bind_some, if_pos hsl0.o, L1.sp s hs, ti1, b1', Option.bind_some]
    dsimp only
    rw [L2.f5, Option.bind_some, h.lay.g5, Option.bind_some, zix (by omega), Option.bind_some, L2.sp s hs, Option.bind_some, if_pos p0.o, c1, Option.bind_some]
    unfold f_Bus_goOver_L180
    dsimp only
    rw [zI_add, zI_1, zI_add]
  · have hrow : ((S.bump (4 + s) c).passS s c).row = (if c = 2 ∨ c = 4 then S.put (5 * (4 + s) + c) ⟨((S.wi (4 + s)).w c).c, ((S.wi (4 + s)).w c).r, S.time⟩ else S.drop (5 * (4 + s) + c)).row := by
      rw [pS_row _ hc]
      by_cases hcc : c = 2 ∨ c = 4
      · rw [if_pos hcc, if_pos hcc]
        by_cases c2' : c = 2
        · subst c2'
          rw [if_pos rfl, ← hC.z rfl]
          rfl
        · rw [if_neg c2']
          rfl
      · rw [if_neg hcc, if_neg hcc]
        rfl
    have e : swZ (if c = 2 ∨ c = 4 then S.put (5 * (4 + s) + c) ⟨((S.wi (4 + s)).w c).c, ((S.wi (4 + s)).w c).r, S.time⟩ else S.drop (5 * (4 + s) + c)).nm (if c = 2 ∨ c = 4 then S.put (5 * (4 + s) + c) ⟨((S.wi (4 + s)).w c).c, ((S.wi (4 + s)).w c).r, S.time⟩ else S.drop (5 * (4 + s) + c)).ns = swZ S.nm S.ns := by split <;> rfl
    have hsw3 : CSw Γ φ3 (b + 4) ((S.bump (4 + s) c).passS s c) := by
      have e1 := a2.sm (φ' := φ2) (by
        have := b4.sm (lo := b + 4) (hi := bQ b S.nm S.ns) (fun y _ _ => by unfold pSm; omega)
        rw [← g1] at this
        rw [e]
        exact this)
      have e2 := e1.sm (φ' := φ3) (by
        have := c3.sm (lo' := b + 4) (hi' := bQ b S.nm S.ns) (by omega)
        rw [← g1] at this
        rw [e]
        exact this)
      refine e2.cg ((pS_nm _ s c).trans ?_) ((pS_ns _ s c).trans ?_) ((pS_lim _ s c).trans ?_) ((pS_pol _ s c).trans ?_) ((pS_whole _ s c).trans ?_) ((pS_dbeat _ s c).trans ?_) ((pS_moved _ s c).trans ?_) ((pS_pages _ s c).trans ?_) hrow ((pS_uw _ s c).trans ?_) ((pS_ur _ s c).trans ?_) ((pS_la _ s c).trans ?_) ((pS_lr _ s c).trans ?_) ((pS_lb _ s c).trans ?_) ((pS_lg _ s c).trans ?_) ((pS_inb _ s c).trans ?_)
      all_goals (split <;> rfl)
    have hsl3 : CSl Γ φ3 (sAd b S.nm S.ns s) (b + 1) ((S.bump (4 + s) c).passS s c) s := b2.sm (c3.sm (by omega))
    have hm3 : CMem Γ φ3 (b + 1) ((S.bump (4 + s) c).passS s c).mem ((S.bump (4 + s) c).passS s c).spo := b3.sm (c3.sm (by omega))
    exact h.passS hs (f1.trans (f2.trans f3)) hsw3 hsl3 hm3 c2 (pS_nm _ s c) (pS_ns _ s c) (pS_tk _ s c) (pS_time _ s c) (pS_mpat _ s c) (pS_early _ s c) (pS_wi _ s c) (pS_tr _ s c) (pS_mon _ s c) (fun s' hne => pS_ne _ hne) (pS_spat _ s c) (pS_delay _ s c) (pS_way _ s c)
