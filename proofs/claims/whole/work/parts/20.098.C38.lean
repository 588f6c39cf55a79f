/-! THE CLASS: a master's transfer, the whole -/
theorem pb_nm (S : XS) (m c p q : Nat) : ((S.bump p q).passM m c).nm = S.nm := by
  unfold XS.passM
  simp only
  repeat' split
  all_goals rfl
theorem pb_ns (S : XS) (m c p q : Nat) : ((S.bump p q).passM m c).ns = S.ns := by
  unfold XS.passM
  simp only
  repeat' split
  all_goals rfl
theorem pb_lim (S : XS) (m c p q : Nat) : ((S.bump p q).passM m c).lim = S.lim := by
  unfold XS.passM
  simp only
  repeat' split
  all_goals rfl
theorem pb_pol (S : XS) (m c p q : Nat) : ((S.bump p q).passM m c).pol = S.pol := by
  unfold XS.passM
  simp only
  repeat' split
  all_goals rfl
theorem pb_whole (S : XS) (m c p q : Nat) : ((S.bump p q).passM m c).whole = S.whole := by
  unfold XS.passM
  simp only
  repeat' split
  all_goals rfl
theorem pb_time (S : XS) (m c p q : Nat) : ((S.bump p q).passM m c).time = S.time := by
  unfold XS.passM
  simp only
  repeat' split
  all_goals rfl
theorem pb_dbeat (S : XS) (m c p q : Nat) : ((S.bump p q).passM m c).dbeat = S.dbeat := by
  unfold XS.passM
  simp only
  repeat' split
  all_goals rfl
theorem pb_moved (S : XS) (m c p q : Nat) : ((S.bump p q).passM m c).moved = S.moved := by
  unfold XS.passM
  simp only
  repeat' split
  all_goals rfl
theorem pb_pages (S : XS) (m c p q : Nat) : ((S.bump p q).passM m c).pages = S.pages := by
  unfold XS.passM
  simp only
  repeat' split
  all_goals rfl
theorem pb_mpat (S : XS) (m c p q : Nat) : ((S.bump p q).passM m c).mpat = S.mpat := by
  unfold XS.passM
  simp only
  repeat' split
  all_goals rfl
theorem pb_spat (S : XS) (m c p q : Nat) : ((S.bump p q).passM m c).spat = S.spat := by
  unfold XS.passM
  simp only
  repeat' split
  all_goals rfl
theorem pb_early (S : XS) (m c p q : Nat) : ((S.bump p q).passM m c).early = S.early := by
  unfold XS.passM
  simp only
  repeat' split
  all_goals rfl
theorem pb_delay (S : XS) (m c p q : Nat) : ((S.bump p q).passM m c).delay = S.delay := by
  unfold XS.passM
  simp only
  repeat' split
  all_goals rfl
theorem pb_way (S : XS) (m c p q : Nat) : ((S.bump p q).passM m c).way = S.way := by
  unfold XS.passM
  simp only
  repeat' split
  all_goals rfl
theorem pb_mem (S : XS) (m c p q : Nat) : ((S.bump p q).passM m c).mem = S.mem := by
  unfold XS.passM
  simp only
  repeat' split
  all_goals rfl
theorem pb_spo (S : XS) (m c p q : Nat) : ((S.bump p q).passM m c).spo = S.spo := by
  unfold XS.passM
  simp only
  repeat' split
  all_goals rfl
theorem pb_wi (S : XS) (m c p q : Nat) : ((S.bump p q).passM m c).wi = S.wi := by
  unfold XS.passM
  simp only
  repeat' split
  all_goals rfl
theorem pb_uw (S : XS) (m c p q : Nat) : ((S.bump p q).passM m c).uw = S.uw := by
  unfold XS.passM
  simp only
  repeat' split
  all_goals rfl
theorem pb_ur (S : XS) (m c p q : Nat) : ((S.bump p q).passM m c).ur = S.ur := by
  unfold XS.passM
  simp only
  repeat' split
  all_goals rfl
theorem pb_la (S : XS) (m c p q : Nat) : ((S.bump p q).passM m c).la = S.la := by
  unfold XS.passM
  simp only
  repeat' split
  all_goals rfl
theorem pb_lr (S : XS) (m c p q : Nat) : ((S.bump p q).passM m c).lr = S.lr := by
  unfold XS.passM
  simp only
  repeat' split
  all_goals rfl
theorem pb_lb (S : XS) (m c p q : Nat) : ((S.bump p q).passM m c).lb = S.lb := by
  unfold XS.passM
  simp only
  repeat' split
  all_goals rfl
theorem pb_lg (S : XS) (m c p q : Nat) : ((S.bump p q).passM m c).lg = S.lg := by
  unfold XS.passM
  simp only
  repeat' split
  all_goals rfl
theorem pb_inb (S : XS) (m c p q : Nat) : ((S.bump p q).passM m c).inb = S.inb := by
  unfold XS.passM
  simp only
  repeat' split
  all_goals rfl
theorem pb_sw (S : XS) (m c p q : Nat) : ((S.bump p q).passM m c).sw = S.sw := by
  unfold XS.passM
  simp only
  repeat' split
  all_goals rfl
theorem pb_sr (S : XS) (m c p q : Nat) : ((S.bump p q).passM m c).sr = S.sr := by
  unfold XS.passM
  simp only
  repeat' split
  all_goals rfl
theorem pb_lat (S : XS) (m c p q : Nat) : ((S.bump p q).passM m c).lat = S.lat := by
  unfold XS.passM
  simp only
  repeat' split
  all_goals rfl
theorem pb_chb (S : XS) (m c p q : Nat) : ((S.bump p q).passM m c).chb = S.chb := by
  unfold XS.passM
  simp only
  repeat' split
  all_goals rfl
theorem pb_chr (S : XS) (m c p q : Nat) : ((S.bump p q).passM m c).chr = S.chr := by
  unfold XS.passM
  simp only
  repeat' split
  all_goals rfl
theorem pb_rgt (S : XS) (m c p q : Nat) : ((S.bump p q).passM m c).rgt = S.rgt := by
  unfold XS.passM
  simp only
  repeat' split
  all_goals rfl
theorem pb_mon (S : XS) (m c p q : Nat) : ((S.bump p q).passM m c).mon = S.mon := by
  unfold XS.passM
  simp only
  repeat' split
  all_goals rfl
theorem pb_tk (S : XS) (m c p q : Nat) : ((S.bump p q).passM m c).tk = (S.passM m c).tk := by
  unfold XS.passM
  simp only
  repeat' split
  all_goals rfl
theorem pb_row (S : XS) (m c p q : Nat) : ((S.bump p q).passM m c).row = (S.passM m c).row := by
  unfold XS.passM
  simp only
  repeat' split
  all_goals rfl
theorem pb_tr (S : XS) (m c p q : Nat) : ((S.bump p q).passM m c).tr = va_up S.tr p (va_up (S.tr p) q (S.tr p q + 1)) := by
  unfold XS.passM
  simp only
  repeat' split
  all_goals rfl
theorem c_goM {Γ : gm_T} {φ : ph_T} {b m c x1 : Nat} {S : XS} (h : CV Γ φ b S) (hB : Bd S) (hm : m < S.nm) (hc : c < 5) (hmv : mvW (S.wi m) c = true) (hP : PreM S m c) (K : ph_T → Nat → Int32 → Int32 → Option (Int32 × ph_T)) (fu : Nat) :
    ∃ φ', f_Bus_goOver_L15 Γ K (fu + 1) φ b (nI x1) (nI m) (nI c) = f_Bus_goOver_L15 Γ K fu φ' b (nI (x1 + 1)) (nI m) (nI (c + 1)) ∧ CV Γ φ' b ((S.bump m c).passM m c) ∧ Fr b (tAd b S.nm S.ns + 256) φ φ' := by
  have n4 := h.lay.nm4
  have n5 := h.lay.ns4
  have hp : okP S.nm S.ns m := Or.inl hm
  obtain ⟨g1, g2, g3, g4⟩ := h.reg
  have pin := pA_in (b := b) n4.2 n5.2 hp
  have pm := pA_m (b := b) n4.2 n5.2 hp hm
  have min := mA_in (b := b) (ns := S.ns) hm
  obtain ⟨hd0, p0⟩ := h.po m hp
  have hma0 := h.ma m hm
  -- the row
  obtain ⟨φ1, a1, a2, a3⟩ := c_passMaster h.sw p0 hm hc (fun hh => by
      by_cases e1 : c = 1
      · subst e1; exact (hP.h1 rfl).1
      · exact (hP.h0 (by omega)).1) (fun hh => hP.h2 hh)
  have a3' : Fr (b + 4) (bQ b S.nm S.ns) φ φ1 := by rw [← g1]; exact a3
  have p1 : CPt Γ φ1 (pAd b S.nm S.ns m) (S.wi m) hd0 (S.tr m) := p0.sm (a3'.sm (by omega))
  have hma1 := hma0.sm (a3'.sm (by omega))
  have htk1 : CTk Γ φ1 (tAd b S.nm S.ns) S.tk := h.tk.sm (a3'.sm (by omega))
  -- the tickets
  obtain ⟨φ2, b1, b2, b3, b4, b5, b6, b7⟩ := c_mpass (a := mAd b S.nm S.ns m) (b := tAd b S.nm S.ns) (ap := pAd b S.nm S.ns m) (by omega) (by omega) hma1 htk1 h.tko p1 hB hP hc
  have p2 : CPt Γ φ2 (pAd b S.nm S.ns m) (S.wi m) hd0 (S.tr m) := p1.sm (b6.sm (fun y _ _ => by unfold pMt; omega))
  -- the count
  obtain ⟨φ3, c1, c2, c3⟩ := c_count p2 hc
  have f1 : FrP (pGm b S.nm S.ns m) φ φ1 := a3'.toP (fun y _ _ => Or.inl (by omega))
  have f2 : FrP (pGm b S.nm S.ns m) φ1 φ2 := b6.mono (fun y hy => by rcases hy with hy | hy; exact Or.inr (Or.inl hy); exact Or.inr (Or.inr (Or.inl hy)))
  have f3 : FrP (pGm b S.nm S.ns m) φ2 φ3 := c3.toP (fun y h1 h2 => Or.inr (Or.inr (Or.inr ⟨h1, h2⟩)))
  have LU : ∀ {ψ ψ' : ph_T}, BuL Γ ψ b S.nm S.ns → FrP (pGm b S.nm S.ns m) ψ ψ' → BuL Γ ψ' b S.nm S.ns := fun {ψ ψ'} hL f => by
    have R : ∀ y, ¬ pGm b S.nm S.ns m y → ψ'.2.2 y = ψ.2.2 y := fun y hy => (f y hy).2.2
    exact hL.up (R _ (by unfold pGm; omega)) (R _ (by unfold pGm; omega)) (R _ (by unfold pGm; omega)) (R _ (by unfold pGm; omega)) (R _ (by unfold pGm; omega)) (R _ (by unfold pGm; omega)) (R _ (by unfold pGm; omega))
  have L1 := LU h.lay f1
  have L2 := LU L1 f2
  have ti1 : φ1.1 b 9 = nI S.time := by rw [a3'.i (by omega)]; exact h.ti
  refine ⟨φ3, ?_, ?_, (f1.trans (f2.trans f3)).toFr (fun y hy => by unfold pGm at hy; omega)⟩
  · rw [f_Bus_goOver_L15, if_neg (by rw [show (5 : Int32) = nI 5 from rfl, zI_le (by omega) (by omega)]; omega), if_pos h.lay.o, h.lay.f4, Option.bind_some, h.lay.g4, Option.bind_some, zix (by omega), Option.bind_some, h.lay.mp m hm, Option.bind_some, if_pos p0.o, c_moves p0 hc, Option.bind_some]
    dsimp only
    rw [hmv, if_neg (by decide), h.lay.f4, Option.bind_some, h.lay.g4, Option.bind_some, zix (by omega), Option.bind_some, h.lay.f1, Option.bind_some, if_pos h.sw.lay.o, h.lay.mp m hm, h.ti, a1, Option.bind_some]
    dsimp only
    rw [L1.f2, Option.bind_some, h.lay.g2, Option.bind_some, zix (by omega), Option.bind_some, L1.f4, Option.bind_some, h.lay.g4, Option.bind_some, zix (by omega), Option.bind_some, L1.ma m hm, Option.bind_some, if_pos hma0.o, L1.mp m hm, ti1, b1, Option.bind_some]
    dsimp only
    rw [L2.f4, Option.bind_some, h.lay.g4, Option.bind_some, zix (by omega), Option.bind_some, L2.mp m hm, Option.bind_some, if_pos p0.o, c1, Option.bind_some]
    unfold f_Bus_goOver_L85
    dsimp only
    rw [zI_add, zI_1, zI_add]
  · have hsw3 : CSw Γ φ3 (b + 4) (S.w_row (S.passM m c).row) := by
      have e1 := (a2.sm (S := _) (by
        have := b6.sm (lo := b + 4) (hi := bQ b S.nm S.ns) (fun y _ _ => by unfold pMt; omega)
        rw [← g1] at this
        have e : swZ (if c = 2 ∨ c = 4 then S.drop (5 * m + c) else S.put (5 * m + c) ⟨((S.wi m).w c).c, ((S.wi m).w c).r, S.time⟩).nm (if c = 2 ∨ c = 4 then S.drop (5 * m + c) else S.put (5 * m + c) ⟨((S.wi m).w c).c, ((S.wi m).w c).r, S.time⟩).ns = swZ S.nm S.ns := by split <;> rfl
        rw [e]
        exact this))
      have e2 := e1.sm (φ' := φ3) (by
        have := c3.sm (lo' := b + 4) (hi' := bQ b S.nm S.ns) (by omega)
        rw [← g1] at this
        have e : swZ (if c = 2 ∨ c = 4 then S.drop (5 * m + c) else S.put (5 * m + c) ⟨((S.wi m).w c).c, ((S.wi m).w c).r, S.time⟩).nm (if c = 2 ∨ c = 4 then S.drop (5 * m + c) else S.put (5 * m + c) ⟨((S.wi m).w c).c, ((S.wi m).w c).r, S.time⟩).ns = swZ S.nm S.ns := by split <;> rfl
        rw [e]
        exact this)
      refine e2.cg ?_ ?_ ?_ ?_ ?_ ?_ ?_ ?_ (passM_row S hc) ?_ ?_ ?_ ?_ ?_ ?_ ?_
      all_goals (split <;> rfl)
    have hfin := h.passM hm (f1.trans (f2.trans f3)) hsw3 (b2.sm (c3.sm (by omega))) b5 (b3.sm (c3.sm (by omega))) b4 c2 b7
    exact hfin.cg (pb_nm S m c m c) (pb_ns S m c m c) (pb_lim S m c m c) (pb_pol S m c m c) (pb_whole S m c m c) (pb_time S m c m c) (pb_dbeat S m c m c) (pb_moved S m c m c) (pb_pages S m c m c) (pb_mpat S m c m c) (pb_spat S m c m c) (pb_early S m c m c) (pb_delay S m c m c) (pb_way S m c m c) (pb_mem S m c m c) (pb_spo S m c m c) (pb_tk S m c m c) (pb_wi S m c m c) (pb_tr S m c m c) (pb_row S m c m c) (pb_uw S m c m c) (pb_ur S m c m c) (pb_la S m c m c) (pb_lr S m c m c) (pb_lb S m c m c) (pb_lg S m c m c) (pb_inb S m c m c) (pb_sw S m c m c) (pb_sr S m c m c) (pb_lat S m c m c) (pb_chb S m c m c) (pb_chr S m c m c) (pb_rgt S m c m c) (pb_mon S m c m c)
