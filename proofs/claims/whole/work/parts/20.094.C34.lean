/-! THE CLASS: a master's port is told and looked at -/
theorem BuL.frP {Γ : gm_T} {φ φ' : ph_T} {b nm ns p : Nat} (h : BuL Γ φ b nm ns) (hp : okP nm ns p) (f : Fr (pAd b nm ns p) (pAd b nm ns p + 111) φ φ') : BuL Γ φ' b nm ns := by
  have n4 := h.nm4
  have n5 := h.ns4
  have pin := pA_in (b := b) n4.2 n5.2 hp
  have g1 := bQ_0 b nm ns
  have g2 := sA_0 b nm ns
  have g3 := rA_0 b nm ns
  exact h.up (f.r (by omega)) (f.r (by omega)) (f.r (by omega)) (f.r (by omega)) (f.r (by omega)) (f.r (by omega)) (f.r (by omega))
theorem FrP.toFr {lo hi : Nat} {P : Nat → Prop} {φ φ' : ph_T} (h : FrP P φ φ') (hp : ∀ y, P y → lo ≤ y ∧ y < hi) : Fr lo hi φ φ' := fun y hy => h y (fun hh => by have := hp y hh; omega)
theorem c_showM {Γ : gm_T} {φ : ph_T} {b m : Nat} {T : XS} (h : CV Γ φ b T) (hB : Bd T) (hm : m < T.nm) (hR : ∀ c, c = 2 ∨ c = 4 → hdW (T.wi m) c = true → T.row (5 * m + c) ≠ []) (hmo : ∀ e ∈ (T.mon m).rs, e.n < leN e.con) (K : ph_T → Nat → Int32 → Int32 → Int32 → Int32 → Option (Int32 × ph_T)) (x1 x2 x3 x4 : Int32) (fu : Nat) :
    ∃ φ', f_Bus_runTicks_L25 Γ K (fu + 1) φ b x1 x2 x3 x4 (nI m) = f_Bus_runTicks_L25 Γ K fu φ' b x1 x2 x3 x4 (nI (m + 1)) ∧ CV Γ φ' b ((T.w_wi (va_up T.wi m (T.showM m))).w_mon (va_up T.mon m ((T.mon m).look (T.showM m)))) ∧ Fr b (tAd b T.nm T.ns + 256) φ φ' := by
  have n4 := h.lay.nm4
  have n5 := h.lay.ns4
  have hp : okP T.nm T.ns m := Or.inl hm
  obtain ⟨g1, g2, g3, g4⟩ := h.reg
  have pin := pA_in (b := b) n4.2 n5.2 hp
  have pm := pA_m (b := b) n4.2 n5.2 hp hm
  obtain ⟨hd0, p0⟩ := h.po m hp
  have mo0 := h.mo m hp
  generalize hP : pAd b T.nm T.ns m = P at *
  obtain ⟨φ1, a1, a2, a3⟩ := c_begin p0
  have a3' : Fr P (P + 111) φ φ1 := a3.mono (by omega) (by omega)
  have L1 : BuL Γ φ1 b T.nm T.ns := h.lay.frP hp (by rw [hP]; exact a3')
  have ti1 : φ1.1 b 9 = nI T.time := by rw [a3'.i (by omega)]; exact h.ti
  obtain ⟨φ2, b1, b2, b3⟩ := c_mtell (a := mAd b T.nm T.ns m) (b := tAd b T.nm T.ns) (ap := P) (S := T) (m := m) (by omega) (by omega) ((h.ma m hm).sm (a3'.sm (by omega))) (h.tk.sm (a3'.sm (by omega))) h.tko a2 hB
  have b3' : Fr P (P + 111) φ1 φ2 := b3.mono (by omega) (by omega)
  have L2 : BuL Γ φ2 b T.nm T.ns := L1.frP hp (by rw [hP]; exact b3')
  have sw2 : CSw Γ φ2 (b + 4) T := (h.sw.sm (a3'.sm (by omega))).sm (b3'.sm (by omega))
  obtain ⟨φ3, c1, c2, c3⟩ := c_tellM_L hm (show P + 7 ≤ b + 4 ∨ b + 4 + swZ T.nm T.ns ≤ P by omega) 5 0 jF φ2 _ (by omega) (by unfold jF; omega) sw2 b2
  have c3' : Fr P (P + 111) φ2 φ3 := c3.mono (by omega) (by omega)
  have L3 : BuL Γ φ3 b T.nm T.ns := L2.frP hp (by rw [hP]; exact c3')
  have p3 : CPt Γ φ3 P (T.showM m) (hdW (T.wi m)) (T.tr m) := c2.congr (fun c hc => ⟨(wiM hR c hc).1, (wiM hR c hc).2, rfl⟩)
  have mo3 : CMo Γ φ3 (P + 7) (T.mon m) := ((mo0.sm (a3.sm (by omega))).sm (b3.sm (by omega))).sm (c3.sm (by omega))
  obtain ⟨φ4, d1, d2, d3⟩ := c_look (a := P) (b := P + 7) (by omega) mo3 p3 hmo
  have d3' : Fr P (P + 111) φ3 φ4 := d3.mono (by omega) (by omega)
  refine ⟨φ4, ?_, ?_, (a3'.trans (b3'.trans (c3'.trans d3'))).mono (by omega) (by omega)⟩
  · have e1 : φ.2.2 (bQ b T.nm T.ns + 1) m = some P := by rw [h.lay.mp m hm, hP]
    have e2 : φ1.2.2 (bQ b T.nm T.ns + 1) m = some P := by rw [L1.mp m hm, hP]
    have e3 : φ2.2.2 (bQ b T.nm T.ns + 1) m = some P := by rw [L2.mp m hm, hP]
    have e4 : φ3.2.2 (bQ b T.nm T.ns + 1) m = some P := by rw [L3.mp m hm, hP]
    have c1' : f_Switch_tellMaster Γ φ2 (b + 4) (some P) (nI m) = some ((), φ3) := c1
    have hma : CMa Γ φ1 (mAd b T.nm T.ns m) (tAd b T.nm T.ns) T.tk m (T.mpat m) (T.early m) := (h.ma m hm).sm (a3'.sm (by omega))
    rw [f_Bus_runTicks_L25, if_pos h.lay.o, h.lay.f2, Option.bind_some, h.lay.g2, Option.bind_some, if_neg (by rw [zI_le (by omega) (by omega)]; omega), h.lay.f4, Option.bind_some, h.lay.g4, Option.bind_some, zix (by omega), Option.bind_some, e1, Option.bind_some, if_pos p0.o, a1, Option.bind_some]
    dsimp only
    rw [L1.f2, Option.bind_some, h.lay.g2, Option.bind_some, zix (by omega), Option.bind_some, L1.f4, Option.bind_some, h.lay.g4, Option.bind_some, zix (by omega), Option.bind_some, L1.ma m hm, Option.bind_some, if_pos hma.o, e2, ti1, b1, Option.bind_some]
    dsimp only
    rw [L2.f4, Option.bind_some, h.lay.g4, Option.bind_some, zix (by omega), Option.bind_some, L2.f1, Option.bind_some, if_pos h.sw.lay.o, e3, c1', Option.bind_some]
    dsimp only
    rw [L3.f4, Option.bind_some, h.lay.g4, Option.bind_some, zix (by omega), Option.bind_some, e4, Option.bind_some, if_pos p0.o, Option.bind_some, zix (by omega), Option.bind_some, p3.f6, Option.bind_some, if_pos mo0.o, e4, d1, Option.bind_some, zI_1, zI_add]
  · have hfr : Fr (pAd b T.nm T.ns m) (pAd b T.nm T.ns m + 111) φ φ4 := by rw [hP]; exact a3'.trans (b3'.trans (c3'.trans d3'))
    have := h.port hp hfr (by rw [hP]; exact p3.sm (d3.sm (by omega))) (by rw [hP]; exact d2)
    rw [vz_self, show ((T.w_wi (va_up T.wi m (T.showM m))).w_tr T.tr) = T.w_wi (va_up T.wi m (T.showM m)) from XS.w_tr_self _] at this
    exact this
