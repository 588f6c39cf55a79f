/-! THE CLASS: all moves of the crossbar -/
theorem mv_L2 {Γ : gm_T} {w nm ns : Nat} {I : XS → Prop} (hI : MvC I) : ∀ (d i fu : Nat) (φ : ph_T) (S : XS), S.nm = nm → S.ns = ns → i + d = S.ns + 1 → d < fu → CSw Γ φ w S → I S →
    ∃ φ', f_Switch_moveAll_L2 Γ fu φ w (nI i) = f_Switch_moveAll_L28 Γ jF φ' w (nI 0) ∧ CSw Γ φ' w (iterN (fun S t => S.movA 0 t) d i S) ∧ I (iterN (fun S t => S.movA 0 t) d i S) ∧ (iterN (fun S t => S.movA 0 t) d i S).nm = nm ∧ (iterN (fun S t => S.movA 0 t) d i S).ns = ns ∧ Fr w (w + swZ nm ns) φ φ' := by
  intro d
  induction d with
  | zero =>
    intro i fu φ S hnm hns hd hfu h hS
    have h4 := h.lay.nm4
    have h5 := h.lay.ns4
    match fu, hfu with
    | fu + 1, _ =>
      refine ⟨φ, ?_, h, hS, hnm, hns, Fr.refl _ _ _⟩
      rw [f_Switch_moveAll_L2]
      rw [if_pos (h.lay.o), h.ob.ns, if_pos (by rw [zI_lt (by omega) (by omega)]; omega)]
      rfl
  | succ d ih =>
    intro i fu φ S hnm hns hd hfu h hS
    have h4 := h.lay.nm4
    have h5 := h.lay.ns4
    match fu, hfu with
    | fu + 1, hfu =>
      obtain ⟨hB, iA, iD, iW, iR, iB, iG⟩ := hI S hS

      obtain ⟨φ1, a1, a2, a3⟩ := c_movA (t := i) (c := 0) h hB (by omega) (Or.inl rfl)
      obtain ⟨k1, k2, k3, k4⟩ := movA_4 S 0 i
      obtain ⟨φ2, b1, b2, b3, b4, b5, b6⟩ := ih (i + 1) fu φ1 _ (k2.trans hnm) (k3.trans hns) (by rw [k3]; omega) (by omega) a2 (iA 0 i (Or.inl rfl) (by omega))
      rw [hnm, hns] at a3
      refine ⟨φ2, ?_, b2, b3, b4, b5, a3.trans b6⟩
      rw [f_Switch_moveAll_L2, if_pos h.lay.o, h.ob.ns, if_neg (by rw [zI_lt (by omega) (by omega)]; omega)]
      have a1' : f_Switch_moveAddress Γ φ w (nI i) (0 : Int32) (some (swB w S.nm S.ns)) = some ((), φ1) := a1
      rw [h.lay.f8, a1', Option.bind_some]
      rw [show nI i + (1 : Int32) = nI (i + 1) from by rw [zI_1, zI_add]]
      exact b1
theorem mv_L28 {Γ : gm_T} {w nm ns : Nat} {I : XS → Prop} (hI : MvC I) : ∀ (d i fu : Nat) (φ : ph_T) (S : XS), S.nm = nm → S.ns = ns → i + d = S.ns + 1 → d < fu → CSw Γ φ w S → I S →
    ∃ φ', f_Switch_moveAll_L28 Γ fu φ w (nI i) = f_Switch_moveAll_L54 Γ jF φ' w (nI 0) ∧ CSw Γ φ' w (iterN (fun S t => S.movA 3 t) d i S) ∧ I (iterN (fun S t => S.movA 3 t) d i S) ∧ (iterN (fun S t => S.movA 3 t) d i S).nm = nm ∧ (iterN (fun S t => S.movA 3 t) d i S).ns = ns ∧ Fr w (w + swZ nm ns) φ φ' := by
  intro d
  induction d with
  | zero =>
    intro i fu φ S hnm hns hd hfu h hS
    have h4 := h.lay.nm4
    have h5 := h.lay.ns4
    match fu, hfu with
    | fu + 1, _ =>
      refine ⟨φ, ?_, h, hS, hnm, hns, Fr.refl _ _ _⟩
      rw [f_Switch_moveAll_L28]
      rw [if_pos (h.lay.o), h.ob.ns, if_pos (by rw [zI_lt (by omega) (by omega)]; omega)]
      rfl
  | succ d ih =>
    intro i fu φ S hnm hns hd hfu h hS
    have h4 := h.lay.nm4
    have h5 := h.lay.ns4
    match fu, hfu with
    | fu + 1, hfu =>
      obtain ⟨hB, iA, iD, iW, iR, iB, iG⟩ := hI S hS

      obtain ⟨φ1, a1, a2, a3⟩ := c_movA (t := i) (c := 3) h hB (by omega) (Or.inr rfl)
      obtain ⟨k1, k2, k3, k4⟩ := movA_4 S 3 i
      obtain ⟨φ2, b1, b2, b3, b4, b5, b6⟩ := ih (i + 1) fu φ1 _ (k2.trans hnm) (k3.trans hns) (by rw [k3]; omega) (by omega) a2 (iA 3 i (Or.inr rfl) (by omega))
      rw [hnm, hns] at a3
      refine ⟨φ2, ?_, b2, b3, b4, b5, a3.trans b6⟩
      rw [f_Switch_moveAll_L28, if_pos h.lay.o, h.ob.ns, if_neg (by rw [zI_lt (by omega) (by omega)]; omega)]
      have a1' : f_Switch_moveAddress Γ φ w (nI i) (3 : Int32) (some (swB w S.nm S.ns + 1)) = some ((), φ1) := a1
      rw [h.lay.f9, a1', Option.bind_some]
      rw [show nI i + (1 : Int32) = nI (i + 1) from by rw [zI_1, zI_add]]
      exact b1
theorem mv_L54 {Γ : gm_T} {w nm ns : Nat} {I : XS → Prop} (hI : MvC I) : ∀ (d i fu : Nat) (φ : ph_T) (S : XS), S.nm = nm → S.ns = ns → i + d = S.nm → d < fu → CSw Γ φ w S → I S →
    ∃ φ', f_Switch_moveAll_L54 Γ fu φ w (nI i) = (f_Switch_refuseWrite Γ φ' w).bind (fun q8 => (f_Switch_refuseRead Γ q8.2 w).bind fun q9 => f_Switch_moveAll_L83 Γ jF q9.2 w (nI 0)) ∧ CSw Γ φ' w (iterN (XS.movD) d i S) ∧ I (iterN (XS.movD) d i S) ∧ (iterN (XS.movD) d i S).nm = nm ∧ (iterN (XS.movD) d i S).ns = ns ∧ Fr w (w + swZ nm ns) φ φ' := by
  intro d
  induction d with
  | zero =>
    intro i fu φ S hnm hns hd hfu h hS
    have h4 := h.lay.nm4
    have h5 := h.lay.ns4
    match fu, hfu with
    | fu + 1, _ =>
      refine ⟨φ, ?_, h, hS, hnm, hns, Fr.refl _ _ _⟩
      rw [f_Switch_moveAll_L54]
      rw [if_pos (h.lay.o), h.ob.nm, if_pos (by rw [zI_le (by omega) (by omega)]; omega)]
      rfl
  | succ d ih =>
    intro i fu φ S hnm hns hd hfu h hS
    have h4 := h.lay.nm4
    have h5 := h.lay.ns4
    match fu, hfu with
    | fu + 1, hfu =>
      obtain ⟨hB, iA, iD, iW, iR, iB, iG⟩ := hI S hS

      obtain ⟨φ1, a1, a2, a3⟩ := c_movD h hB (show i < S.nm by omega) (iD i (by omega)).1 (iD i (by omega)).2.1
      obtain ⟨k1, k2, k3, k4⟩ := movD_4 S i
      obtain ⟨φ2, b1, b2, b3, b4, b5, b6⟩ := ih (i + 1) fu φ1 _ (k2.trans hnm) (k3.trans hns) (by rw [k2]; omega) (by omega) a2 ((iD i (by omega)).2.2)
      rw [hnm, hns] at a3
      refine ⟨φ2, ?_, b2, b3, b4, b5, a3.trans b6⟩
      rw [f_Switch_moveAll_L54, if_pos h.lay.o, h.ob.nm, if_neg (by rw [zI_le (by omega) (by omega)]; omega)]
      rw [a1, Option.bind_some]
      rw [show nI i + (1 : Int32) = nI (i + 1) from by rw [zI_1, zI_add]]
      exact b1
theorem mv_L83 {Γ : gm_T} {w nm ns : Nat} {I : XS → Prop} (hI : MvC I) : ∀ (d i fu : Nat) (φ : ph_T) (S : XS), S.nm = nm → S.ns = ns → i + d = S.nm → d < fu → CSw Γ φ w S → I S →
    ∃ φ', f_Switch_moveAll_L83 Γ fu φ w (nI i) = f_Switch_moveAll_L104 Γ jF φ' w (nI 0) ∧ CSw Γ φ' w (iterN (XS.movB) d i S) ∧ I (iterN (XS.movB) d i S) ∧ (iterN (XS.movB) d i S).nm = nm ∧ (iterN (XS.movB) d i S).ns = ns ∧ Fr w (w + swZ nm ns) φ φ' := by
  intro d
  induction d with
  | zero =>
    intro i fu φ S hnm hns hd hfu h hS
    have h4 := h.lay.nm4
    have h5 := h.lay.ns4
    match fu, hfu with
    | fu + 1, _ =>
      refine ⟨φ, ?_, h, hS, hnm, hns, Fr.refl _ _ _⟩
      rw [f_Switch_moveAll_L83]
      rw [if_pos (h.lay.o), h.ob.nm, if_pos (by rw [zI_le (by omega) (by omega)]; omega)]
      rfl
  | succ d ih =>
    intro i fu φ S hnm hns hd hfu h hS
    have h4 := h.lay.nm4
    have h5 := h.lay.ns4
    match fu, hfu with
    | fu + 1, hfu =>
      obtain ⟨hB, iA, iD, iW, iR, iB, iG⟩ := hI S hS

      obtain ⟨φ1, a1, a2, a3⟩ := c_movB h hB (show i < S.nm by omega) (iB i (by omega)).1
      obtain ⟨k1, k2, k3, k4⟩ := movB_4 S i
      obtain ⟨φ2, b1, b2, b3, b4, b5, b6⟩ := ih (i + 1) fu φ1 _ (k2.trans hnm) (k3.trans hns) (by rw [k2]; omega) (by omega) a2 ((iB i (by omega)).2)
      rw [hnm, hns] at a3
      refine ⟨φ2, ?_, b2, b3, b4, b5, a3.trans b6⟩
      rw [f_Switch_moveAll_L83, if_pos h.lay.o, h.ob.nm, if_neg (by rw [zI_le (by omega) (by omega)]; omega)]
      rw [a1, Option.bind_some]
      rw [show nI i + (1 : Int32) = nI (i + 1) from by rw [zI_1, zI_add]]
      exact b1
theorem mv_L104 {Γ : gm_T} {w nm ns : Nat} {I : XS → Prop} (hI : MvC I) : ∀ (d i fu : Nat) (φ : ph_T) (S : XS), S.nm = nm → S.ns = ns → i + d = S.nm → d < fu → CSw Γ φ w S → I S →
    ∃ φ', f_Switch_moveAll_L104 Γ fu φ w (nI i) = some ((), φ') ∧ CSw Γ φ' w (iterN (XS.movR) d i S) ∧ I (iterN (XS.movR) d i S) ∧ (iterN (XS.movR) d i S).nm = nm ∧ (iterN (XS.movR) d i S).ns = ns ∧ Fr w (w + swZ nm ns) φ φ' := by
  intro d
  induction d with
  | zero =>
    intro i fu φ S hnm hns hd hfu h hS
    have h4 := h.lay.nm4
    have h5 := h.lay.ns4
    match fu, hfu with
    | fu + 1, _ =>
      refine ⟨φ, ?_, h, hS, hnm, hns, Fr.refl _ _ _⟩
      rw [f_Switch_moveAll_L104]
      rw [if_pos (h.lay.o), h.ob.nm, if_pos (by rw [zI_le (by omega) (by omega)]; omega)]
  | succ d ih =>
    intro i fu φ S hnm hns hd hfu h hS
    have h4 := h.lay.nm4
    have h5 := h.lay.ns4
    match fu, hfu with
    | fu + 1, hfu =>
      obtain ⟨hB, iA, iD, iW, iR, iB, iG⟩ := hI S hS

      obtain ⟨φ1, a1, a2, a3⟩ := c_movR h hB (show i < S.nm by omega)
      obtain ⟨k1, k2, k3, k4⟩ := movR_4 S i
      obtain ⟨φ2, b1, b2, b3, b4, b5, b6⟩ := ih (i + 1) fu φ1 _ (k2.trans hnm) (k3.trans hns) (by rw [k2]; omega) (by omega) a2 (iG i (by omega))
      rw [hnm, hns] at a3
      refine ⟨φ2, ?_, b2, b3, b4, b5, a3.trans b6⟩
      rw [f_Switch_moveAll_L104, if_pos h.lay.o, h.ob.nm, if_neg (by rw [zI_le (by omega) (by omega)]; omega)]
      rw [a1, Option.bind_some]
      rw [show nI i + (1 : Int32) = nI (i + 1) from by rw [zI_1, zI_add]]
      exact b1
theorem c_moveAll {Γ : gm_T} {φ : ph_T} {w : Nat} {S : XS} {I : XS → Prop} (hI : MvC I) (h : CSw Γ φ w S) (hS : I S) :
    ∃ φ', f_Switch_moveAll Γ φ w = some ((), φ') ∧ CSw Γ φ' w S.move ∧ I S.move ∧ S.move.nm = S.nm ∧ S.move.ns = S.ns ∧ Fr w (w + swZ S.nm S.ns) φ φ' := by
  have h4 := h.lay.nm4
  have h5 := h.lay.ns4
  obtain ⟨φ1, a1, a2, a3, a4, a5, a6⟩ := mv_L2 (nm := S.nm) (ns := S.ns) hI (S.ns + 1) 0 jF φ S rfl rfl (by omega) (by unfold jF; omega) h hS
  obtain ⟨φ2, b1, b2, b3, b4, b5, b6⟩ := mv_L28 (nm := S.nm) (ns := S.ns) hI (S.ns + 1) 0 jF φ1 _ a4 a5 (by rw [a5]; omega) (by unfold jF; omega) a2 a3
  obtain ⟨φ3, c1, c2, c3, c4, c5, c6⟩ := mv_L54 (nm := S.nm) (ns := S.ns) hI S.nm 0 jF φ2 _ b4 b5 (by rw [b4]; omega) (by unfold jF; omega) b2 b3
  obtain ⟨_, _, _, iW, _, _, _⟩ := hI _ c3
  obtain ⟨φ4, d1, d2, d3⟩ := c_refW c2 iW.1
  have w4 := refW_4 (iterN XS.movD S.nm 0 (iterN (fun S t => S.movA 3 t) (S.ns + 1) 0 (iterN (fun S t => S.movA 0 t) (S.ns + 1) 0 S)))
  obtain ⟨hB4, _, _, _, iR, _, _⟩ := hI _ iW.2
  obtain ⟨φ5, e1, e2, e3⟩ := c_refR d2 hB4 iR.1
  have r4 := refR_4 (iterN XS.movD S.nm 0 (iterN (fun S t => S.movA 3 t) (S.ns + 1) 0 (iterN (fun S t => S.movA 0 t) (S.ns + 1) 0 S))).refW
  have n5 := r4.2.1.trans (w4.2.1.trans c4)
  have s5 := r4.2.2.1.trans (w4.2.2.1.trans c5)
  obtain ⟨φ6, g1, g2, g3, g4, g5, g6⟩ := mv_L83 (nm := S.nm) (ns := S.ns) hI S.nm 0 jF φ5 _ n5 s5 (by rw [n5]; omega) (by unfold jF; omega) e2 iR.2
  obtain ⟨φ7, k1, k2, k3, k4, k5, k6⟩ := mv_L104 (nm := S.nm) (ns := S.ns) hI S.nm 0 jF φ6 _ g4 g5 (by rw [g4]; omega) (by unfold jF; omega) g2 g3
  rw [c4, c5] at d3
  rw [w4.2.1.trans c4, w4.2.2.1.trans c5] at e3
  refine ⟨φ7, ?_, k2, k3, k4, k5, a6.trans (b6.trans (c6.trans (d3.trans (e3.trans (g6.trans k6)))))⟩
  unfold f_Switch_moveAll
  rw [zI_0, a1, b1, c1, d1, Option.bind_some]
  dsimp only
  rw [e1, Option.bind_some]
  dsimp only
  rw [g1, k1]
