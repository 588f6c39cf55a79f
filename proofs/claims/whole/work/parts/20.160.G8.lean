/-! THE CONSTRUCTORS: the loops of the whole object -/
def BmI (b Q nm i : Nat) (Γ : gm_T) (φ : ph_T) : Prop := (Γ b = .inr 11) ∧ (φ.2.2 b 2 = some Q) ∧ (φ.2.2 b 4 = some (Q + 1)) ∧ (Γ Q = .inl (8, nm)) ∧ (Γ (Q + 1) = .inl (7, nm)) ∧ (∀ j, j < i → φ.2.2 Q j = some (Q + 2 + 115 * j)) ∧ (∀ j, j < i → φ.2.2 (Q + 1) j = some (Q + 6 + 115 * j)) ∧ (∀ j, j < i → ∀ Γs φs, Ag (Q + 2 + 115 * j) (Q + 117 + 115 * j) Γ φ Γs φs → (∀ tb m, CMa Γs φs (Q + 2 + 115 * j) tb [] m (fun _ => 65535) false) ∧ CPt Γs φs (Q + 6 + 115 * j) WI0 (fun _ => false) (fun _ => 0) ∧ CMo Γs φs (Q + 6 + 115 * j + 7) MO0)
theorem BmI.o {b Q nm i : Nat} {Γ : gm_T} {φ : ph_T} (h : BmI b Q nm i Γ φ) : Γ b = .inr 11 := h.1
theorem BmI.f2 {b Q nm i : Nat} {Γ : gm_T} {φ : ph_T} (h : BmI b Q nm i Γ φ) : φ.2.2 b 2 = some Q := h.2.1
theorem BmI.f4 {b Q nm i : Nat} {Γ : gm_T} {φ : ph_T} (h : BmI b Q nm i Γ φ) : φ.2.2 b 4 = some (Q + 1) := h.2.2.1
theorem BmI.g2 {b Q nm i : Nat} {Γ : gm_T} {φ : ph_T} (h : BmI b Q nm i Γ φ) : Γ Q = .inl (8, nm) := h.2.2.2.1
theorem BmI.g4 {b Q nm i : Nat} {Γ : gm_T} {φ : ph_T} (h : BmI b Q nm i Γ φ) : Γ (Q + 1) = .inl (7, nm) := h.2.2.2.2.1
theorem BmI.a2 {b Q nm i : Nat} {Γ : gm_T} {φ : ph_T} (h : BmI b Q nm i Γ φ) : ∀ j, j < i → φ.2.2 Q j = some (Q + 2 + 115 * j) := h.2.2.2.2.2.1
theorem BmI.a4 {b Q nm i : Nat} {Γ : gm_T} {φ : ph_T} (h : BmI b Q nm i Γ φ) : ∀ j, j < i → φ.2.2 (Q + 1) j = some (Q + 6 + 115 * j) := h.2.2.2.2.2.2.1
theorem BmI.m {b Q nm i : Nat} {Γ : gm_T} {φ : ph_T} (h : BmI b Q nm i Γ φ) : ∀ j, j < i → ∀ Γs φs, Ag (Q + 2 + 115 * j) (Q + 117 + 115 * j) Γ φ Γs φs → (∀ tb m, CMa Γs φs (Q + 2 + 115 * j) tb [] m (fun _ => 65535) false) ∧ CPt Γs φs (Q + 6 + 115 * j) WI0 (fun _ => false) (fun _ => 0) ∧ CMo Γs φs (Q + 6 + 115 * j + 7) MO0 := h.2.2.2.2.2.2.2
theorem k_ma_L {b Q nm ns x6 : Nat} (hw : b < Q) (hn : nm ≤ 4) : ∀ (d i fu : Nat) (Γ : gm_T) (φ : ph_T), i + d = nm → d < fu → BmI b Q nm i Γ φ → Zr (Q + 2 + 115 * i) φ →
    ∃ Γ' φ' kc ks fu', f_Bus_init_L75 fu Γ φ (Q + 2 + 115 * i) b (nI nm) (nI ns) x6 (nI i) = mA kc ks (f_Bus_init_L75 (fu' + 1) Γ' φ' (Q + 2 + 115 * nm) b (nI nm) (nI ns) x6 (nI nm)) ∧ kc ≤ 115 * d ∧ ks ≤ 1600 * d ∧ Ag 0 Q Γ φ Γ' φ' ∧ BmI b Q nm nm Γ' φ' ∧ Zr (Q + 2 + 115 * nm) φ' := by
  intro d
  induction d with
  | zero =>
    intro i fu Γ φ hd hfu h z
    match fu, hfu with
    | fu + 1, _ =>
      have hi : i = nm := by omega
      subst hi
      exact ⟨Γ, φ, 0, 0, fu, (mA_0 _).symm, by omega, by omega, Ag.refl _ _ _ _, h, z⟩
  | succ d ih =>
    intro i fu Γ φ hd hfu h z
    match fu, hfu with
    | fu + 1, hfu =>
      obtain ⟨Γ1, φ1, a1, a2, a3, a4, a5⟩ := k_Mas (Γ := va_up Γ (Q + 2 + 115 * i) (.inr 7)) (φ := φ) (a := Q + 2 + 115 * i) (vz_same _ _ _) z
      have s1 : Ag 0 (Q + 2 + 115 * i) Γ φ Γ1 φ1 := (ag_vz (Ag.refl _ _ _ _) (by omega) _).trans a2
      have z2 : Zr (Q + 6 + 115 * i) (uR φ1 Q i (some (Q + 2 + 115 * i))) := zr_uR (a4.mono (by omega)) (by omega) _ _
      obtain ⟨Γ2, φ2, c2, k2, b1, b1c, b1k, b2, b3, b4, b5⟩ := k_Port (Γ := va_up Γ1 (Q + 6 + 115 * i) (.inr 5)) (φ := uR φ1 Q i (some (Q + 2 + 115 * i))) (a := Q + 6 + 115 * i) (vz_same _ _ _) z2
      have s2 : Ag 0 (Q + 6 + 115 * i) Γ1 (uR φ1 Q i (some (Q + 2 + 115 * i))) Γ2 φ2 := (ag_vz (Ag.refl _ _ _ _) (by omega) _).trans b2
      have s12 : Ag 0 Q Γ φ Γ2 (uR φ2 (Q + 1) i (some (Q + 6 + 115 * i))) := ag_uR ((ag_uR (s1.mono (by omega) (by omega)) (by omega) _ _).trans (s2.mono (by omega) (by omega))) (by omega) _ _
      have hI : BmI b Q nm (i + 1) Γ2 (uR φ2 (Q + 1) i (some (Q + 6 + 115 * i))) := by
        refine ⟨by rw [s12.g (by omega) (by omega)]; exact h.o, by rw [s12.r (by omega) (by omega)]; exact h.f2, by rw [s12.r (by omega) (by omega)]; exact h.f4, ?_, ?_, fun j hj => ?_, fun j hj => ?_, fun j hj Γs φs s => ?_⟩
        · rw [s2.g (by omega) (by omega), s1.g (by omega) (by omega)]; exact h.g2
        · rw [s2.g (by omega) (by omega), s1.g (by omega) (by omega)]; exact h.g4
        · rw [uR_3, if_neg (by omega), s2.r (by omega) (by omega), uR_s, vz_at]
          by_cases e : j = i
          · rw [if_pos e, e]
          · rw [if_neg e, s1.r (by omega) (by omega)]; exact h.a2 j (by omega)
        · rw [uR_s, vz_at]
          by_cases e : j = i
          · rw [if_pos e, e]
          · rw [if_neg e, s2.r (by omega) (by omega), uR_3, if_neg (by omega), s1.r (by omega) (by omega)]; exact h.a4 j (by omega)
        · by_cases e : j = i
          · subst e
            refine ⟨a5 Γs φs ?_, b5 Γs φs ?_⟩
            · exact (ag_uR ((ag_uR (Ag.refl _ _ _ _) (by omega) _ _).trans (s2.mono (by omega) (by omega))) (by omega) _ _).trans (s.mono (by omega) (by omega))
            · exact (ag_uR (Ag.refl _ _ _ _) (by omega) _ _).trans (s.mono (by omega) (by omega))
          · refine h.m j (by omega) Γs φs ?_
            exact (ag_uR ((ag_uR (s1.mono (by omega) (by omega)) (by omega) _ _).trans (s2.mono (by omega) (by omega))) (by omega) _ _).trans s
      obtain ⟨Γ', φ', kc, ks, fu', c1, c2', c3, c4, c5, c6⟩ := ih (i + 1) fu Γ2 (uR φ2 (Q + 1) i (some (Q + 6 + 115 * i))) (by omega) (by omega) hI (zr_uR (b4.mono (by omega)) (by omega) _ _)
      refine ⟨Γ', φ', 1 + 3 + 1 + c2 + kc, 10 + 133 + 7 + k2 + ks, fu', ?_, by omega, by omega, s12.trans c4, c5, c6⟩
      have hw1 : Γ1 b = .inr 11 := by rw [s1.g (by omega) (by omega)]; exact h.o
      have r7 : (uR φ1 Q i (some (Q + 2 + 115 * i))).2.2 b 4 = some (Q + 1) := by rw [uR_3, if_neg (by omega), s1.r (by omega) (by omega)]; exact h.f4
      rw [f_Bus_init_L75, if_neg (by rw [zI_le (by omega) (by omega)]; omega), if_pos h.o, mN_ok z, if_pos (vz_same _ _ _), a1, mB_ok, h.f2, Option.bind_some, gA_of (show Γ1 Q = .inl (8, nm) by rw [s1.g (by omega) (by omega)]; exact h.g2), Option.bind_some, zix (by omega), Option.bind_some, if_pos a3, if_pos hw1, show Q + 2 + 115 * i + 4 = Q + 6 + 115 * i by omega, mN_ok z2, if_pos (vz_same _ _ _), b1, mB_ok, r7, Option.bind_some, gA_of (show Γ2 (Q + 1) = .inl (7, nm) by rw [s2.g (by omega) (by omega), s1.g (by omega) (by omega)]; exact h.g4), Option.bind_some, zix (by omega), Option.bind_some, if_pos b3, show nI i + (1 : Int32) = nI (i + 1) from by rw [zI_1, zI_add], show Q + 6 + 115 * i + 111 = Q + 2 + 115 * (i + 1) by omega, c1, mA_mA, mA_mA, mA_mA, mA_mA]
      rfl
def BsI (b P ns am i : Nat) (Γ : gm_T) (φ : ph_T) : Prop := (Γ b = .inr 11) ∧ (φ.2.2 b 3 = some P) ∧ (φ.2.2 b 5 = some (P + 1)) ∧ (Γ P = .inl (9, ns)) ∧ (Γ (P + 1) = .inl (7, ns)) ∧ (∀ j, j < i → φ.2.2 P j = some (P + 2 + 143 * j)) ∧ (∀ j, j < i → φ.2.2 (P + 1) j = some (P + 34 + 143 * j)) ∧ (∀ j, j < i → ∀ Γs φs, Ag (P + 2 + 143 * j) (P + 145 + 143 * j) Γ φ Γs φs → (∀ (T : XS) (s : Nat), T.sw s = [] → T.sr s = [] → (∀ c, T.spat s c = 65535) → (∀ j, T.rgt s j = none) → T.delay s = 0 → T.way s = 0 → T.chb s = none → T.chr s = none → T.lat s = none → CSl Γs φs (P + 2 + 143 * j) am T s) ∧ CPt Γs φs (P + 34 + 143 * j) WI0 (fun _ => false) (fun _ => 0) ∧ CMo Γs φs (P + 34 + 143 * j + 7) MO0)
theorem BsI.o {b P ns am i : Nat} {Γ : gm_T} {φ : ph_T} (h : BsI b P ns am i Γ φ) : Γ b = .inr 11 := h.1
theorem BsI.f3 {b P ns am i : Nat} {Γ : gm_T} {φ : ph_T} (h : BsI b P ns am i Γ φ) : φ.2.2 b 3 = some P := h.2.1
theorem BsI.f5 {b P ns am i : Nat} {Γ : gm_T} {φ : ph_T} (h : BsI b P ns am i Γ φ) : φ.2.2 b 5 = some (P + 1) := h.2.2.1
theorem BsI.g3 {b P ns am i : Nat} {Γ : gm_T} {φ : ph_T} (h : BsI b P ns am i Γ φ) : Γ P = .inl (9, ns) := h.2.2.2.1
theorem BsI.g5 {b P ns am i : Nat} {Γ : gm_T} {φ : ph_T} (h : BsI b P ns am i Γ φ) : Γ (P + 1) = .inl (7, ns) := h.2.2.2.2.1
theorem BsI.a3 {b P ns am i : Nat} {Γ : gm_T} {φ : ph_T} (h : BsI b P ns am i Γ φ) : ∀ j, j < i → φ.2.2 P j = some (P + 2 + 143 * j) := h.2.2.2.2.2.1
theorem BsI.a5 {b P ns am i : Nat} {Γ : gm_T} {φ : ph_T} (h : BsI b P ns am i Γ φ) : ∀ j, j < i → φ.2.2 (P + 1) j = some (P + 34 + 143 * j) := h.2.2.2.2.2.2.1
theorem BsI.s {b P ns am i : Nat} {Γ : gm_T} {φ : ph_T} (h : BsI b P ns am i Γ φ) : ∀ j, j < i → ∀ Γs φs, Ag (P + 2 + 143 * j) (P + 145 + 143 * j) Γ φ Γs φs → (∀ (T : XS) (s : Nat), T.sw s = [] → T.sr s = [] → (∀ c, T.spat s c = 65535) → (∀ j, T.rgt s j = none) → T.delay s = 0 → T.way s = 0 → T.chb s = none → T.chr s = none → T.lat s = none → CSl Γs φs (P + 2 + 143 * j) am T s) ∧ CPt Γs φs (P + 34 + 143 * j) WI0 (fun _ => false) (fun _ => 0) ∧ CMo Γs φs (P + 34 + 143 * j + 7) MO0 := h.2.2.2.2.2.2.2
theorem k_sl_L {b P ns x6 : Nat} (hw : b < P) (hn : ns ≤ 4) : ∀ (d i fu : Nat) (Γ : gm_T) (φ : ph_T), i + d = ns → d < fu → BsI b P ns x6 i Γ φ → Zr (P + 2 + 143 * i) φ →
    ∃ Γ' φ' kc ks fu', f_Bus_init_L137 fu Γ φ (P + 2 + 143 * i) b (nI ns) x6 (nI i) = mA kc ks (f_Bus_init_L137 (fu' + 1) Γ' φ' (P + 2 + 143 * ns) b (nI ns) x6 (nI ns)) ∧ kc ≤ 215 * d ∧ ks ≤ 2900 * d ∧ Ag 0 P Γ φ Γ' φ' ∧ BsI b P ns x6 ns Γ' φ' ∧ Zr (P + 2 + 143 * ns) φ' := by
  intro d
  induction d with
  | zero =>
    intro i fu Γ φ hd hfu h z
    match fu, hfu with
    | fu + 1, _ =>
      have hi : i = ns := by omega
      subst hi
      exact ⟨Γ, φ, 0, 0, fu, (mA_0 _).symm, by omega, by omega, Ag.refl _ _ _ _, h, z⟩
  | succ d ih =>
    intro i fu Γ φ hd hfu h z
    match fu, hfu with
    | fu + 1, hfu =>
      obtain ⟨Γ1, φ1, d1, e1, a1, a1c, a1k, a2, a3, a4, a5⟩ := k_Sla (Γ := va_up Γ (P + 2 + 143 * i) (.inr 8)) (φ := φ) (a := P + 2 + 143 * i) (am := x6) (vz_same _ _ _) z
      have s1 : Ag 0 (P + 2 + 143 * i) Γ φ Γ1 φ1 := (ag_vz (Ag.refl _ _ _ _) (by omega) _).trans a2
      have z2 : Zr (P + 34 + 143 * i) (uR φ1 P i (some (P + 2 + 143 * i))) := zr_uR (a4.mono (by omega)) (by omega) _ _
      obtain ⟨Γ2, φ2, c2, k2, b1, b1c, b1k, b2, b3, b4, b5⟩ := k_Port (Γ := va_up Γ1 (P + 34 + 143 * i) (.inr 5)) (φ := uR φ1 P i (some (P + 2 + 143 * i))) (a := P + 34 + 143 * i) (vz_same _ _ _) z2
      have s2 : Ag 0 (P + 34 + 143 * i) Γ1 (uR φ1 P i (some (P + 2 + 143 * i))) Γ2 φ2 := (ag_vz (Ag.refl _ _ _ _) (by omega) _).trans b2
      have s12 : Ag 0 P Γ φ Γ2 (uR φ2 (P + 1) i (some (P + 34 + 143 * i))) := ag_uR ((ag_uR (s1.mono (by omega) (by omega)) (by omega) _ _).trans (s2.mono (by omega) (by omega))) (by omega) _ _
      have hI : BsI b P ns x6 (i + 1) Γ2 (uR φ2 (P + 1) i (some (P + 34 + 143 * i))) := by
        refine ⟨by rw [s12.g (by omega) (by omega)]; exact h.o, by rw [s12.r (by omega) (by omega)]; exact h.f3, by rw [s12.r (by omega) (by omega)]; exact h.f5, ?_, ?_, fun j hj => ?_, fun j hj => ?_, fun j hj Γs φs s => ?_⟩
        · rw [s2.g (by omega) (by omega), s1.g (by omega) (by omega)]; exact h.g3
        · rw [s2.g (by omega) (by omega), s1.g (by omega) (by omega)]; exact h.g5
        · rw [uR_3, if_neg (by omega), s2.r (by omega) (by omega), uR_s, vz_at]
          by_cases e : j = i
          · rw [if_pos e, e]
          · rw [if_neg e, s1.r (by omega) (by omega)]; exact h.a3 j (by omega)
        · rw [uR_s, vz_at]
          by_cases e : j = i
          · rw [if_pos e, e]
          · rw [if_neg e, s2.r (by omega) (by omega), uR_3, if_neg (by omega), s1.r (by omega) (by omega)]; exact h.a5 j (by omega)
        · by_cases e : j = i
          · subst e
            refine ⟨a5 Γs φs ?_, b5 Γs φs ?_⟩
            · exact (ag_uR ((ag_uR (Ag.refl _ _ _ _) (by omega) _ _).trans (s2.mono (by omega) (by omega))) (by omega) _ _).trans (s.mono (by omega) (by omega))
            · exact (ag_uR (Ag.refl _ _ _ _) (by omega) _ _).trans (s.mono (by omega) (by omega))
          · refine h.s j (by omega) Γs φs ?_
            exact (ag_uR ((ag_uR (s1.mono (by omega) (by omega)) (by omega) _ _).trans (s2.mono (by omega) (by omega))) (by omega) _ _).trans s
      obtain ⟨Γ', φ', kc, ks, fu', c1, c2', c3, c4, c5, c6⟩ := ih (i + 1) fu Γ2 (uR φ2 (P + 1) i (some (P + 34 + 143 * i))) (by omega) (by omega) hI (zr_uR (b4.mono (by omega)) (by omega) _ _)
      refine ⟨Γ', φ', 1 + d1 + 1 + c2 + kc, 11 + e1 + 7 + k2 + ks, fu', ?_, by omega, by omega, s12.trans c4, c5, c6⟩
      have hw1 : Γ1 b = .inr 11 := by rw [s1.g (by omega) (by omega)]; exact h.o
      have r7 : (uR φ1 P i (some (P + 2 + 143 * i))).2.2 b 5 = some (P + 1) := by rw [uR_3, if_neg (by omega), s1.r (by omega) (by omega)]; exact h.f5
      rw [f_Bus_init_L137, if_neg (by rw [zI_le (by omega) (by omega)]; omega), if_pos h.o, mN_ok z, if_pos (vz_same _ _ _), a1, mB_ok, h.f3, Option.bind_some, gA_of (show Γ1 P = .inl (9, ns) by rw [s1.g (by omega) (by omega)]; exact h.g3), Option.bind_some, zix (by omega), Option.bind_some, if_pos a3, if_pos hw1, show P + 2 + 143 * i + 32 = P + 34 + 143 * i by omega, mN_ok z2, if_pos (vz_same _ _ _), b1, mB_ok, r7, Option.bind_some, gA_of (show Γ2 (P + 1) = .inl (7, ns) by rw [s2.g (by omega) (by omega), s1.g (by omega) (by omega)]; exact h.g5), Option.bind_some, zix (by omega), Option.bind_some, if_pos b3, show nI i + (1 : Int32) = nI (i + 1) from by rw [zI_1, zI_add], show P + 34 + 143 * i + 111 = P + 2 + 143 * (i + 1) by omega, c1, mA_mA, mA_mA, mA_mA, mA_mA]
      rfl
def BwI (b R i : Nat) (Γ : gm_T) (φ : ph_T) : Prop := (Γ b = .inr 11) ∧ (φ.2.2 b 6 = some R) ∧ (Γ R = .inl (7, 2)) ∧ (∀ j, j < i → φ.2.2 R j = some (R + 1 + 111 * j)) ∧ (∀ j, j < i → ∀ Γs φs, Ag (R + 1 + 111 * j) (R + 112 + 111 * j) Γ φ Γs φs → CPt Γs φs (R + 1 + 111 * j) WI0 (fun _ => false) (fun _ => 0) ∧ CMo Γs φs (R + 1 + 111 * j + 7) MO0)
theorem BwI.o {b R i : Nat} {Γ : gm_T} {φ : ph_T} (h : BwI b R i Γ φ) : Γ b = .inr 11 := h.1
theorem BwI.f6 {b R i : Nat} {Γ : gm_T} {φ : ph_T} (h : BwI b R i Γ φ) : φ.2.2 b 6 = some R := h.2.1
theorem BwI.g6 {b R i : Nat} {Γ : gm_T} {φ : ph_T} (h : BwI b R i Γ φ) : Γ R = .inl (7, 2) := h.2.2.1
theorem BwI.a6 {b R i : Nat} {Γ : gm_T} {φ : ph_T} (h : BwI b R i Γ φ) : ∀ j, j < i → φ.2.2 R j = some (R + 1 + 111 * j) := h.2.2.2.1
theorem BwI.w {b R i : Nat} {Γ : gm_T} {φ : ph_T} (h : BwI b R i Γ φ) : ∀ j, j < i → ∀ Γs φs, Ag (R + 1 + 111 * j) (R + 112 + 111 * j) Γ φ Γs φs → CPt Γs φs (R + 1 + 111 * j) WI0 (fun _ => false) (fun _ => 0) ∧ CMo Γs φs (R + 1 + 111 * j + 7) MO0 := h.2.2.2.2
theorem k_wa_L {b R : Nat} (hw : b < R) : ∀ (d i fu : Nat) (Γ : gm_T) (φ : ph_T), i + d = 2 → d < fu → BwI b R i Γ φ → Zr (R + 1 + 111 * i) φ →
    ∃ Γ' φ' kc ks fu', f_Bus_init_L191 fu Γ φ (R + 1 + 111 * i) b (nI i) = mA kc ks (f_Bus_init_L191 (fu' + 1) Γ' φ' (R + 223) b (nI 2)) ∧ kc ≤ 111 * d ∧ ks ≤ 1400 * d ∧ Ag 0 R Γ φ Γ' φ' ∧ BwI b R 2 Γ' φ' ∧ Zr (R + 223) φ' := by
  intro d
  induction d with
  | zero =>
    intro i fu Γ φ hd hfu h z
    match fu, hfu with
    | fu + 1, _ =>
      have hi : i = 2 := by omega
      subst hi
      exact ⟨Γ, φ, 0, 0, fu, (mA_0 _).symm, by omega, by omega, Ag.refl _ _ _ _, h, z⟩
  | succ d ih =>
    intro i fu Γ φ hd hfu h z
    match fu, hfu with
    | fu + 1, hfu =>
      obtain ⟨Γ2, φ2, c2, k2, b1, b1c, b1k, b2, b3, b4, b5⟩ := k_Port (Γ := va_up Γ (R + 1 + 111 * i) (.inr 5)) (φ := φ) (a := R + 1 + 111 * i) (vz_same _ _ _) z
      have s2 : Ag 0 (R + 1 + 111 * i) Γ φ Γ2 φ2 := (ag_vz (Ag.refl _ _ _ _) (by omega) _).trans b2
      have s12 : Ag 0 R Γ φ Γ2 (uR φ2 R i (some (R + 1 + 111 * i))) := ag_uR (s2.mono (by omega) (by omega)) (by omega) _ _
      have hI : BwI b R (i + 1) Γ2 (uR φ2 R i (some (R + 1 + 111 * i))) := by
        refine ⟨by rw [s12.g (by omega) (by omega)]; exact h.o, by rw [s12.r (by omega) (by omega)]; exact h.f6, by rw [s2.g (by omega) (by omega)]; exact h.g6, fun j hj => ?_, fun j hj Γs φs s => ?_⟩
        · rw [uR_s, vz_at]
          by_cases e : j = i
          · rw [if_pos e, e]
          · rw [if_neg e, s2.r (by omega) (by omega)]; exact h.a6 j (by omega)
        · by_cases e : j = i
          · subst e
            exact b5 Γs φs ((ag_uR (Ag.refl _ _ _ _) (by omega) _ _).trans (s.mono (by omega) (by omega)))
          · exact h.w j (by omega) Γs φs ((ag_uR (s2.mono (by omega) (by omega)) (by omega) _ _).trans s)
      obtain ⟨Γ', φ', kc, ks, fu', c1, c2', c3, c4, c5, c6⟩ := ih (i + 1) fu Γ2 (uR φ2 R i (some (R + 1 + 111 * i))) (by omega) (by omega) hI (zr_uR (b4.mono (by omega)) (by omega) _ _)
      refine ⟨Γ', φ', 1 + c2 + kc, 7 + k2 + ks, fu', ?_, by omega, by omega, s12.trans c4, c5, c6⟩
      rw [f_Bus_init_L191, if_neg (by rw [show (2 : Int32) = nI 2 from rfl, zI_le (by omega) (by omega)]; omega), if_pos h.o, mN_ok z, if_pos (vz_same _ _ _), b1, mB_ok, h.f6, Option.bind_some, gA_of (show Γ2 R = .inl (7, 2) by rw [s2.g (by omega) (by omega)]; exact h.g6), Option.bind_some, zix (by omega), Option.bind_some, if_pos b3, show nI i + (1 : Int32) = nI (i + 1) from by rw [zI_1, zI_add], show R + 1 + 111 * i + 111 = R + 1 + 111 * (i + 1) by omega, c1, mA_mA, mA_mA]
      rfl
def BtI (b R i : Nat) (Γ : gm_T) (φ : ph_T) : Prop := (Γ b = .inr 11) ∧ (φ.2.2 b 7 = some R) ∧ (Γ R = .inl (6, 64)) ∧ (∀ j, j < i → φ.2.2 R j = some (R + 1 + 4 * j)) ∧ (∀ j, j < i → ∀ Γs φs, Ag (R + 1 + 4 * j) (R + 5 + 4 * j) Γ φ Γs φs → Γs (R + 1 + 4 * j) = .inr 6 ∧ φs.2.2 (R + 1 + 4 * j) 0 = some (R + 1 + 4 * j + 1) ∧ CBl Γs φs (R + 1 + 4 * j + 1))
theorem BtI.o {b R i : Nat} {Γ : gm_T} {φ : ph_T} (h : BtI b R i Γ φ) : Γ b = .inr 11 := h.1
theorem BtI.f7 {b R i : Nat} {Γ : gm_T} {φ : ph_T} (h : BtI b R i Γ φ) : φ.2.2 b 7 = some R := h.2.1
theorem BtI.g7 {b R i : Nat} {Γ : gm_T} {φ : ph_T} (h : BtI b R i Γ φ) : Γ R = .inl (6, 64) := h.2.2.1
theorem BtI.a7 {b R i : Nat} {Γ : gm_T} {φ : ph_T} (h : BtI b R i Γ φ) : ∀ j, j < i → φ.2.2 R j = some (R + 1 + 4 * j) := h.2.2.2.1
theorem BtI.t {b R i : Nat} {Γ : gm_T} {φ : ph_T} (h : BtI b R i Γ φ) : ∀ j, j < i → ∀ Γs φs, Ag (R + 1 + 4 * j) (R + 5 + 4 * j) Γ φ Γs φs → Γs (R + 1 + 4 * j) = .inr 6 ∧ φs.2.2 (R + 1 + 4 * j) 0 = some (R + 1 + 4 * j + 1) ∧ CBl Γs φs (R + 1 + 4 * j + 1) := h.2.2.2.2
theorem k_tk_L {b R : Nat} (hw : b < R) : ∀ (d i fu : Nat) (Γ : gm_T) (φ : ph_T), i + d = 64 → d < fu → BtI b R i Γ φ → Zr (R + 1 + 4 * i) φ →
    ∃ Γ' φ' kc ks, f_Bus_init_L229 fu Γ φ (R + 1 + 4 * i) b (nI i) = some ((), (Γ', φ', R + 257), (kc, ks)) ∧ kc ≤ 4 * d ∧ ks ≤ 46 * d ∧ Ag 0 R Γ φ Γ' φ' ∧ BtI b R 64 Γ' φ' ∧ Zr (R + 257) φ' := by
  intro d
  induction d with
  | zero =>
    intro i fu Γ φ hd hfu h z
    match fu, hfu with
    | fu + 1, _ =>
      have hi : i = 64 := by omega
      subst hi
      refine ⟨Γ, φ, 0, 0, ?_, by omega, by omega, Ag.refl _ _ _ _, h, z⟩
      rw [f_Bus_init_L229, if_pos (by decide)]
  | succ d ih =>
    intro i fu Γ φ hd hfu h z
    match fu, hfu with
    | fu + 1, hfu =>
      obtain ⟨Γ2, φ2, b1, b2, b3, b4, b5⟩ := k_Req (Γ := va_up Γ (R + 1 + 4 * i) (.inr 6)) (φ := φ) (a := R + 1 + 4 * i) (vz_same _ _ _) z
      have s2 : Ag 0 (R + 1 + 4 * i) Γ φ Γ2 φ2 := (ag_vz (Ag.refl _ _ _ _) (by omega) _).trans b2
      have s12 : Ag 0 R Γ φ Γ2 (uR φ2 R i (some (R + 1 + 4 * i))) := ag_uR (s2.mono (by omega) (by omega)) (by omega) _ _
      have hI : BtI b R (i + 1) Γ2 (uR φ2 R i (some (R + 1 + 4 * i))) := by
        refine ⟨by rw [s12.g (by omega) (by omega)]; exact h.o, by rw [s12.r (by omega) (by omega)]; exact h.f7, by rw [s2.g (by omega) (by omega)]; exact h.g7, fun j hj => ?_, fun j hj Γs φs s => ?_⟩
        · rw [uR_s, vz_at]
          by_cases e : j = i
          · rw [if_pos e, e]
          · rw [if_neg e, s2.r (by omega) (by omega)]; exact h.a7 j (by omega)
        · by_cases e : j = i
          · subst e
            exact b5 Γs φs ((ag_uR (Ag.refl _ _ _ _) (by omega) _ _).trans (s.mono (by omega) (by omega)))
          · exact h.t j (by omega) Γs φs ((ag_uR (s2.mono (by omega) (by omega)) (by omega) _ _).trans s)
      obtain ⟨Γ', φ', kc, ks, c1, c2', c3, c4, c5, c6⟩ := ih (i + 1) fu Γ2 (uR φ2 R i (some (R + 1 + 4 * i))) (by omega) (by omega) hI (zr_uR (b4.mono (by omega)) (by omega) _ _)
      refine ⟨Γ', φ', 1 + (3 + kc), 6 + (40 + ks), ?_, by omega, by omega, s12.trans c4, c5, c6⟩
      rw [f_Bus_init_L229, if_neg (by rw [show (64 : Int32) = nI 64 from rfl, zI_le (by omega) (by omega)]; omega), if_pos h.o, mN_ok z, if_pos (vz_same _ _ _), b1, mB_ok, h.f7, Option.bind_some, gA_of (show Γ2 R = .inl (6, 64) by rw [s2.g (by omega) (by omega)]; exact h.g7), Option.bind_some, zix (by omega), Option.bind_some, if_pos b3, show nI i + (1 : Int32) = nI (i + 1) from by rw [zI_1, zI_add], show R + 1 + 4 * i + 4 = R + 1 + 4 * (i + 1) by omega, c1]
      rfl
