/-! THE CONSTRUCTORS: requests, monitors, ports, masters, slaves -/
theorem k_Req {Γ : gm_T} {φ : ph_T} {a : Nat} (h : Γ a = .inr 6) (z : Zr a φ) : ∃ Γ' φ', f_Request_init Γ φ (a + 1) a = some ((), (Γ', φ', a + 4), (3, 40)) ∧ Ag 0 a Γ φ Γ' φ' ∧ Γ' a = .inr 6 ∧ Zr (a + 4) φ' ∧ ∀ Γs φs, Ag a (a + 4) Γ' φ' Γs φs → Γs a = .inr 6 ∧ φs.2.2 a 0 = some (a + 1) ∧ CBl Γs φs (a + 1) := by
  have z1 : Zr (a + 1) φ := z.mono (by omega)
  obtain ⟨Γ1, φ1, a1, a2, a3, a4, a5⟩ := k_Burst (Γ := va_up Γ (a + 1) (.inr 0)) (φ := φ) (a := a + 1) (vz_same _ _ _) z1
  have s0 : Ag 0 (a + 1) Γ φ Γ1 φ1 := (ag_vz (Ag.refl _ _ _ _) (by omega) _).trans a2
  have ha : Γ1 a = .inr 6 := by rw [s0.g (by omega) (by omega)]; exact h
  refine ⟨Γ1, uR φ1 a 0 (some (a + 1)), ?_, ag_uR (s0.mono (by omega) (by omega)) (by omega) _ _, ha, zr_uR a4 (by omega) _ _, ?_⟩
  · unfold f_Request_init
    rw [mN_ok z1, if_pos (vz_same _ _ _), a1, mB_ok, if_pos ha]
    rfl
  · intro Γs φs s
    refine ⟨by rw [s.g (by omega) (by omega)]; exact ha, by rw [s.r (by omega) (by omega), uR_s, vz_same], a5 Γs φs ?_⟩
    exact (ag_uR (Ag.refl _ _ _ _) (by omega) _ _).trans (s.mono (by omega) (by omega))
/-- a monitor -/
theorem k_Mon {Γ : gm_T} {φ : ph_T} {a : Nat} (h : Γ a = .inr 4) (z : Zr a φ) : ∃ Γ' φ' kc ks, f_Monitor_init Γ φ (a + 1) a = some ((), (Γ', φ', a + 104), (kc, ks)) ∧ kc ≤ 103 ∧ ks ≤ 1331 ∧ Ag 0 a Γ φ Γ' φ' ∧ Γ' a = .inr 4 ∧ Zr (a + 104) φ' ∧ ∀ Γs φs, Ag a (a + 104) Γ' φ' Γs φs → CMo Γs φs a MO0 := by
  have z1 : Zr (a + 1) φ := z.mono (by omega)
  obtain ⟨Γ1, φ1, c1, k1, a1, a1c, a1k, a2, a3, a4, a5⟩ := k_Line (Γ := va_up Γ (a + 1) (.inr 1)) (φ := φ) (a := a + 1) (room := 16) (by omega) (vz_same _ _ _) z1
  have s0 : Ag 0 (a + 1) Γ φ Γ1 φ1 := (ag_vz (Ag.refl _ _ _ _) (by omega) _).trans a2
  have ha : Γ1 a = .inr 4 := by rw [s0.g (by omega) (by omega)]; exact h
  have z2 : Zr (a + 51) (uR φ1 a 0 (some (a + 1))) := zr_uR (a4.mono (by omega)) (by omega) _ _
  obtain ⟨Γ2, φ2, c2, k2, b1, b1c, b1k, b2, b3, b4, b5⟩ := k_Line (Γ := va_up Γ1 (a + 51) (.inr 1)) (φ := uR φ1 a 0 (some (a + 1))) (a := a + 51) (room := 16) (by omega) (vz_same _ _ _) z2
  have s1 : Ag 0 (a + 51) Γ1 (uR φ1 a 0 (some (a + 1))) Γ2 φ2 := (ag_vz (Ag.refl _ _ _ _) (by omega) _).trans b2
  have hb : Γ2 a = .inr 4 := by rw [s1.g (by omega) (by omega)]; exact ha
  have z3 : Zr (a + 101) (uR φ2 a 1 (some (a + 51))) := zr_uR (b4.mono (by omega)) (by omega) _ _
  have z4 : Zr (a + 102) (uR (uR φ2 a 1 (some (a + 51))) a 2 (some (a + 101))) := zr_uR (z3.mono (by omega)) (by omega) _ _
  have z5 : Zr (a + 103) (uR (uR (uR φ2 a 1 (some (a + 51))) a 2 (some (a + 101))) a 3 (some (a + 102))) := zr_uR (z4.mono (by omega)) (by omega) _ _
  obtain ⟨Γ3, hΓ3⟩ : ∃ Γ3, Γ3 = va_up (va_up (va_up Γ2 (a + 101) (.inl (2, 5))) (a + 102) (.inl (1, 5))) (a + 103) (.inl (0, 5)) := ⟨_, rfl⟩
  obtain ⟨φ3, hφ3⟩ : ∃ φ3, φ3 = uI (uI (uR (uR (uR (uR φ2 a 1 (some (a + 51))) a 2 (some (a + 101))) a 3 (some (a + 102))) a 4 (some (a + 103))) a 6 (-1 : Int32)) a 7 (-1 : Int32) := ⟨_, rfl⟩
  have s2 : Ag (a + 1) (a + 101) Γ2 φ2 Γ3 φ3 := by
    subst hΓ3; subst hφ3
    exact ag_uI (ag_uI (ag_uR (ag_uR (ag_uR (ag_uR (ag_vz (ag_vz (ag_vz (Ag.refl _ _ _ _) (by omega) _) (by omega) _) (by omega) _) (by omega) _ _) (by omega) _ _) (by omega) _ _) (by omega) _ _) (by omega) _ _) (by omega) _ _
  have s3 : Ag 0 a Γ2 φ2 Γ3 φ3 := by
    subst hΓ3; subst hφ3
    exact ag_uI (ag_uI (ag_uR (ag_uR (ag_uR (ag_uR (ag_vz (ag_vz (ag_vz (Ag.refl _ _ _ _) (by omega) _) (by omega) _) (by omega) _) (by omega) _ _) (by omega) _ _) (by omega) _ _) (by omega) _ _) (by omega) _ _) (by omega) _ _
  have hc : Γ3 a = .inr 4 := by subst hΓ3; rw [vz_ne _ (by omega), vz_ne _ (by omega), vz_ne _ (by omega)]; exact hb
  have zz : Zr (a + 104) φ3 := by subst hφ3; exact zr_uI (zr_uI (zr_uR (z5.mono (by omega)) (by omega) _ _) (by omega) _ _) (by omega) _ _
  have ez : ∀ b, a + 101 ≤ b → φ3.1 b = fun _ => 0 := fun b hb => by
    have : φ3.1 b = φ2.1 b := by subst hφ3; rw [uI_1, if_neg (by omega), uI_1, if_neg (by omega)]; rfl
    rw [this]
    exact (b4 b (by omega)).1
  have ez2 : φ3.2.1 (a + 102) = fun _ => 0 := by
    have : φ3.2.1 (a + 102) = φ2.2.1 (a + 102) := by subst hφ3; rfl
    rw [this]
    exact (b4 _ (by omega)).2.1
  have e2a : φ2.1 a = fun _ => 0 := by
    rw [s1.i (by omega) (by omega)]
    show φ1.1 a = _
    rw [s0.i (by omega) (by omega)]
    exact (z a (by omega)).1
  have er : φ3.2.2 a = va_up (va_up (va_up (va_up (φ2.2.2 a) 1 (some (a + 51))) 2 (some (a + 101))) 3 (some (a + 102))) 4 (some (a + 103)) := by
    subst hφ3
    rw [uI_3, uI_3, uR_s, uR_s, uR_s, uR_s]
  have ei : φ3.1 a = va_up (va_up (φ2.1 a) 6 (-1 : Int32)) 7 (-1 : Int32) := by
    subst hφ3
    rw [uI_s, uI_s]
    rfl
  refine ⟨Γ3, φ3, 1 + (c1 + (1 + (c2 + (1 + (1 + (1 + 0)))))), 2 + (k1 + (2 + (k2 + (5 + (5 + (5 + 0)))))), ?_, by omega, by omega, ?_, hc, zz, ?_⟩
  · unfold f_Monitor_init
    rw [mN_ok z1, if_pos (vz_same _ _ _), show (16 : Int32) = nI 16 from rfl, a1, mB_ok, if_pos ha, show a + 1 + 2 + 3 * 16 = a + 51 by omega, mN_ok z2, if_pos (vz_same _ _ _), b1, mB_ok, if_pos hb, show a + 51 + 2 + 3 * 16 = a + 101 by omega, show (5 : Int32) = nI 5 from rfl, mR_ok z3 2 5 (by omega), if_pos (by rw [vz_ne _ (by omega)]; exact hb), mR_ok z4 1 5 (by omega), if_pos (by rw [vz_ne _ (by omega), vz_ne _ (by omega)]; exact hb), mR_ok z5 0 5 (by omega), if_pos (by rw [vz_ne _ (by omega), vz_ne _ (by omega), vz_ne _ (by omega)]; exact hb), ← hΓ3, ← hφ3]
    rfl
  · exact (ag_uR (s0.mono (by omega) (by omega)) (by omega) _ _).trans ((s1.mono (by omega) (by omega)).trans s3)
  · intro Γs φs s
    refine ⟨by rw [s.g (by omega) (by omega)]; exact hc, ?_, ?_, ?_, ?_, ?_, gA_of ?_, gA_of ?_, gA_of ?_, ?_, ?_, fun c hc5 => ⟨?_, ?_⟩, ?_, ?_, ?_, ?_, (show 0 < 13 by decide)⟩
    · rw [s.r (by omega) (by omega), er, vz_ne _ (by decide), vz_ne _ (by decide), vz_ne _ (by decide), vz_ne _ (by decide), s1.r (by omega) (by omega), uR_s, vz_same]
    · rw [s.r (by omega) (by omega), er, vz_ne _ (by decide), vz_ne _ (by decide), vz_ne _ (by decide), vz_same]
    · rw [s.r (by omega) (by omega), er, vz_ne _ (by decide), vz_ne _ (by decide), vz_same]
    · rw [s.r (by omega) (by omega), er, vz_ne _ (by decide), vz_same]
    · rw [s.r (by omega) (by omega), er, vz_same]
    · rw [s.g (by omega) (by omega)]; subst hΓ3; rw [vz_ne _ (by omega), vz_ne _ (by omega), vz_same]
    · rw [s.g (by omega) (by omega)]; subst hΓ3; rw [vz_ne _ (by omega), vz_same]
    · rw [s.g (by omega) (by omega)]; subst hΓ3; rw [vz_same]
    · refine a5 EMw EMw_loc Γs φs ?_
      exact (ag_uR (Ag.refl _ _ _ _) (by omega) _ _).trans ((s1.mono (by omega) (by omega)).trans ((s2.mono (by omega) (by omega)).trans (s.mono (by omega) (by omega))))
    · refine b5 EMr EMr_loc Γs φs ?_
      exact (s2.mono (by omega) (by omega)).trans (s.mono (by omega) (by omega))
    · rw [s.i (by omega) (by omega), ez _ (by omega)]; rfl
    · intro hh; cases hh
    · rw [s.i (by omega) (by omega), ei, vz_ne _ (by decide), vz_ne _ (by decide), e2a]; rfl
    · rw [s.i (by omega) (by omega), ei, vz_ne _ (by decide), vz_same]; rfl
    · rw [s.i (by omega) (by omega), ei, vz_same]; rfl
    · rw [s.i (by omega) (by omega), ei, vz_ne _ (by decide), vz_ne _ (by decide), e2a]; rfl
/-- a port -/
def kPt (a : Nat) : gm_T → ph_T → Nat → Option (mq_T Unit) := fun Γ φ n =>
  mN Γ φ n 4 fun Γ31 φ32 n33 =>
  @ite _ (Γ31 n = .inr 4) _ (
  mB (f_Monitor_init Γ31 φ32 n33 n) fun v37 Γ38 φ39 n40 =>
  @ite _ (Γ38 a = .inr 5) _ (
  some ((), (Γ38, (uR φ39 a 6 (some n)), n40), (0, 0))
  ) none
  ) none
theorem port_mk (Γ : gm_T) (φ : ph_T) (a : Nat) : f_Port_init Γ φ (a + 1) a = mkA a 5 (kPt a) [(0, 2, 5), (1, 2, 5), (2, 2, 5), (3, 1, 5), (4, 0, 5), (5, 0, 5)] Γ φ (a + 1) := by rfl
theorem k_Port {Γ : gm_T} {φ : ph_T} {a : Nat} (h : Γ a = .inr 5) (z : Zr a φ) : ∃ Γ' φ' kc ks, f_Port_init Γ φ (a + 1) a = some ((), (Γ', φ', a + 111), (kc, ks)) ∧ kc ≤ 110 ∧ ks ≤ 1370 ∧ Ag 0 a Γ φ Γ' φ' ∧ Γ' a = .inr 5 ∧ Zr (a + 111) φ' ∧ ∀ Γs φs, Ag a (a + 111) Γ' φ' Γs φs → CPt Γs φs a WI0 (fun _ => false) (fun _ => 0) ∧ CMo Γs φs (a + 7) MO0 := by
  obtain ⟨Γ1, φ1, a1, a2, a3, a4, a5, a6, a7, a8, a9⟩ := mkA_at (k := kPt a) [(0, 2, 5), (1, 2, 5), (2, 2, 5), (3, 1, 5), (4, 0, 5), (5, 0, 5)] h z (by decide) (by decide)
  have z7 : Zr (a + 7) φ1 := a6.mono (by omega)
  obtain ⟨Γ2, φ2, c2, k2, b1, b1c, b1k, b2, b3, b4, b5⟩ := k_Mon (Γ := va_up Γ1 (a + 7) (.inr 4)) (φ := φ1) (a := a + 7) (vz_same _ _ _) z7
  have s1 : Ag 0 (a + 7) Γ1 φ1 Γ2 φ2 := (ag_vz (Ag.refl _ _ _ _) (by omega) _).trans b2
  have ha : Γ2 a = .inr 5 := by rw [s1.g (by omega) (by omega)]; exact a3
  refine ⟨Γ2, uR φ2 a 6 (some (a + 7)), 6 + (1 + (c2 + 0)), 30 + (9 + (k2 + 0)), ?_, by omega, by omega, ?_, ha, zr_uR (b4.mono (by omega)) (by omega) _ _, ?_⟩
  · rw [port_mk, a1]
    show mA 6 30 (kPt a Γ1 φ1 (a + 7)) = _
    unfold kPt
    rw [mN_ok z7, if_pos (vz_same _ _ _), b1, mB_ok, if_pos ha]
    rfl
  · exact ag_uR (a2.trans (s1.mono (by omega) (by omega))) (by omega) _ _
  · intro Γs φs s
    have q0 := a9 0 _ rfl
    have q1 := a9 1 _ rfl
    have q2 := a9 2 _ rfl
    have q3 := a9 3 _ rfl
    have q4 := a9 4 _ rfl
    have q5 := a9 5 _ rfl
    have er : φs.2.2 a = va_up (φ1.2.2 a) 6 (some (a + 7)) := by rw [s.r (by omega) (by omega), uR_s, s1.r (by omega) (by omega)]
    have eg : ∀ b, a < b → b < a + 7 → Γs b = Γ1 b := fun b h1 h2 => by rw [s.g (by omega) (by omega), s1.g (by omega) (by omega)]
    have ei : ∀ b, a < b → b < a + 7 → φs.1 b = fun _ => 0 := fun b h1 h2 => by
      rw [s.i (by omega) (by omega)]
      show φ2.1 b = _
      rw [s1.i (by omega) (by omega), a4]
      exact (z b (by omega)).1
    have el : ∀ b, a < b → b < a + 7 → φs.2.1 b = fun _ => 0 := fun b h1 h2 => by
      rw [s.l (by omega) (by omega)]
      show φ2.2.1 b = _
      rw [s1.l (by omega) (by omega), a5]
      exact (z b (by omega)).2.1
    refine ⟨⟨by rw [s.g (by omega) (by omega)]; exact ha, ?_, ?_, ?_, ?_, ?_, ?_, ?_, gA_of ?_, gA_of ?_, gA_of ?_, gA_of ?_, gA_of ?_, gA_of ?_, fun c hc => ?_, fun c hc => ?_, fun c hc => ?_⟩, ?_⟩
    · rw [er, vz_ne _ (by decide)]; exact q0.1
    · rw [er, vz_ne _ (by decide)]; exact q1.1
    · rw [er, vz_ne _ (by decide)]; exact q2.1
    · rw [er, vz_ne _ (by decide)]; exact q3.1
    · rw [er, vz_ne _ (by decide)]; exact q4.1
    · rw [er, vz_ne _ (by decide)]; exact q5.1
    · rw [er, vz_same]
    · rw [eg _ (by omega) (by omega)]; exact q0.2
    · rw [eg _ (by omega) (by omega)]; exact q1.2
    · rw [eg _ (by omega) (by omega)]; exact q2.2
    · rw [eg _ (by omega) (by omega)]; exact q3.2
    · rw [eg _ (by omega) (by omega)]; exact q4.2
    · rw [eg _ (by omega) (by omega)]; exact q5.2
    · rw [ei _ (by omega) (by omega), ei _ (by omega) (by omega), ei _ (by omega) (by omega), el _ (by omega) (by omega)]; exact ⟨rfl, rfl, rfl, rfl⟩
    · rw [ei _ (by omega) (by omega)]; rfl
    · rw [ei _ (by omega) (by omega)]
    · refine b5 Γs φs ?_
      exact (ag_uR (Ag.refl _ _ _ _) (by omega) _ _).trans (s.mono (by omega) (by omega))
