/-! THE CONSTRUCTORS: masters, slaves -/
def kMa (a : Nat) : gm_T → ph_T → Nat → Option (mq_T Unit) := fun Γ φ n =>
  Option.bind (f_Arrays_fill1 Γ φ (φ.2.2 a 0) (65535 : Int32)) fun q16 =>
  some ((), (Γ, q16.2, n), (0, 0))
theorem mas_mk (Γ : gm_T) (φ : ph_T) (a : Nat) : f_Master_init Γ φ (a + 1) a = mkA a 7 (kMa a) [(0, 0, 5), (2, 6, 64), (3, 6, 64)] Γ φ (a + 1) := by rfl
theorem k_Mas {Γ : gm_T} {φ : ph_T} {a : Nat} (h : Γ a = .inr 7) (z : Zr a φ) : ∃ Γ' φ', f_Master_init Γ φ (a + 1) a = some ((), (Γ', φ', a + 4), (3, 133)) ∧ Ag 0 a Γ φ Γ' φ' ∧ Γ' a = .inr 7 ∧ Zr (a + 4) φ' ∧ ∀ Γs φs, Ag a (a + 4) Γ' φ' Γs φs → ∀ b m, CMa Γs φs a b [] m (fun _ => 65535) false := by
  obtain ⟨Γ1, φ1, a1, a2, a3, a4, a5, a6, a7, a8, a9⟩ := mkA_at (k := kMa a) [(0, 0, 5), (2, 6, 64), (3, 6, 64)] h z (by decide) (by decide)
  have q0 := a9 0 _ rfl
  have q1 := a9 1 _ rfl
  have q2 := a9 2 _ rfl
  have g0 : gA Γ1 (a + 1) 0 = some 5 := gA_of q0.2
  obtain ⟨φ2, b1, b2, b3, b5⟩ := e_fill1 g0 (by omega) φ1 (65535 : Int32)
  refine ⟨Γ1, φ2, ?_, ag_fr a2 b2 (by omega), a3, zr_fr (a6.mono (by omega)) b2 (by omega), ?_⟩
  · rw [mas_mk, a1]
    show mA 3 133 (kMa a Γ1 φ1 (a + 4)) = _
    unfold kMa
    rw [show φ1.2.2 a 0 = some (a + 1) from q0.1, b1]
    rfl
  · intro Γs φs s b m
    have er : φs.2.2 a = φ1.2.2 a := by rw [s.r (by omega) (by omega), b3]
    have ei : φs.1 a = fun _ => 0 := by rw [s.i (by omega) (by omega), b2.i (by omega), a4]; exact (z a (by omega)).1
    refine ⟨by rw [s.g (by omega) (by omega)]; exact a3, by rw [er]; exact q0.1, by rw [er]; exact q1.1, by rw [er]; exact q2.1, gA_of (by rw [s.g (by omega) (by omega)]; exact q0.2), gA_of (by rw [s.g (by omega) (by omega)]; exact q1.2), gA_of (by rw [s.g (by omega) (by omega)]; exact q2.2), fun c hc => ?_, ?_, ?_, ?_, ?_, ?_, ?_, ?_, ?_, ?_⟩
    · rw [s.i (by omega) (by omega), b5 c hc]; rfl
    · rw [ei]; rfl
    · intro i t ht; cases ht
    · intro i t ht; cases ht
    · rw [ei]; rfl
    · rw [ei]; rfl
    · rw [ei]; rfl
    · rw [ei]; rfl
    · rw [ei]; rfl
    · rw [ei]; rfl
/-- a slave -/
theorem k_Sla {Γ : gm_T} {φ : ph_T} {a am : Nat} (h : Γ a = .inr 8) (z : Zr a φ) : ∃ Γ' φ' kc ks, f_Slave_init Γ φ (a + 1) a (some am) = some ((), (Γ', φ', a + 32), (kc, ks)) ∧ kc ≤ 103 ∧ ks ≤ 1449 ∧ Ag 0 a Γ φ Γ' φ' ∧ Γ' a = .inr 8 ∧ Zr (a + 32) φ' ∧ ∀ Γs φs, Ag a (a + 32) Γ' φ' Γs φs → ∀ (T : XS) (s : Nat), T.sw s = [] → T.sr s = [] → (∀ c, T.spat s c = 65535) → (∀ j, T.rgt s j = none) → T.delay s = 0 → T.way s = 0 → T.chb s = none → T.chr s = none → T.lat s = none → CSl Γs φs a am T s := by
  have z1 : Zr (a + 1) φ := z.mono (by omega)
  have z2 : Zr (a + 2) (uR φ a 1 (some (a + 1))) := zr_uR (z.mono (by omega)) (by omega) _ _
  have h1 : va_up Γ (a + 1) (.inl (0, 5)) a = .inr 8 := by rw [vz_ne _ (by omega)]; exact h
  obtain ⟨Γ1, φ1, c1, k1, a1, a1c, a1k, a2, a3, a4, a5⟩ := k_Line (Γ := va_up (va_up Γ (a + 1) (.inl (0, 5))) (a + 2) (.inr 1)) (φ := uR φ a 1 (some (a + 1))) (a := a + 2) (room := 4) (by omega) (vz_same _ _ _) z2
  have s0 : Ag 0 (a + 2) (va_up Γ (a + 1) (.inl (0, 5))) (uR φ a 1 (some (a + 1))) Γ1 φ1 := (ag_vz (Ag.refl _ _ _ _) (by omega) _).trans a2
  have ha : Γ1 a = .inr 8 := by rw [s0.g (by omega) (by omega)]; exact h1
  have z3 : Zr (a + 16) (uR φ1 a 2 (some (a + 2))) := zr_uR (a4.mono (by omega)) (by omega) _ _
  obtain ⟨Γ2, φ2, c2, k2, b1, b1c, b1k, b2, b3, b4, b5⟩ := k_Line (Γ := va_up Γ1 (a + 16) (.inr 1)) (φ := uR φ1 a 2 (some (a + 2))) (a := a + 16) (room := 4) (by omega) (vz_same _ _ _) z3
  have s1 : Ag 0 (a + 16) Γ1 (uR φ1 a 2 (some (a + 2))) Γ2 φ2 := (ag_vz (Ag.refl _ _ _ _) (by omega) _).trans b2
  have hb : Γ2 a = .inr 8 := by rw [s1.g (by omega) (by omega)]; exact ha
  have z4 : Zr (a + 30) (uR φ2 a 3 (some (a + 16))) := zr_uR (b4.mono (by omega)) (by omega) _ _
  have z5 : Zr (a + 31) (uR (uR φ2 a 3 (some (a + 16))) a 4 (some (a + 30))) := zr_uR (z4.mono (by omega)) (by omega) _ _
  obtain ⟨Γ3, hΓ3⟩ : ∃ Γ3, Γ3 = va_up (va_up Γ2 (a + 30) (.inl (0, 64))) (a + 31) (.inl (0, 64)) := ⟨_, rfl⟩
  obtain ⟨φ3, hφ3⟩ : ∃ φ3, φ3 = uR (uI (uI (uI (uR (uR (uR φ2 a 3 (some (a + 16))) a 4 (some (a + 30))) a 5 (some (a + 31))) a 8 (-1 : Int32)) a 9 (-1 : Int32)) a 10 (-1 : Int32)) a 0 (some am) := ⟨_, rfl⟩
  have f3 : Fr a (a + 1) φ2 φ3 := by
    subst hφ3
    exact fr_uR (fr_uI (fr_uI (fr_uI (fr_uR (fr_uR (fr_uR (Fr.refl _ _ _) (by omega) _ _) (by omega) _ _) (by omega) _ _) (by omega) _ _) (by omega) _ _) (by omega) _ _) (by omega) _ _
  have hc : Γ3 a = .inr 8 := by subst hΓ3; rw [vz_ne _ (by omega), vz_ne _ (by omega)]; exact hb
  have er : φ3.2.2 a = va_up (va_up (va_up (va_up (φ2.2.2 a) 3 (some (a + 16))) 4 (some (a + 30))) 5 (some (a + 31))) 0 (some am) := by
    subst hφ3
    rw [uR_s, uI_3, uI_3, uI_3, uR_s, uR_s, uR_s]
  have ei : φ3.1 a = va_up (va_up (va_up (φ2.1 a) 8 (-1 : Int32)) 9 (-1 : Int32)) 10 (-1 : Int32) := by
    subst hφ3
    rw [uR_1, uI_s, uI_s, uI_s]
    rfl
  have e2r : φ2.2.2 a 2 = some (a + 2) := by rw [s1.r (by omega) (by omega), uR_s, vz_same]
  have e1r : φ2.2.2 a 1 = some (a + 1) := by rw [s1.r (by omega) (by omega), uR_s, vz_ne _ (by decide), s0.r (by omega) (by omega), uR_s, vz_same]
  have e2i : φ2.1 a = fun _ => 0 := by
    rw [s1.i (by omega) (by omega)]
    show φ1.1 a = _
    rw [s0.i (by omega) (by omega)]
    exact (z a (by omega)).1
  have g1 : Γ3 (a + 1) = .inl (0, 5) := by subst hΓ3; rw [vz_ne _ (by omega), vz_ne _ (by omega), s1.g (by omega) (by omega), s0.g (by omega) (by omega), vz_same]
  have g4 : Γ3 (a + 30) = .inl (0, 64) := by subst hΓ3; rw [vz_ne _ (by omega), vz_same]
  have g5 : Γ3 (a + 31) = .inl (0, 64) := by subst hΓ3; rw [vz_same]
  have r1 : φ3.2.2 a 1 = some (a + 1) := by rw [er, vz_ne _ (by decide), vz_ne _ (by decide), vz_ne _ (by decide), vz_ne _ (by decide)]; exact e1r
  have r4 : φ3.2.2 a 4 = some (a + 30) := by rw [er, vz_ne _ (by decide), vz_ne _ (by decide), vz_same]
  obtain ⟨φ4, d1, d2, d3, d5⟩ := e_fill1 (gA_of g1) (by omega) φ3 (65535 : Int32)
  obtain ⟨φ5, e1, e2, e3, e5⟩ := e_fill1 (gA_of g4) (by omega) φ4 (-1 : Int32)
  have e52 : φ5.2 = φ3.2 := e3.trans d3
  have zz : Zr (a + 32) φ5 := zr_fr (zr_fr (zr_fr (b4.mono (by omega)) f3 (by omega)) d2 (by omega)) e2 (by omega)
  refine ⟨Γ3, φ5, 1 + (1 + (c1 + (1 + (c2 + (1 + (1 + 0)))))), 5 + (2 + (k1 + (2 + (k2 + (64 + (64 + 0)))))), ?_, by omega, by omega, ?_, hc, zz, ?_⟩
  · unfold f_Slave_init
    rw [show (5 : Int32) = nI 5 from rfl, mR_ok z1 0 5 (by omega), if_pos h1, mN_ok z2, if_pos (vz_same _ _ _), show (4 : Int32) = nI 4 from rfl, a1, mB_ok, if_pos ha, show a + 2 + 2 + 3 * 4 = a + 16 by omega, mN_ok z3, if_pos (vz_same _ _ _), b1, mB_ok, if_pos hb, show a + 16 + 2 + 3 * 4 = a + 30 by omega, show (64 : Int32) = nI 64 from rfl, mR_ok z4 0 64 (by omega), if_pos (by rw [vz_ne _ (by omega)]; exact hb), mR_ok z5 0 64 (by omega), if_pos (by rw [vz_ne _ (by omega), vz_ne _ (by omega)]; exact hb), ← hΓ3, ← hφ3, r1, d1, Option.bind_some]
    show mA 1 5 (mA 1 2 (mA c1 k1 (mA 1 2 (mA c2 k2 (mA 1 64 (mA 1 64 (Option.bind (f_Arrays_fill1 Γ3 φ4 (φ4.2.2 a 4) (-1 : Int32)) _))))))) = _
    rw [d3, r4, e1]
    rfl
  · refine ag_fr (ag_fr (ag_fr ?_ f3 (by omega)) d2 (by omega)) e2 (by omega)
    have t0 : Ag 0 a Γ φ Γ1 φ1 := (ag_uR (ag_vz (Ag.refl _ _ _ _) (by omega) _) (by omega) _ _).trans (s0.mono (by omega) (by omega))
    have t1 : Ag 0 a Γ φ Γ2 φ2 := (ag_uR t0 (by omega) _ _).trans (s1.mono (by omega) (by omega))
    subst hΓ3
    exact ag_vz (ag_vz t1 (by omega) _) (by omega) _
  · intro Γs φs s T s' t1 t2 t3 t4 t5 t6 t7 t8 t9
    have ers : φs.2.2 a = φ3.2.2 a := by rw [s.r (by omega) (by omega), e52]
    have eis : φs.1 a = φ3.1 a := by rw [s.i (by omega) (by omega), e2.i (by omega), d2.i (by omega)]
    refine ⟨by rw [s.g (by omega) (by omega)]; exact hc, ?_, ?_, ?_, ?_, ?_, ?_, gA_of ?_, gA_of ?_, gA_of ?_, ?_, ?_, fun c hc5 => ?_, fun j hj => ⟨?_, ?_⟩, ?_, ?_, ?_, ?_, ?_⟩
    · rw [ers, er, vz_same]
    · rw [ers]; exact r1
    · rw [ers, er, vz_ne _ (by decide), vz_ne _ (by decide), vz_ne _ (by decide), vz_ne _ (by decide)]; exact e2r
    · rw [ers, er, vz_ne _ (by decide), vz_ne _ (by decide), vz_ne _ (by decide), vz_same]
    · rw [ers]; exact r4
    · rw [ers, er, vz_ne _ (by decide), vz_same]
    · rw [s.g (by omega) (by omega)]; exact g1
    · rw [s.g (by omega) (by omega)]; exact g4
    · rw [s.g (by omega) (by omega)]; exact g5
    · rw [t1]
      refine a5 EWe EWe_loc Γs φs ?_
      have q1 : Ag (a + 2) (a + 16) Γ1 φ1 Γ2 φ2 := (ag_uR (Ag.refl _ _ _ _) (by omega) _ _).trans (s1.mono (by omega) (by omega))
      have q2 : Ag (a + 2) (a + 16) Γ1 φ1 Γ3 φ2 := by subst hΓ3; exact ag_vz (ag_vz q1 (by omega) _) (by omega) _
      exact (ag_fr (ag_fr (ag_fr q2 f3 (by omega)) d2 (by omega)) e2 (by omega)).trans (s.mono (by omega) (by omega))
    · rw [t2]
      refine b5 EQe EQe_loc Γs φs ?_
      have q2 : Ag (a + 16) (a + 30) Γ2 φ2 Γ3 φ2 := by subst hΓ3; exact ag_vz (ag_vz (Ag.refl _ _ _ _) (by omega) _) (by omega) _
      exact (ag_fr (ag_fr (ag_fr q2 f3 (by omega)) d2 (by omega)) e2 (by omega)).trans (s.mono (by omega) (by omega))
    · rw [s.i (by omega) (by omega), e2.i (by omega), d5 c hc5, t3]; rfl
    · rw [s.i (by omega) (by omega), e5 j hj, t4]; rfl
    · intro q hq; rw [t4] at hq; cases hq
    · rw [eis, ei, vz_ne _ (by decide), vz_ne _ (by decide), vz_ne _ (by decide), e2i, t5]; rfl
    · rw [eis, ei, vz_ne _ (by decide), vz_ne _ (by decide), vz_ne _ (by decide), e2i, t6]; rfl
    · intro i hi; rw [t7] at hi; cases hi
    · intro i hi; rw [t8] at hi; cases hi
    · rw [eis, ei, vz_same, t9]; rfl
