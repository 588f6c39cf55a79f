/-! THE CONSTRUCTORS: the whole object -/
theorem k_Bus {Γ : gm_T} {φ : ph_T} {b : Nat} (p0 p1 p2 : Int32) (h : Γ b = .inr 11) (z : Zr b φ) : ∃ Γ' φ' kc ks, f_Bus_init Γ φ (b + 1) b p0 p1 p2 = some ((), (Γ', φ', tAd b (clN p0 4) (clN p1 4) + 256), (kc, ks)) ∧ kc ≤ 5000 ∧ ks ≤ 50000 ∧ Ag 0 b Γ φ Γ' φ' ∧ Γ' b = .inr 11 ∧ Zr (tAd b (clN p0 4) (clN p1 4) + 256) φ' ∧ ∀ Γs φs, Ag b (tAd b (clN p0 4) (clN p1 4) + 256) Γ' φ' Γs φs → CV Γs φs b (XSi (clN p0 4) (clN p1 4) (clN p2 8)).clr := by
  have n4 := cl_bd p0 (m := 4) (by decide) (by decide)
  have n5 := cl_bd p1 (m := 4) (by decide) (by decide)
  have e0 := e_nearest (Γ := Γ) (φ := φ) (x := p0) (m := 4) (by decide) (by decide)
  have e1 := e_nearest (Γ := Γ) (φ := φ) (x := p1) (m := 4) (by decide) (by decide)
  have e2 : ∀ Γ φ, f_Bus_nearest Γ φ p2 (nI 8) = some (nI (clN p2 8), φ) := fun Γ φ => e_nearest (Γ := Γ) (φ := φ) (x := p2) (m := 8) (by decide) (by decide)
  generalize clN p0 4 = nm at *
  generalize clN p1 4 = ns at *
  generalize clN p2 8 = lim at *
  obtain ⟨Q, hQ⟩ : ∃ Q, Q = bQ b nm ns := ⟨_, rfl⟩
  have eQ : Q = b + 35 + 30 * nm + 20 * ns := hQ
  have eZ : b + 4 + swZ nm ns = Q := by rw [hQ]; exact bQ_0 b nm ns
  obtain ⟨P, hP⟩ : ∃ P, P = Q + 2 + 115 * nm := ⟨_, rfl⟩
  obtain ⟨R, hR⟩ : ∃ R, R = P + 2 + 143 * ns := ⟨_, rfl⟩
  have eS : ∀ s, sAd b nm ns s = P + 2 + 143 * s := fun s => by unfold sAd; rw [← hQ]; omega
  have eM : ∀ m, mAd b nm ns m = Q + 2 + 115 * m := fun m => by unfold mAd; rw [← hQ]
  have eR : rAd b nm ns = R := by unfold rAd; rw [← hQ]; omega
  have eT : tAd b nm ns = R + 224 := by unfold tAd; rw [eR]
  have z1 : Zr (b + 1) φ := z.mono (by omega)
  obtain ⟨Γ2, φ2, a1, a2, a3, a4, a5⟩ := k_Mem (Γ := va_up Γ (b + 1) (.inr 2)) (φ := φ) (a := b + 1) (vz_same _ _ _) z1
  have s02 : Ag 0 (b + 1) Γ φ Γ2 φ2 := (ag_vz (Ag.refl _ _ _ _) (by omega) _).trans a2
  have o2 : Γ2 b = .inr 11 := by rw [s02.g (by omega) (by omega)]; exact h
  have z2 : Zr (b + 4) (uR φ2 b 0 (some (b + 1))) := zr_uR (a4.mono (by omega)) (by omega) _ _
  obtain ⟨Γ4, φ4, c4, k4, b1, b1c, b1k, b2, b3, b4, b5⟩ := k_Sw (Γ := va_up Γ2 (b + 4) (.inr 10)) (φ := uR φ2 b 0 (some (b + 1))) (w := b + 4) (nm := nm) (ns := ns) (lim := lim) (vz_same _ _ _) z2 n4 n5 (XS.clr_sw (XSi nm ns lim))
  rw [eZ] at b1 b4 b5
  have s24 : Ag 0 (b + 4) Γ2 (uR φ2 b 0 (some (b + 1))) Γ4 φ4 := (ag_vz (Ag.refl _ _ _ _) (by omega) _).trans b2
  have o4 : Γ4 b = .inr 11 := by rw [s24.g (by omega) (by omega)]; exact o2
  have z4 : Zr Q (uR φ4 b 1 (some (b + 4))) := zr_uR b4 (by omega) _ _
  have z5 : Zr (Q + 1) (uR (uR φ4 b 1 (some (b + 4))) b 2 (some Q)) := zr_uR (z4.mono (by omega)) (by omega) _ _
  obtain ⟨φ6, hφ6⟩ : ∃ φ6, φ6 = uR (uR (uR φ4 b 1 (some (b + 4))) b 2 (some Q)) b 4 (some (Q + 1)) := ⟨_, rfl⟩
  obtain ⟨Γ6, hΓ6⟩ : ∃ Γ6, Γ6 = va_up (va_up Γ4 Q (.inl (8, nm))) (Q + 1) (.inl (7, nm)) := ⟨_, rfl⟩
  have f6 : Fr b (b + 1) φ4 φ6 := by subst hφ6; exact fr_uR (fr_uR (fr_uR (Fr.refl _ _ _) (by omega) _ _) (by omega) _ _) (by omega) _ _
  have z6 : Zr (Q + 2) φ6 := zr_fr (b4.mono (by omega)) f6 (by omega)
  have r6 : φ6.2.2 b = va_up (va_up (va_up (va_up (φ2.2.2 b) 0 (some (b + 1))) 1 (some (b + 4))) 2 (some Q)) 4 (some (Q + 1)) := by subst hφ6; rw [uR_s, uR_s, uR_s, s24.r (by omega) (by omega), uR_s]
  have o6 : Γ6 b = .inr 11 := by subst hΓ6; rw [vz_ne _ (by omega), vz_ne _ (by omega)]; exact o4
  have i6 : φ6.1 b = fun _ => 0 := by
    rw [show φ6.1 = φ4.1 by subst hφ6; rfl, s24.i (by omega) (by omega)]
    show φ2.1 b = _
    rw [s02.i (by omega) (by omega)]
    exact (z b (Nat.le_refl _)).1
  have hI6 : BmI b Q nm 0 Γ6 φ6 := by
    refine ⟨o6, by rw [r6, vz_ne _ (by decide), vz_same], by rw [r6, vz_same], ?_, ?_, fun j hj => by omega, fun j hj => by omega, fun j hj => by omega⟩
    · subst hΓ6; rw [vz_ne _ (by omega), vz_same]
    · subst hΓ6; rw [vz_same]
  obtain ⟨Γ7, φ7, c7, k7, fu7, d1, d2, d3, d4, d5, d6⟩ := k_ma_L (b := b) (Q := Q) (nm := nm) (ns := ns) (x6 := b + 1) (by omega) n4.2 nm 0 jF Γ6 φ6 (by omega) (by unfold jF; omega) hI6 z6
  rw [← hP] at d1 d6
  have z7 : Zr (P + 1) (uR φ7 b 3 (some P)) := zr_uR (d6.mono (by omega)) (by omega) _ _
  obtain ⟨φ8, hφ8⟩ : ∃ φ8, φ8 = uR (uR φ7 b 3 (some P)) b 5 (some (P + 1)) := ⟨_, rfl⟩
  obtain ⟨Γ8, hΓ8⟩ : ∃ Γ8, Γ8 = va_up (va_up Γ7 P (.inl (9, ns))) (P + 1) (.inl (7, ns)) := ⟨_, rfl⟩
  have f8 : Fr b (b + 1) φ7 φ8 := by subst hφ8; exact fr_uR (fr_uR (Fr.refl _ _ _) (by omega) _ _) (by omega) _ _
  have z8 : Zr (P + 2) φ8 := zr_fr (d6.mono (by omega)) f8 (by omega)
  have r8 : φ8.2.2 b = va_up (va_up (φ6.2.2 b) 3 (some P)) 5 (some (P + 1)) := by subst hφ8; rw [uR_s, uR_s, d4.r (by omega) (by omega)]
  have o8 : Γ8 b = .inr 11 := by subst hΓ8; rw [vz_ne _ (by omega), vz_ne _ (by omega)]; exact d5.o
  have i8 : φ8.1 b = fun _ => 0 := by rw [show φ8.1 = φ7.1 by subst hφ8; rfl, d4.i (by omega) (by omega)]; exact i6
  have hI8 : BsI b P ns (b + 1) 0 Γ8 φ8 := by
    refine ⟨o8, by rw [r8, vz_ne _ (by decide), vz_same], by rw [r8, vz_same], ?_, ?_, fun j hj => by omega, fun j hj => by omega, fun j hj => by omega⟩
    · subst hΓ8; rw [vz_ne _ (by omega), vz_same]
    · subst hΓ8; rw [vz_same]
  obtain ⟨Γ9, φ9, c9, k9, fu9, g1, g2, g3, g4, g5, g6⟩ := k_sl_L (b := b) (P := P) (ns := ns) (x6 := b + 1) (by omega) n5.2 ns 0 jF Γ8 φ8 (by omega) (by unfold jF; omega) hI8 z8
  rw [← hR] at g1 g6
  obtain ⟨φ10, hφ10⟩ : ∃ φ10, φ10 = uR φ9 b 6 (some R) := ⟨_, rfl⟩
  obtain ⟨Γ10, hΓ10⟩ : ∃ Γ10, Γ10 = va_up Γ9 R (.inl (7, 2)) := ⟨_, rfl⟩
  have f10 : Fr b (b + 1) φ9 φ10 := by subst hφ10; exact fr_uR (Fr.refl _ _ _) (by omega) _ _
  have z10 : Zr (R + 1) φ10 := zr_fr (g6.mono (by omega)) f10 (by omega)
  have r10 : φ10.2.2 b = va_up (φ8.2.2 b) 6 (some R) := by subst hφ10; rw [uR_s, g4.r (by omega) (by omega)]
  have o10 : Γ10 b = .inr 11 := by subst hΓ10; rw [vz_ne _ (by omega)]; exact g5.o
  have i10 : φ10.1 b = fun _ => 0 := by rw [show φ10.1 = φ9.1 by subst hφ10; rfl, g4.i (by omega) (by omega)]; exact i8
  have hI10 : BwI b R 0 Γ10 φ10 := by
    refine ⟨o10, by rw [r10, vz_same], ?_, fun j hj => by omega, fun j hj => by omega⟩
    subst hΓ10; rw [vz_same]
  obtain ⟨Γ11, φ11, c11, k11, fu11, j1, j2, j3, j4, j5, j6⟩ := k_wa_L (b := b) (R := R) (by omega) 2 0 jF Γ10 φ10 rfl (by unfold jF; omega) hI10 z10
  obtain ⟨φ12, hφ12⟩ : ∃ φ12, φ12 = uR φ11 b 7 (some (R + 223)) := ⟨_, rfl⟩
  obtain ⟨Γ12, hΓ12⟩ : ∃ Γ12, Γ12 = va_up Γ11 (R + 223) (.inl (6, 64)) := ⟨_, rfl⟩
  have f12 : Fr b (b + 1) φ11 φ12 := by subst hφ12; exact fr_uR (Fr.refl _ _ _) (by omega) _ _
  have z12 : Zr (R + 223 + 1) φ12 := zr_fr (j6.mono (by omega)) f12 (by omega)
  have r12 : φ12.2.2 b = va_up (φ10.2.2 b) 7 (some (R + 223)) := by subst hφ12; rw [uR_s, j4.r (by omega) (by omega)]
  have o12 : Γ12 b = .inr 11 := by subst hΓ12; rw [vz_ne _ (by omega)]; exact j5.o
  have i12 : φ12.1 b = fun _ => 0 := by rw [show φ12.1 = φ11.1 by subst hφ12; rfl, j4.i (by omega) (by omega)]; exact i10
  have hI12 : BtI b (R + 223) 0 Γ12 φ12 := by
    refine ⟨o12, by rw [r12, vz_same], ?_, fun j hj => by omega, fun j hj => by omega⟩
    subst hΓ12; rw [vz_same]
  obtain ⟨Γ13, φ13, c13, k13, l1, l2, l3, l4, l5, l6⟩ := k_tk_L (b := b) (R := R + 223) (by omega) 64 0 jF Γ12 φ12 rfl (by unfold jF; omega) hI12 z12
  -- what stays
  have t1113 : Ag (b + 1) (R + 223) Γ11 φ11 Γ13 φ13 := (show Ag (b + 1) (R + 223) Γ11 φ11 Γ12 φ12 by subst hΓ12; exact ag_fr (ag_vz (Ag.refl _ _ _ _) (by omega) _) f12 (by omega)).trans (l4.mono (by omega) (by omega))
  have t913 : Ag (b + 1) R Γ9 φ9 Γ13 φ13 := ((show Ag (b + 1) R Γ9 φ9 Γ10 φ10 by subst hΓ10; exact ag_fr (ag_vz (Ag.refl _ _ _ _) (by omega) _) f10 (by omega)).trans (j4.mono (by omega) (by omega))).trans (t1113.mono (by omega) (by omega))
  have t713 : Ag (b + 1) P Γ7 φ7 Γ13 φ13 := ((show Ag (b + 1) P Γ7 φ7 Γ8 φ8 by subst hΓ8; exact ag_fr (ag_vz (ag_vz (Ag.refl _ _ _ _) (by omega) _) (by omega) _) f8 (by omega)).trans (g4.mono (by omega) (by omega))).trans (t913.mono (by omega) (by omega))
  have t413 : Ag (b + 1) Q Γ4 φ4 Γ13 φ13 := ((show Ag (b + 1) Q Γ4 φ4 Γ6 φ6 by subst hΓ6; exact ag_fr (ag_vz (ag_vz (Ag.refl _ _ _ _) (by omega) _) (by omega) _) f6 (by omega)).trans (d4.mono (by omega) (by omega))).trans (t713.mono (by omega) (by omega))
  have t213 : Ag (b + 1) (b + 4) Γ2 φ2 Γ13 φ13 := ((ag_uR (Ag.refl _ _ _ _) (by omega) _ _).trans (s24.mono (by omega) (by omega))).trans (t413.mono (by omega) (by omega))
  have rb : φ13.2.2 b = φ12.2.2 b := l4.r (by omega) (by omega)
  have ib : φ13.1 b = fun _ => 0 := by rw [l4.i (by omega) (by omega)]; exact i12
  have ob : Γ13 b = .inr 11 := l5.o
  refine ⟨Γ13, φ13, 1 + (2 + (1 + (c4 + (1 + (1 + (c7 + (1 + (1 + (c9 + (1 + (c11 + (1 + c13)))))))))))), 2 + (9216 + (17 + (k4 + (nm + (nm + (k7 + (ns + (ns + (k9 + (2 + (k11 + (64 + k13)))))))))))), ?_, by omega, by omega, ?_, ob, by rw [eT]; exact l6, ?_⟩
  · unfold f_Bus_init
    rw [show (4 : Int32) = nI 4 from rfl, e0, Option.bind_some, e1, Option.bind_some]
    show mN Γ φ (b + 1) 2 _ = _
    rw [mN_ok z1, if_pos (vz_same _ _ _), a1, mB_ok, if_pos o2]
    show mA 1 2 (mA 2 9216 (mN Γ2 (uR φ2 b 0 (some (b + 1))) (b + 4) 10 _)) = _
    rw [mN_ok z2, show (8 : Int32) = nI 8 from rfl, e2, Option.bind_some, if_pos (vz_same _ _ _), b1, mB_ok, if_pos o4]
    show mA 1 2 (mA 2 9216 (mA 1 17 (mA c4 k4 (mR Γ4 (uR φ4 b 1 (some (b + 4))) Q 8 (nI nm) _)))) = _
    rw [mR_ok z4 8 nm (by omega), if_pos (by rw [vz_ne _ (by omega)]; exact o4), mR_ok z5 7 nm (by omega), ← hΓ6, if_pos o6, ← hφ6, zI_0]
    show mA 1 2 (mA 2 9216 (mA 1 17 (mA c4 k4 (mA 1 nm (mA 1 nm (f_Bus_init_L75 jF Γ6 φ6 (Q + 2 + 115 * 0) b (nI nm) (nI ns) (b + 1) (nI 0))))))) = _
    rw [d1, f_Bus_init_L75, if_pos (by rw [zI_le (by omega) (by omega)]; omega), mR_ok d6 9 ns (by omega), if_pos (by rw [vz_ne _ (by omega)]; exact d5.o), mR_ok z7 7 ns (by omega), ← hΓ8, if_pos o8, ← hφ8, zI_0]
    show mA 1 2 (mA 2 9216 (mA 1 17 (mA c4 k4 (mA 1 nm (mA 1 nm (mA c7 k7 (mA 1 ns (mA 1 ns (f_Bus_init_L137 jF Γ8 φ8 (P + 2 + 143 * 0) b (nI ns) (b + 1) (nI 0)))))))))) = _
    rw [g1, f_Bus_init_L137, if_pos (by rw [zI_le (by omega) (by omega)]; omega), show (2 : Int32) = nI 2 from rfl, mR_ok g6 7 2 (by omega), ← hΓ10, if_pos o10, ← hφ10, zI_0]
    show mA 1 2 (mA 2 9216 (mA 1 17 (mA c4 k4 (mA 1 nm (mA 1 nm (mA c7 k7 (mA 1 ns (mA 1 ns (mA c9 k9 (mA 1 2 (f_Bus_init_L191 jF Γ10 φ10 (R + 1 + 111 * 0) b (nI 0)))))))))))) = _
    rw [j1, f_Bus_init_L191, if_pos (by decide), show (64 : Int32) = nI 64 from rfl, mR_ok j6 6 64 (by omega), ← hΓ12, if_pos o12, ← hφ12, zI_0]
    show mA 1 2 (mA 2 9216 (mA 1 17 (mA c4 k4 (mA 1 nm (mA 1 nm (mA c7 k7 (mA 1 ns (mA 1 ns (mA c9 k9 (mA 1 2 (mA c11 k11 (mA 1 64 (f_Bus_init_L229 jF Γ12 φ12 (R + 223 + 1 + 4 * 0) b (nI 0)))))))))))))) = _
    rw [l1, eT]
    rfl
  · have q2 : Ag 0 b Γ φ Γ4 φ4 := (ag_uR (s02.mono (by omega) (by omega)) (by omega) _ _).trans (s24.mono (by omega) (by omega))
    have q6 : Ag 0 b Γ φ Γ6 φ6 := by subst hΓ6; exact ag_fr (ag_vz (ag_vz q2 (by omega) _) (by omega) _) f6 (by omega)
    have q7 := q6.trans (d4.mono (by omega) (by omega))
    have q8 : Ag 0 b Γ φ Γ8 φ8 := by subst hΓ8; exact ag_fr (ag_vz (ag_vz q7 (by omega) _) (by omega) _) f8 (by omega)
    have q9 := q8.trans (g4.mono (by omega) (by omega))
    have q10 : Ag 0 b Γ φ Γ10 φ10 := by subst hΓ10; exact ag_fr (ag_vz q9 (by omega) _) f10 (by omega)
    have q11 := q10.trans (j4.mono (by omega) (by omega))
    have q12 : Ag 0 b Γ φ Γ12 φ12 := by subst hΓ12; exact ag_fr (ag_vz q11 (by omega) _) f12 (by omega)
    exact q12.trans (l4.mono (by omega) (by omega))
  · intro Γs φs s
    rw [eT] at s
    have u2 : Ag (b + 1) (b + 4) Γ2 φ2 Γs φs := t213.trans (s.mono (by omega) (by omega))
    have u4 : Ag (b + 1) Q Γ4 φ4 Γs φs := t413.trans (s.mono (by omega) (by omega))
    have u7 : Ag (b + 1) P Γ7 φ7 Γs φs := t713.trans (s.mono (by omega) (by omega))
    have u9 : Ag (b + 1) R Γ9 φ9 Γs φs := t913.trans (s.mono (by omega) (by omega))
    have u11 : Ag (b + 1) (R + 223) Γ11 φ11 Γs φs := t1113.trans (s.mono (by omega) (by omega))
    have u13 : Ag b (R + 480) Γ13 φ13 Γs φs := s
    have rbs : φs.2.2 b = va_up (va_up (va_up (va_up (va_up (va_up (va_up (va_up (φ2.2.2 b) 0 (some (b + 1))) 1 (some (b + 4))) 2 (some Q)) 4 (some (Q + 1))) 3 (some P)) 5 (some (P + 1))) 6 (some R)) 7 (some (R + 223)) := by rw [u13.r (by omega) (by omega), rb, r12, r10, r8, r6]
    have ibs : φs.1 b = fun _ => 0 := by rw [u13.i (by omega) (by omega)]; exact ib
    have pM : ∀ m, m < nm → pAd b nm ns m = Q + 6 + 115 * m := fun m hm => by unfold pAd; rw [if_pos (by omega), eM]; omega
    have pS : ∀ s, s < ns → pAd b nm ns (4 + s) = P + 34 + 143 * s := fun s hs => by unfold pAd; rw [if_neg (by omega), if_pos (by omega), eS]; omega
    have pW : ∀ i, i < 2 → pAd b nm ns (8 + i) = R + 1 + 111 * i := fun i hi => by unfold pAd; rw [if_neg (by omega), if_neg (by omega), eR]; omega
    have kM : ∀ m, m < nm → _ := fun m hm => d5.m m hm Γs φs (u7.mono (by omega) (by omega))
    have kS : ∀ s, s < ns → _ := fun s hs => g5.s s hs Γs φs (u9.mono (by omega) (by omega))
    have kW : ∀ i, i < 2 → _ := fun i hi => j5.w i hi Γs φs (u11.mono (by omega) (by omega))
    refine ⟨⟨by rw [u13.g (by omega) (by omega)]; exact ob, n4, n5, ?_, ?_, ?_, ?_, ?_, ?_, ?_, ?_, gA_of ?_, gA_of ?_, gA_of ?_, gA_of ?_, gA_of ?_, gA_of ?_, ?_, ?_, ?_, ?_, ?_, ?_⟩, by rw [ibs]; rfl, by rw [ibs]; rfl, a5 Γs φs u2, b5 Γs φs (u4.mono (by omega) (by omega)), ?_, ⟨?_, Nat.zero_le _, (fun t x hx => by cases hx)⟩, TkO_nil, ?_, ?_, ?_⟩
    · rw [rbs, vz_ne _ (by decide), vz_ne _ (by decide), vz_ne _ (by decide), vz_ne _ (by decide), vz_ne _ (by decide), vz_ne _ (by decide), vz_ne _ (by decide), vz_same]
    · rw [rbs, vz_ne _ (by decide), vz_ne _ (by decide), vz_ne _ (by decide), vz_ne _ (by decide), vz_ne _ (by decide), vz_ne _ (by decide), vz_same]
    · show φs.2.2 b 2 = some (bQ b nm ns)
      rw [← hQ, rbs, vz_ne _ (by decide), vz_ne _ (by decide), vz_ne _ (by decide), vz_ne _ (by decide), vz_ne _ (by decide), vz_same]
    · show φs.2.2 b 3 = some (sAd b nm ns 0 - 2)
      rw [eS, rbs, vz_ne _ (by decide), vz_ne _ (by decide), vz_ne _ (by decide), vz_same, show P + 2 + 143 * 0 - 2 = P by omega]
    · show φs.2.2 b 4 = some (bQ b nm ns + 1)
      rw [← hQ, rbs, vz_ne _ (by decide), vz_ne _ (by decide), vz_ne _ (by decide), vz_ne _ (by decide), vz_same]
    · show φs.2.2 b 5 = some (sAd b nm ns 0 - 1)
      rw [eS, rbs, vz_ne _ (by decide), vz_ne _ (by decide), vz_same, show P + 2 + 143 * 0 - 1 = P + 1 by omega]
    · show φs.2.2 b 6 = some (rAd b nm ns)
      rw [eR, rbs, vz_ne _ (by decide), vz_same]
    · show φs.2.2 b 7 = some (tAd b nm ns - 1)
      rw [eT, rbs, vz_same, show R + 224 - 1 = R + 223 by omega]
    · show Γs (bQ b nm ns) = .inl (8, nm)
      rw [← hQ, u7.g (by omega) (by omega)]; exact d5.g2
    · show Γs (sAd b nm ns 0 - 2) = .inl (9, ns)
      rw [eS, show P + 2 + 143 * 0 - 2 = P by omega, u9.g (by omega) (by omega)]; exact g5.g3
    · show Γs (bQ b nm ns + 1) = .inl (7, nm)
      rw [← hQ, u7.g (by omega) (by omega)]; exact d5.g4
    · show Γs (sAd b nm ns 0 - 1) = .inl (7, ns)
      rw [eS, show P + 2 + 143 * 0 - 1 = P + 1 by omega, u9.g (by omega) (by omega)]; exact g5.g5
    · show Γs (rAd b nm ns) = .inl (7, 2)
      rw [eR, u11.g (by omega) (by omega)]; exact j5.g6
    · show Γs (tAd b nm ns - 1) = .inl (6, 64)
      rw [eT, show R + 224 - 1 = R + 223 by omega, u13.g (by omega) (by omega)]; exact l5.g7
    · intro m hm
      show φs.2.2 (bQ b nm ns) m = some (mAd b nm ns m)
      rw [← hQ, eM, u7.r (by omega) (by omega)]; exact d5.a2 m hm
    · intro m hm
      show φs.2.2 (bQ b nm ns + 1) m = some (pAd b nm ns m)
      rw [← hQ, pM m hm, u7.r (by omega) (by omega)]; exact d5.a4 m hm
    · intro s hs
      show φs.2.2 (sAd b nm ns 0 - 2) s = some (sAd b nm ns s)
      rw [eS s, eS 0, show P + 2 + 143 * 0 - 2 = P by omega, u9.r (by omega) (by omega)]; exact g5.a3 s hs
    · intro s hs
      show φs.2.2 (sAd b nm ns 0 - 1) s = some (pAd b nm ns (4 + s))
      rw [eS 0, pS s hs, show P + 2 + 143 * 0 - 1 = P + 1 by omega, u9.r (by omega) (by omega)]; exact g5.a5 s hs
    · intro i hi
      show φs.2.2 (rAd b nm ns) i = some (pAd b nm ns (8 + i))
      rw [eR, pW i hi, u11.r (by omega) (by omega)]; exact j5.a6 i hi
    · intro t ht
      show φs.2.2 (tAd b nm ns - 1) t = some (tAd b nm ns + 4 * t)
      rw [eT, show R + 224 - 1 = R + 223 by omega, u13.r (by omega) (by omega), l5.a7 t ht]
    · intro m hm
      show CMa Γs φs (mAd b nm ns m) (tAd b nm ns) [] m (fun _ => 65535) false
      rw [eM]
      exact (kM m hm).1 _ _
    · intro t ht
      show Γs (tAd b nm ns + 4 * t) = .inr 6 ∧ φs.2.2 (tAd b nm ns + 4 * t) 0 = some (tAd b nm ns + 4 * t + 1) ∧ CBl Γs φs (tAd b nm ns + 4 * t + 1)
      rw [eT, show R + 224 + 4 * t = R + 223 + 1 + 4 * t by omega]
      exact l5.t t ht Γs φs (u13.mono (by omega) (by omega))
    · intro p hp
      have hp' : okP nm ns p := hp
      refine ⟨fun _ => false, ?_⟩
      show CPt Γs φs (pAd b nm ns p) WI0 (fun _ => false) (fun _ => 0)
      rcases hp' with hp | hp | hp | hp
      · rw [pM p hp]; exact (kM p hp).2.1
      · obtain ⟨s', hs'⟩ : ∃ s', p = 4 + s' := ⟨p - 4, by omega⟩
        subst hs'
        rw [pS s' (by omega)]; exact (kS s' (by omega)).2.1
      · subst hp; rw [show (8 : Nat) = 8 + 0 from rfl, pW 0 (by omega)]; exact (kW 0 (by omega)).1
      · subst hp; rw [show (9 : Nat) = 8 + 1 from rfl, pW 1 (by omega)]; exact (kW 1 (by omega)).1
    · intro p hp
      have hp' : okP nm ns p := hp
      show CMo Γs φs (pAd b nm ns p + 7) (MOz.beg)
      refine CMo.beg ?_ _
      rcases hp' with hp | hp | hp | hp
      · rw [pM p hp]; exact (kM p hp).2.2
      · obtain ⟨s', hs'⟩ : ∃ s', p = 4 + s' := ⟨p - 4, by omega⟩
        subst hs'
        rw [pS s' (by omega)]; exact (kS s' (by omega)).2.2
      · subst hp; rw [show (8 : Nat) = 8 + 0 from rfl, pW 0 (by omega)]; exact (kW 0 (by omega)).2
      · subst hp; rw [show (9 : Nat) = 8 + 1 from rfl, pW 1 (by omega)]; exact (kW 1 (by omega)).2
    · intro s' hs'
      show CSl Γs φs (sAd b nm ns s') (b + 1) _ s'
      rw [eS]
      exact (kS s' hs').1 _ _ rfl rfl (fun _ => rfl) (fun _ => rfl) rfl rfl rfl rfl rfl
