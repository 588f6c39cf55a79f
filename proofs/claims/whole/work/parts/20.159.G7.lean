/-! THE CONSTRUCTORS: the crossbar, whole -/
def UwI (w A nm i : Nat) (Γ : gm_T) (φ : ph_T) : Prop := (Γ w = .inr 10) ∧ (φ.2.2 w 6 = some A) ∧ (φ.2.2 w 7 = some (A + 1)) ∧ (Γ A = .inl (4, nm)) ∧ (Γ (A + 1) = .inl (4, nm)) ∧ (∀ j, j < i → φ.2.2 A j = some (A + 2 + 10 * j)) ∧ (∀ j, j < i → φ.2.2 (A + 1) j = some (A + 7 + 10 * j)) ∧ (∀ j, j < i → ∀ Γs φs, Ag (A + 2 + 10 * j) (A + 12 + 10 * j) Γ φ Γs φs → CUw Γs φs (A + 2 + 10 * j) [] ∧ CUw Γs φs (A + 7 + 10 * j) [])
theorem UwI.o {w A nm i : Nat} {Γ : gm_T} {φ : ph_T} (h : UwI w A nm i Γ φ) : Γ w = .inr 10 := h.1
theorem UwI.f6 {w A nm i : Nat} {Γ : gm_T} {φ : ph_T} (h : UwI w A nm i Γ φ) : φ.2.2 w 6 = some A := h.2.1
theorem UwI.f7 {w A nm i : Nat} {Γ : gm_T} {φ : ph_T} (h : UwI w A nm i Γ φ) : φ.2.2 w 7 = some (A + 1) := h.2.2.1
theorem UwI.g6 {w A nm i : Nat} {Γ : gm_T} {φ : ph_T} (h : UwI w A nm i Γ φ) : Γ A = .inl (4, nm) := h.2.2.2.1
theorem UwI.g7 {w A nm i : Nat} {Γ : gm_T} {φ : ph_T} (h : UwI w A nm i Γ φ) : Γ (A + 1) = .inl (4, nm) := h.2.2.2.2.1
theorem UwI.a6 {w A nm i : Nat} {Γ : gm_T} {φ : ph_T} (h : UwI w A nm i Γ φ) : ∀ j, j < i → φ.2.2 A j = some (A + 2 + 10 * j) := h.2.2.2.2.2.1
theorem UwI.a7 {w A nm i : Nat} {Γ : gm_T} {φ : ph_T} (h : UwI w A nm i Γ φ) : ∀ j, j < i → φ.2.2 (A + 1) j = some (A + 7 + 10 * j) := h.2.2.2.2.2.2.1
theorem UwI.u {w A nm i : Nat} {Γ : gm_T} {φ : ph_T} (h : UwI w A nm i Γ φ) : ∀ j, j < i → ∀ Γs φs, Ag (A + 2 + 10 * j) (A + 12 + 10 * j) Γ φ Γs φs → CUw Γs φs (A + 2 + 10 * j) [] ∧ CUw Γs φs (A + 7 + 10 * j) [] := h.2.2.2.2.2.2.2
theorem k_Uw_L {w A nm ns : Nat} (hw : w < A) (hn : nm ≤ 4) : ∀ (d i fu : Nat) (Γ : gm_T) (φ : ph_T), i + d = nm → d < fu → UwI w A nm i Γ φ → Zr (A + 2 + 10 * i) φ →
    ∃ Γ' φ' kc ks fu', f_Switch_init_L64 fu Γ φ (A + 2 + 10 * i) w (nI nm) (nI ns) (nI i) = mA kc ks (f_Switch_init_L64 (fu' + 1) Γ' φ' (A + 2 + 10 * nm) w (nI nm) (nI ns) (nI nm)) ∧ kc ≤ 10 * d ∧ ks ≤ 74 * d ∧ Ag 0 A Γ φ Γ' φ' ∧ UwI w A nm nm Γ' φ' ∧ Zr (A + 2 + 10 * nm) φ' ∧ φ'.1 A = φ.1 A := by
  intro d
  induction d with
  | zero =>
    intro i fu Γ φ hd hfu h z
    match fu, hfu with
    | fu + 1, _ =>
      have hi : i = nm := by omega
      subst hi
      exact ⟨Γ, φ, 0, 0, fu, (mA_0 _).symm, by omega, by omega, Ag.refl _ _ _ _, h, z, rfl⟩
  | succ d ih =>
    intro i fu Γ φ hd hfu h z
    match fu, hfu with
    | fu + 1, hfu =>
      obtain ⟨Γ1, φ1, a1, a2, a3, a4, a5⟩ := k_Uw (Γ := va_up Γ (A + 2 + 10 * i) (.inr 9)) (φ := φ) (a := A + 2 + 10 * i) (vz_same _ _ _) z
      have s1 : Ag 0 (A + 2 + 10 * i) Γ φ Γ1 φ1 := (ag_vz (Ag.refl _ _ _ _) (by omega) _).trans a2
      have z2 : Zr (A + 7 + 10 * i) (uR φ1 A i (some (A + 2 + 10 * i))) := zr_uR (a4.mono (by omega)) (by omega) _ _
      obtain ⟨Γ2, φ2, b1, b2, b3, b4, b5⟩ := k_Uw (Γ := va_up Γ1 (A + 7 + 10 * i) (.inr 9)) (φ := uR φ1 A i (some (A + 2 + 10 * i))) (a := A + 7 + 10 * i) (vz_same _ _ _) z2
      have s2 : Ag 0 (A + 7 + 10 * i) Γ1 (uR φ1 A i (some (A + 2 + 10 * i))) Γ2 φ2 := (ag_vz (Ag.refl _ _ _ _) (by omega) _).trans b2
      have s12 : Ag 0 A Γ φ Γ2 (uR φ2 (A + 1) i (some (A + 7 + 10 * i))) := ag_uR ((ag_uR (s1.mono (by omega) (by omega)) (by omega) _ _).trans (s2.mono (by omega) (by omega))) (by omega) _ _
      have hI : UwI w A nm (i + 1) Γ2 (uR φ2 (A + 1) i (some (A + 7 + 10 * i))) := by
        refine ⟨by rw [s12.g (by omega) (by omega)]; exact h.o, by rw [s12.r (by omega) (by omega)]; exact h.f6, by rw [s12.r (by omega) (by omega)]; exact h.f7, ?_, ?_, fun j hj => ?_, fun j hj => ?_, fun j hj Γs φs s => ?_⟩
        · rw [s2.g (by omega) (by omega), s1.g (by omega) (by omega)]; exact h.g6
        · rw [s2.g (by omega) (by omega), s1.g (by omega) (by omega)]; exact h.g7
        · rw [uR_3, if_neg (by omega), s2.r (by omega) (by omega), uR_s, vz_at]
          by_cases e : j = i
          · rw [if_pos e, e]
          · rw [if_neg e, s1.r (by omega) (by omega)]; exact h.a6 j (by omega)
        · rw [uR_s, vz_at]
          by_cases e : j = i
          · rw [if_pos e, e]
          · rw [if_neg e, s2.r (by omega) (by omega), uR_3, if_neg (by omega), s1.r (by omega) (by omega)]; exact h.a7 j (by omega)
        · by_cases e : j = i
          · subst e
            refine ⟨a5 Γs φs ?_, b5 Γs φs ?_⟩
            · exact (ag_uR ((ag_uR (Ag.refl _ _ _ _) (by omega) _ _).trans (s2.mono (by omega) (by omega))) (by omega) _ _).trans (s.mono (by omega) (by omega))
            · exact (ag_uR (Ag.refl _ _ _ _) (by omega) _ _).trans (s.mono (by omega) (by omega))
          · refine h.u j (by omega) Γs φs ?_
            exact (ag_uR ((ag_uR (s1.mono (by omega) (by omega)) (by omega) _ _).trans (s2.mono (by omega) (by omega))) (by omega) _ _).trans s
      obtain ⟨Γ', φ', kc, ks, fu', c1, c2, c3, c4, c5, c6, c7⟩ := ih (i + 1) fu Γ2 (uR φ2 (A + 1) i (some (A + 7 + 10 * i))) (by omega) (by omega) hI (zr_uR (b4.mono (by omega)) (by omega) _ _)
      refine ⟨Γ', φ', 1 + 4 + 1 + 4 + kc, 5 + 32 + 5 + 32 + ks, fu', ?_, by omega, by omega, s12.trans c4, c5, c6, ?_⟩
      · have hw1 : Γ1 w = .inr 10 := by rw [s1.g (by omega) (by omega)]; exact h.o
        have r7 : (uR φ1 A i (some (A + 2 + 10 * i))).2.2 w 7 = some (A + 1) := by rw [uR_3, if_neg (by omega), s1.r (by omega) (by omega)]; exact h.f7
        rw [f_Switch_init_L64, if_neg (by rw [zI_le (by omega) (by omega)]; omega), if_pos h.o, mN_ok z, if_pos (vz_same _ _ _), a1, mB_ok, h.f6, Option.bind_some, gA_of (show Γ1 A = .inl (4, nm) by rw [s1.g (by omega) (by omega)]; exact h.g6), Option.bind_some, zix (by omega), Option.bind_some, if_pos a3, if_pos hw1, show A + 2 + 10 * i + 5 = A + 7 + 10 * i by omega, mN_ok z2, if_pos (vz_same _ _ _), b1, mB_ok, r7, Option.bind_some, gA_of (show Γ2 (A + 1) = .inl (4, nm) by rw [s2.g (by omega) (by omega), s1.g (by omega) (by omega)]; exact h.g7), Option.bind_some, zix (by omega), Option.bind_some, if_pos b3, show nI i + (1 : Int32) = nI (i + 1) from by rw [zI_1, zI_add], show A + 7 + 10 * i + 5 = A + 2 + 10 * (i + 1) by omega, c1, mA_mA, mA_mA, mA_mA, mA_mA]
        rfl
      · rw [c7]
        show φ2.1 A = _
        rw [s2.i (by omega) (by omega)]
        show φ1.1 A = _
        rw [s1.i (by omega) (by omega)]
def kSw (w : Nat) : gm_T → ph_T → Nat → Option (mq_T Unit) := fun Γ φ n =>
  Option.bind (f_Switch_reset Γ φ w) fun q26 =>
  some ((), (Γ, q26.2, n), (0, 0))
theorem k_Sw {Γ : gm_T} {φ : ph_T} {w nm ns lim : Nat} (h : Γ w = .inr 10) (z : Zr w φ) (n4 : 1 ≤ nm ∧ nm ≤ 4) (n5 : 1 ≤ ns ∧ ns ≤ 4) {T : XS} (t : SwT T nm ns lim) : ∃ Γ' φ' kc ks, f_Switch_init Γ φ (w + 1) w (nI nm) (nI ns) (nI lim) = some ((), (Γ', φ', w + swZ nm ns), (kc, ks)) ∧ kc ≤ 300 ∧ ks ≤ 2000 ∧ Ag 0 w Γ φ Γ' φ' ∧ Γ' w = .inr 10 ∧ Zr (w + swZ nm ns) φ' ∧ ∀ Γs φs, Ag w (w + swZ nm ns) Γ' φ' Γs φs → CSw Γs φs w T := by
  have eZ : swZ nm ns = 31 + 30 * nm + 20 * ns := rfl
  obtain ⟨A, hA⟩ : ∃ A, A = w + 24 + 20 * nm + 20 * ns := ⟨_, rfl⟩
  have eA : swA w nm ns = A := by rw [hA]; rfl
  have eB : swB w nm ns = A + 2 + 10 * nm := by rw [hA]; unfold swB; omega
  have zw := (z w (Nat.le_refl _))
  obtain ⟨φ1, hφ1⟩ : ∃ φ1, φ1 = uI (uI (uI (uR φ w 3 (some (w + 1))) w 0 (nI nm)) w 1 (nI ns)) w 2 (nI lim) := ⟨_, rfl⟩
  have f1 : Fr w (w + 1) φ φ1 := by subst hφ1; exact fr_uI (fr_uI (fr_uI (fr_uR (Fr.refl _ _ _) (by omega) _ _) (by omega) _ _) (by omega) _ _) (by omega) _ _
  have z1 : Zr (w + 2) φ1 := zr_fr (z.mono (by omega)) f1 (by omega)
  obtain ⟨Γ1, hΓ1⟩ : ∃ Γ1, Γ1 = va_up Γ (w + 1) (.inl (0, 16)) := ⟨_, rfl⟩
  have g1 : Γ1 w = .inr 10 := by subst hΓ1; rw [vz_ne _ (by omega)]; exact h
  obtain ⟨Γ2, φ2, kc2, ks2, a1, a2, a3, a4, a5, a6⟩ := k_rows (Γ := Γ1) (φ := φ1) (b := w + 2) (c := nm) (by omega) z1
  have g2 : Γ2 w = .inr 10 := by rw [a4.g (by omega) (by omega)]; exact g1
  have z2 : Zr (w + 3 + 20 * nm) (uR φ2 w 4 (some (w + 2))) := zr_uR (a6.mono (by omega)) (by omega) _ _
  obtain ⟨Γ3, φ3, kc3, ks3, b1, b2, b3, b4, b5, b6⟩ := k_rows (Γ := Γ2) (φ := uR φ2 w 4 (some (w + 2))) (b := w + 3 + 20 * nm) (c := ns + 1) (by omega) z2
  have g3 : Γ3 w = .inr 10 := by rw [b4.g (by omega) (by omega)]; exact g2
  have z3 : Zr A (uR φ3 w 5 (some (w + 3 + 20 * nm))) := zr_uR (b6.mono (by omega)) (by omega) _ _
  have z4 : Zr (A + 1) (uR (uR φ3 w 5 (some (w + 3 + 20 * nm))) w 6 (some A)) := zr_uR (z3.mono (by omega)) (by omega) _ _
  obtain ⟨φ5, hφ5⟩ : ∃ φ5, φ5 = uR (uR (uR φ3 w 5 (some (w + 3 + 20 * nm))) w 6 (some A)) w 7 (some (A + 1)) := ⟨_, rfl⟩
  have z5 : Zr (A + 2) φ5 := by subst hφ5; exact zr_uR (z4.mono (by omega)) (by omega) _ _
  obtain ⟨Γ5, hΓ5⟩ : ∃ Γ5, Γ5 = va_up (va_up Γ3 A (.inl (4, nm))) (A + 1) (.inl (4, nm)) := ⟨_, rfl⟩
  have g5 : Γ5 w = .inr 10 := by subst hΓ5; rw [vz_ne _ (by omega), vz_ne _ (by omega)]; exact g3
  have f5 : Fr w (w + 1) φ3 φ5 := by subst hφ5; exact fr_uR (fr_uR (fr_uR (Fr.refl _ _ _) (by omega) _ _) (by omega) _ _) (by omega) _ _
  have r5 : φ5.2.2 w = va_up (va_up (va_up (φ3.2.2 w) 5 (some (w + 3 + 20 * nm))) 6 (some A)) 7 (some (A + 1)) := by subst hφ5; rw [uR_s, uR_s, uR_s]
  have hI : UwI w A nm 0 Γ5 φ5 := by
    refine ⟨g5, by rw [r5, vz_ne _ (by decide), vz_same], by rw [r5, vz_same], ?_, ?_, fun j hj => by omega, fun j hj => by omega, fun j hj => by omega⟩
    · subst hΓ5; rw [vz_ne _ (by omega), vz_same]
    · subst hΓ5; rw [vz_same]
  obtain ⟨Γ6, φ6, kc6, ks6, fu6, c1, c2, c3, c4, c5, c6, c7⟩ := k_Uw_L (w := w) (A := A) (nm := nm) (ns := ns) (by omega) n4.2 nm 0 jF Γ5 φ5 (by omega) (by unfold jF; omega) hI z5
  obtain ⟨Γ7, φ7, d1, d2, d3, d4, d5, d6, d7⟩ := mkA_ok (a := w) (ci := 10) (k := kSw w) [(8, 0, ns + 1), (9, 0, ns + 1), (10, 0, nm), (11, 0, nm), (12, 2, nm)] Γ6 φ6 (A + 2 + 10 * nm) c5.o (by omega) c6 (by intro q hq; simp only [List.mem_cons, List.not_mem_nil, or_false] at hq; rcases hq with e | e | e | e | e <;> (subst e; dsimp only; omega)) (show ([8, 9, 10, 11, 12] : List Nat).Nodup by decide)
  have q8 := d7 0 _ rfl
  have q9 := d7 1 _ rfl
  have q10 := d7 2 _ rfl
  have q11 := d7 3 _ rfl
  have q12 := d7 4 _ rfl
  -- what is left alone
  have sL : Ag 0 A Γ3 φ5 Γ6 φ6 := (show Ag 0 A Γ3 φ5 Γ5 φ5 by subst hΓ5; exact ag_vz (ag_vz (Ag.refl _ _ _ _) (by omega) _) (by omega) _).trans c4
  have s7 : ∀ lo hi, w < lo → hi ≤ A + 2 + 10 * nm → Ag lo hi Γ6 φ6 Γ7 φ7 := fun lo hi h1 h2 b hb hc => ⟨d2 b (by omega), by rw [d3], by rw [d4], d5 b (by omega)⟩
  have s37 : Ag (w + 1) A Γ3 φ3 Γ7 φ7 := (ag_fr (Ag.refl _ _ _ _) f5 (by omega)).trans ((sL.mono (by omega) (by omega)).trans (s7 _ _ (by omega) (by omega)))
  have s27 : Ag (w + 1) (w + 3 + 20 * nm) Γ2 φ2 Γ7 φ7 := (ag_uR (Ag.refl _ _ _ _) (by omega) _ _).trans ((b4.mono (by omega) (by omega)).trans (s37.mono (by omega) (by omega)))
  have rw6 : ∀ f, f < 8 → φ7.2.2 w f = φ5.2.2 w f := fun f hf => by
    rw [d6 f (by simp only [List.map_cons, List.map_nil, List.mem_cons, List.not_mem_nil, or_false]; omega), sL.r (by omega) (by omega)]
  have rw3 : φ3.2.2 w = va_up (φ2.2.2 w) 4 (some (w + 2)) := by rw [b4.r (by omega) (by omega), uR_s]
  have rw2 : φ2.2.2 w = va_up (φ.2.2 w) 3 (some (w + 1)) := by
    rw [a4.r (by omega) (by omega)]
    subst hφ1
    rw [uI_3, uI_3, uI_3, uR_s]
  have iw : φ7.1 w = va_up (va_up (va_up (φ.1 w) 0 (nI nm)) 1 (nI ns)) 2 (nI lim) := by
    rw [d3, sL.i (by omega) (by omega), show φ5.1 = φ3.1 by subst hφ5; rfl, b4.i (by omega) (by omega)]
    show φ2.1 w = _
    rw [a4.i (by omega) (by omega)]
    subst hφ1
    rw [uI_s, uI_s, uI_s]
    rfl
  have hR : SwR Γ7 φ7 w nm ns lim (fun _ => []) (fun _ => []) (fun _ => []) := by
    refine ⟨⟨by rw [d2 w (by omega)]; exact c5.o, n4, n5, ?_, ?_, ?_, ?_, ?_, ?_, ?_, ?_, ?_, ?_, gA_of ?_, gA_of ?_, gA_of ?_, gA_of ?_, gA_of ?_, gA_of ?_, gA_of ?_, gA_of ?_, gA_of ?_, gA_of ?_, ?_, ?_, ?_, ?_⟩, ?_, ?_, ?_, ?_, ?_, ?_⟩
    · rw [rw6 3 (by omega), r5, vz_ne _ (by decide), vz_ne _ (by decide), vz_ne _ (by decide), rw3, vz_ne _ (by decide), rw2, vz_same]
    · rw [rw6 4 (by omega), r5, vz_ne _ (by decide), vz_ne _ (by decide), vz_ne _ (by decide), rw3, vz_same]
    · rw [rw6 5 (by omega), r5, vz_ne _ (by decide), vz_ne _ (by decide), vz_same]
    · rw [rw6 6 (by omega), r5, vz_ne _ (by decide), vz_same, eA]
    · rw [rw6 7 (by omega), r5, vz_same, eA]
    · rw [eB]; exact q8.1
    · rw [eB]; exact q9.1
    · rw [eB]; exact q10.1
    · rw [eB]; exact q11.1
    · rw [eB]; exact q12.1
    · rw [s27.g (by omega) (by omega), a4.g (by omega) (by omega)]; subst hΓ1; rw [vz_same]
    · rw [s27.g (by omega) (by omega)]; exact a5.g
    · rw [s37.g (by omega) (by omega)]; exact b5.g
    · rw [eA, d2 _ (by omega)]; exact c5.g6
    · rw [eA, d2 _ (by omega)]; exact c5.g7
    · rw [eB]; exact q8.2
    · rw [eB]; exact q9.2
    · rw [eB]; exact q10.2
    · rw [eB]; exact q11.2
    · rw [eB]; exact q12.2
    · intro i hi
      rw [s27.r (by omega) (by omega), a5.at_ i hi]
    · intro i hi
      rw [s37.r (by omega) (by omega), b5.at_ i hi, show w + 3 + 20 * nm + 1 = w + 4 + 20 * nm by omega]
    · intro m hm
      rw [eA, d5 A (by omega)]; exact c5.a6 m hm
    · intro m hm
      rw [eA, d5 (A + 1) (by omega)]; exact c5.a7 m hm
    · rw [iw, vz_ne _ (by decide), vz_ne _ (by decide), vz_same]
    · rw [iw, vz_ne _ (by decide), vz_same]
    · rw [iw, vz_same]
    · intro i hi
      unfold okR at hi
      unfold rA
      by_cases e : i < 20
      · rw [if_pos e]
        exact a5.r i (by omega) Γ7 φ7 (s27.mono (by omega) (by omega)) _
      · rw [if_neg e]
        have := b5.r (i - 20) (by omega) Γ7 φ7 (s37.mono (by omega) (by omega)) (tmF i)
        rw [show (i - 20) % 5 = i % 5 by omega, show w + 3 + 20 * nm + 1 + 4 * (i - 20) = w + 4 + 20 * nm + 4 * (i - 20) by omega] at this
        exact this
    · intro m hm
      rw [eA]
      exact (c5.u m hm Γ7 φ7 (s7 _ _ (by omega) (by omega))).1
    · intro m hm
      rw [eA]
      exact (c5.u m hm Γ7 φ7 (s7 _ _ (by omega) (by omega))).2
  obtain ⟨φ8, e1, e2, e3⟩ := c_swreset hR t
  have zz : Zr (w + swZ nm ns) φ7 := fun b hb => by
    obtain ⟨y1, y2, y3⟩ := c6 b (by omega)
    exact ⟨by rw [d3]; exact y1, by rw [d4]; exact y2, by rw [d5 b (by omega)]; exact y3⟩
  have aw : Ag 0 w Γ φ Γ7 φ7 := by
    have t1 : Ag 0 w Γ φ Γ1 φ1 := by
      subst hΓ1
      exact ag_fr (ag_vz (Ag.refl _ _ _ _) (by omega) _) f1 (by omega)
    have t2 : Ag 0 w Γ φ Γ2 φ2 := t1.trans (a4.mono (by omega) (by omega))
    have t3 : Ag 0 w Γ φ Γ3 φ3 := (ag_uR t2 (by omega) _ _).trans (b4.mono (by omega) (by omega))
    have t6 : Ag 0 w Γ φ Γ6 φ6 := (ag_fr t3 f5 (by omega)).trans (sL.mono (by omega) (by omega))
    exact t6.trans (fun b hb hc => ⟨d2 b (by omega), by rw [d3], by rw [d4], d5 b (by omega)⟩)
  have eT : T.nm = nm ∧ T.ns = ns := ⟨t.nm, t.ns⟩
  refine ⟨Γ7, φ8, 1 + (kc2 + (kc3 + (1 + (1 + (kc6 + (5 + 0)))))), 16 + (ks2 + (ks3 + (nm + (nm + (ks6 + (((ns + 1) + ((ns + 1) + (nm + (nm + (nm + 0))))) + 0)))))), ?_, by omega, by omega, ag_fr aw e2 (by omega), by rw [d2 w (by omega)]; exact c5.o, zr_fr zz e2 (by omega), ?_⟩
  · unfold f_Switch_init
    rw [show (16 : Int32) = nI 16 from rfl, mR_ok (z.mono (by omega)) 0 16 (by omega), ← hΓ1, if_pos g1, ← hφ1, show w + 1 + 1 = w + 2 by omega, a1, mB_ok, if_pos g2, show nI ns + (1 : Int32) = nI (ns + 1) from zI_add ns 1, show w + 2 + 1 + 20 * nm = w + 3 + 20 * nm by omega, b1, mB_ok, if_pos g3, show w + 3 + 20 * nm + 1 + 20 * (ns + 1) = A by omega, mR_ok z3 4 nm (by omega), if_pos (by rw [vz_ne _ (by omega)]; exact g3), mR_ok z4 4 nm (by omega), ← hΓ5, if_pos g5, ← hφ5, zI_0]
    show mA 1 16 (mA kc2 ks2 (mA kc3 ks3 (mA 1 nm (mA 1 nm (f_Switch_init_L64 jF Γ5 φ5 (A + 2 + 10 * 0) w (nI nm) (nI ns) (nI 0)))))) = _
    rw [c1, f_Switch_init_L64, if_pos (by rw [zI_le (by omega) (by omega)]; omega), show nI ns + (1 : Int32) = nI (ns + 1) from zI_add ns 1]
    show mA 1 16 (mA kc2 ks2 (mA kc3 ks3 (mA 1 nm (mA 1 nm (mA kc6 ks6 (mkA w 10 (kSw w) [(8, 0, ns + 1), (9, 0, ns + 1), (10, 0, nm), (11, 0, nm), (12, 2, nm)] Γ6 φ6 (A + 2 + 10 * nm))))))) = _
    rw [d1]
    unfold kSw
    rw [e1, show w + swZ nm ns = A + 2 + 10 * nm + 5 by omega]
    rfl
  · intro Γs φs s
    have := e3.gm (Γs := Γs) (fun b h1 h2 => by rw [eT.1, eT.2] at h2; exact s.g h1 h2)
    exact this.sm (fun b h1 h2 => by rw [eT.1, eT.2] at h2; exact ⟨s.i h1 h2, s.l h1 h2, s.r h1 h2⟩)
