/-! THE LAW -/
theorem cel_ok {L : Nat} (hL : L ≤ 3587) (xs : Nat → Int32) {k : Nat} (hk : k < 3) : ∃ c, celF L xs (nI k) = some c := by
  unfold celF
  by_cases h : nI L ≤ nI k
  · exact ⟨0, by rw [if_pos h]⟩
  · rw [if_neg h]
    rw [zI_le (by omega) (by omega)] at h
    exact ⟨xs k, by rw [zix (by omega) (by omega), Option.bind_some]⟩
theorem lawF : LawF := by
  intro z L xs hL
  obtain ⟨c0, h0⟩ := cel_ok hL xs (k := 0) (by omega)
  obtain ⟨c1, h1⟩ := cel_ok hL xs (k := 1) (by omega)
  obtain ⟨c2, h2⟩ := cel_ok hL xs (k := 2) (by omega)
  have zz : ∀ n, Zr n φ0 := fun n b _ => ⟨rfl, rfl, rfl⟩
  obtain ⟨Γ2, φ2, kc, ks, a1, a2, a3, a4, a5, a6, a7⟩ := k_Bus (Γ := va_up g0 z (.inr 11)) (φ := φ0) (b := z) c0 c1 c2 (vz_same _ _ _) (zz z)
  have n4 := cl_bd c0 (m := 4) (by decide) (by decide)
  have n5 := cl_bd c1 (m := 4) (by decide) (by decide)
  have n6 := cl_bd c2 (m := 8) (by decide) (by decide)
  obtain ⟨n2, hn2⟩ : ∃ n2, n2 = tAd z (clN c0 4) (clN c1 4) + 256 := ⟨_, rfl⟩
  rw [← hn2] at a1 a6 a7
  obtain ⟨Γ4, φ4, W, b1, b2, b3, b4, b5, b6, b7, b8⟩ := k_Ref (Γ := va_up Γ2 n2 (.inr 12)) (φ := φ2) (a := n2) c0 c1 c2 (vz_same _ _ _) a6
  obtain ⟨Γ5, hΓ5⟩ : ∃ Γ5, Γ5 = va_up Γ4 (n2 + 92) (.inl (1, 1)) := ⟨_, rfl⟩
  have hle : z ≤ n2 := by rw [hn2]; unfold tAd rAd bQ; omega
  have sC : Ag z n2 Γ2 φ2 Γ5 φ4 := by
    subst hΓ5
    exact ag_vz ((ag_vz (Ag.refl _ _ _ _) (by omega) _).trans (b3.mono (by omega) (by omega))) (by omega) _
  have sR : Ag n2 (n2 + 92) Γ4 φ4 Γ5 φ4 := by
    subst hΓ5
    exact ag_vz (Ag.refl _ _ _ _) (by omega) _
  have hW : LW Γ5 φ4 z n2 (n2 + 92) (XSi (clN c0 4) (clN c1 4) (clN c2 8)).clr (1000 * 513) := by
    refine ⟨a7 Γ5 φ4 sC, b5.gm (b8 Γ5 φ4 sR), b6, JI.clr n4 n5 n6 (by omega), gA_of (by subst hΓ5; exact vz_same _ _ _), ?_, Nat.le_refl _⟩
    show tAd z (clN c0 4) (clN c1 4) + 256 ≤ n2
    omega
  obtain ⟨φ', hφ'⟩ := law_loop (Γ := Γ5) (x1 := z) (x2 := n2) (x3 := n2 + 92) (xs := xs) hL 513 φ4 _ 3 (by omega) (by omega) (by omega) hW
  refine ⟨((n2, n2 + 92), (Γ5, φ4, n2 + 92 + 1), (1 + (kc + (1 + (91 + (1 + 0)))), 10 + (ks + (102 + (W + (1 + 0)))))), ?_, ?_, ?_, φ', hφ'⟩
  · unfold lawS
    rw [show (0 : Int32) = nI 0 from rfl, h0, Option.bind_some, show (1 : Int32) = nI 1 from rfl, h1, Option.bind_some, show (2 : Int32) = nI 2 from rfl, h2, Option.bind_some, mN_ok (zz z), a1, mB_ok, mN_ok a6, b1, mB_ok, mR_ok b4 1 1 (by omega), ← hΓ5]
    rfl
  · show 1 + (kc + (1 + (91 + (1 + 0)))) ≤ 600000
    omega
  · show 10 + (ks + (102 + (W + (1 + 0)))) ≤ 7289000
    omega
