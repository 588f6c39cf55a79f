/-! THE LAW: a call of both -/
theorem nE_1 (E : String) : nE E E E = 2 := by unfold nE; rw [if_pos rfl]
theorem nE_2 {E1 E2 : String} (h : E2 ≠ E1) : nE E1 E2 E2 = 3 := by unfold nE; rw [if_neg h, if_pos rfl]
theorem nE_3 {E1 E2 E3 : String} (h : E2 ≠ E1) (h2 : E3 ≠ E2) : nE E1 E2 E3 = 4 := by unfold nE; rw [if_neg h, if_neg h2]
def eX (cd : Nat) (E1 E2 E3 : String) : String := if cd = 1 then E1 else if cd = 2 then E2 else E3
theorem hd1 (E : String) : ∀ cd : Nat, 0 < cd → cd < nE E E E → ∀ φ5 : ph_T, (if eX cd E E E = E then some ((1 : Int32), φ5) else none) = some (nI cd, φ5) := by
  intro cd h0 h1 φ5
  rw [nE_1] at h1
  have : cd = 1 := by omega
  subst this
  rw [if_pos (show eX 1 E E E = E from rfl)]
  rfl
theorem hd2 {E1 E2 : String} (h : E2 ≠ E1) : ∀ cd : Nat, 0 < cd → cd < nE E1 E2 E2 → ∀ φ5 : ph_T, (if eX cd E1 E2 E2 = E1 then some ((1 : Int32), φ5) else if eX cd E1 E2 E2 = E2 then some ((2 : Int32), φ5) else none) = some (nI cd, φ5) := by
  intro cd h0 h1 φ5
  rw [nE_2 h] at h1
  have : cd = 1 ∨ cd = 2 := by omega
  rcases this with e | e
  · subst e
    rw [if_pos (show eX 1 E1 E2 E2 = E1 from rfl)]
    rfl
  · subst e
    rw [if_neg (show ¬ eX 2 E1 E2 E2 = E1 from h), if_pos (show eX 2 E1 E2 E2 = E2 from rfl)]
    rfl
theorem hd3 {E1 E2 E3 : String} (h : E2 ≠ E1) (h2 : E3 ≠ E2) (h3 : E3 ≠ E1) : ∀ cd : Nat, 0 < cd → cd < nE E1 E2 E3 → ∀ φ5 : ph_T, (if eX cd E1 E2 E3 = E1 then some ((1 : Int32), φ5) else if eX cd E1 E2 E3 = E2 then some ((2 : Int32), φ5) else if eX cd E1 E2 E3 = E3 then some ((3 : Int32), φ5) else none) = some (nI cd, φ5) := by
  intro cd h0 h1 φ5
  rw [nE_3 h h2] at h1
  have : cd = 1 ∨ cd = 2 ∨ cd = 3 := by omega
  rcases this with e | e | e
  · subst e
    rw [if_pos (show eX 1 E1 E2 E3 = E1 from rfl)]
    rfl
  · subst e
    rw [if_neg (show ¬ eX 2 E1 E2 E3 = E1 from h), if_pos (show eX 2 E1 E2 E3 = E2 from rfl)]
    rfl
  · subst e
    rw [if_neg (show ¬ eX 3 E1 E2 E3 = E1 from h3), if_neg (show ¬ eX 3 E1 E2 E3 = E2 from h2), if_pos (show eX 3 E1 E2 E3 = E3 from rfl)]
    rfl
theorem nb2 : IAE ≠ IOB := by decide
theorem nb3 : ISE ≠ IOB := by decide
theorem nb4 : UOE ≠ IAE := by decide
theorem nb5 : UOE ≠ IOB := by decide
theorem lg_self (x : Int64) : lg_cmp x x = 0 := by
  unfold lg_cmp
  rw [if_neg (show ¬ x > x from Int64.lt_irrefl), if_pos rfl]
theorem i_01 : ix (0 : Int32) 1 = some 0 := zix (n := 0) (N := 1) (by decide)
theorem ixp {p L c : Nat} (hp : p + 7 ≤ L) (hL : L ≤ 3587) (hc : c < 7) : ix (nI p + nI c) L = some (p + c) := by
  rw [zI_add, zix (by omega) (by omega)]
theorem Face.law {α : Type} {Γ : gm_T} {φ : ph_T} {x1 x2 x3 : Nat} {S : XS} {k0 k : Nat} {fB : Option ((α ⊕ String) × ph_T)} {fR : ph_T → Nat → Option (α × ph_T)} {E1 E2 E3 : String} {H : String → ph_T → Option (Int32 × ph_T)} {K : α → ph_T → Option (Int32 × ph_T)} (g : α → ph_T → ph_T) (h : LW Γ φ x1 x2 x3 S k0) (hF : Face Γ φ x1 S k fB fR E1 E2 E3)
    (hH : ∀ cd : Nat, 0 < cd → cd < nE E1 E2 E3 → ∀ φ5 : ph_T, H (eX cd E1 E2 E3) φ5 = some (nI cd, φ5)) (hK : ∀ v φ5, K v φ5 = some ((0 : Int32), g v φ5)) (hg : ∀ v φ5, Fr x3 (x3 + 1) φ5 (g v φ5)) :
    ∃ (cd : Nat) (φa : ph_T) (v : α) (φ2 : ph_T) (S2 : XS), bC fB H K = some (nI cd, φa) ∧ fR φa x2 = some (v, φ2) ∧ f_Ref_thrown Γ φ2 x2 = some (nI cd, φ2) ∧ (cd = 0 ∨ ¬ nI cd = 0) ∧ (cd = 0 → ∃ φ5, φ2.2.1 x3 = (g v φ5).2.1 x3) ∧ LW Γ φ2 x1 x2 x3 S2 k := by
  obtain ⟨cd, an, φb, S', hcd, h1, h2, h3, h4, e1, e2, h5⟩ := hF
  have s1 := h.s1
  have s2 := h.s2
  have hcd4 : cd < 4 := by
    have : nE E1 E2 E3 ≤ 4 := by unfold nE; repeat' split
                                 all_goals omega
    omega
  obtain ⟨φa, hφa, f1, h6⟩ : ∃ φa, bC fB H K = some (nI cd, φa) ∧ Fr x3 (x3 + 1) φb φa ∧ (cd = 0 → φa = g an φb) := by
    rw [h1]
    by_cases e : cd = 0
    · subst e
      exact ⟨g an φb, hK an φb, hg an φb, fun _ => rfl⟩
    · refine ⟨φb, ?_, Fr.refl _ _ _, fun hh => absurd hh e⟩
      have hr : rsX cd an E1 E2 E3 = .inr (eX cd E1 E2 E3) := by
        unfold rsX eX
        rw [if_neg e]
        repeat' split
        all_goals rfl
      rw [hr]
      exact hH cd (by omega) hcd φb
  have sA : Sm x2 (x2 + 92) φ φa := (h3.sm (by omega)).trans (f1.sm (by omega))
  obtain ⟨v, φ2, k1, k2, k3, k4, k5⟩ := h5 φa x2 (h.r.sm sA) (h.h.sm sA)
  refine ⟨cd, φa, v, φ2, S'.w_err cd, hφa, k1, r_thrown k3, ?_, ?_, ?_⟩
  · by_cases e : cd = 0
    · exact Or.inl e
    · right
      rw [zI_0, zI_eq (by omega) (by omega)]
      exact e
  · intro e
    refine ⟨φb, ?_⟩
    rw [k5.l (by omega), h6 e, k2 e]
  · refine ⟨?_, k3, k4.err cd, h4.err cd, h.o, ?_, s2⟩
    · refine CV.err ?_ cd
      exact (h2.sm (f1.sm (by rw [e1, e2]; omega))).sm (k5.sm (by rw [e1, e2]; omega))
    · show tAd x1 S'.nm S'.ns + 256 ≤ x2
      rw [e1, e2]
      exact s1
