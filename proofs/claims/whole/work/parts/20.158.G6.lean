/-! THE CONSTRUCTORS: rows, the crossbar -/
theorem gA_cg {Γ Γs : gm_T} {b t : Nat} (e : Γs b = Γ b) : gA Γs b t = gA Γ b t := by unfold gA; rw [e]
theorem CRow.gm {Γ Γs : gm_T} {φ : ph_T} {a room : Nat} {tm : Bool} {l : List RE} (h : CRow Γ φ a room tm l) (e : ∀ b, a ≤ b → b < a + 4 → Γs b = Γ b) : CRow Γs φ a room tm l :=
  ⟨by rw [e _ (by omega) (by omega)]; exact h.o, h.f0, h.f1, h.f2, by rw [gA_cg (e _ (by omega) (by omega))]; exact h.g0, by rw [gA_cg (e _ (by omega) (by omega))]; exact h.g1, by rw [gA_cg (e _ (by omega) (by omega))]; exact h.g2, h.rm, h.n, h.le, h.e⟩
theorem CUw.gm {Γ Γs : gm_T} {φ : ph_T} {a : Nat} {l : List UE} (h : CUw Γ φ a l) (e : ∀ b, a ≤ b → b < a + 5 → Γs b = Γ b) : CUw Γs φ a l :=
  ⟨by rw [e _ (by omega) (by omega)]; exact h.o, h.f0, h.f1, h.f2, h.f3, by rw [gA_cg (e _ (by omega) (by omega))]; exact h.g0, by rw [gA_cg (e _ (by omega) (by omega))]; exact h.g1, by rw [gA_cg (e _ (by omega) (by omega))]; exact h.g2, by rw [gA_cg (e _ (by omega) (by omega))]; exact h.g3, h.n, h.le, h.e, h.b⟩
theorem SwL.gm {Γ Γs : gm_T} {φ : ph_T} {w nm ns : Nat} (h : SwL Γ φ w nm ns) (e : ∀ b, w ≤ b → b < w + swZ nm ns → Γs b = Γ b) : SwL Γs φ w nm ns := by
  have eA : swA w nm ns = w + 24 + 20 * nm + 20 * ns := rfl
  have eB : swB w nm ns = w + 26 + 30 * nm + 20 * ns := rfl
  have eZ : swZ nm ns = 31 + 30 * nm + 20 * ns := rfl
  exact ⟨by rw [e _ (by omega) (by omega)]; exact h.o, h.nm4, h.ns4, h.f3, h.f4, h.f5, h.f6, h.f7, h.f8, h.f9, h.f10, h.f11, h.f12, by rw [gA_cg (e _ (by omega) (by omega))]; exact h.g3, by rw [gA_cg (e _ (by omega) (by omega))]; exact h.g4, by rw [gA_cg (e _ (by omega) (by omega))]; exact h.g5, by rw [gA_cg (e _ (by omega) (by omega))]; exact h.g6, by rw [gA_cg (e _ (by omega) (by omega))]; exact h.g7, by rw [gA_cg (e _ (by omega) (by omega))]; exact h.g8, by rw [gA_cg (e _ (by omega) (by omega))]; exact h.g9, by rw [gA_cg (e _ (by omega) (by omega))]; exact h.g10, by rw [gA_cg (e _ (by omega) (by omega))]; exact h.g11, by rw [gA_cg (e _ (by omega) (by omega))]; exact h.g12, h.mr, h.tr, h.uw, h.ur⟩
theorem CSw.gm {Γ Γs : gm_T} {φ : ph_T} {w : Nat} {S : XS} (h : CSw Γ φ w S) (e : ∀ b, w ≤ b → b < w + swZ S.nm S.ns → Γs b = Γ b) : CSw Γs φ w S := by
  have eA : swA w S.nm S.ns = w + 24 + 20 * S.nm + 20 * S.ns := rfl
  have eZ : swZ S.nm S.ns = 31 + 30 * S.nm + 20 * S.ns := rfl
  refine ⟨h.lay.gm e, h.ob, h.pg, fun i hi => (h.row i hi).gm (fun b h1 h2 => ?_), fun m hm => (h.uw m hm).gm (fun b h1 h2 => e b (by omega) (by omega)), fun m hm => (h.ur m hm).gm (fun b h1 h2 => e b (by omega) (by omega)), h.la, h.lr, h.lb, h.lg, h.inb⟩
  have := rA_in (w := w) h.lay.nm4.2 hi
  exact e b (by omega) (by omega)
/-- rows -/
def RwI (b c i : Nat) (Γ : gm_T) (φ : ph_T) : Prop := (Γ b = .inl (3, 5 * c)) ∧ (∀ j, j < i → φ.2.2 b j = some (b + 1 + 4 * j)) ∧ (∀ j, j < i → ∀ Γs φs, Ag (b + 1 + 4 * j) (b + 5 + 4 * j) Γ φ Γs φs → ∀ tm, CRow Γs φs (b + 1 + 4 * j) (roomN (j % 5)) tm [])
theorem RwI.g {b c i : Nat} {Γ : gm_T} {φ : ph_T} (h : RwI b c i Γ φ) : Γ b = .inl (3, 5 * c) := h.1
theorem RwI.at_ {b c i : Nat} {Γ : gm_T} {φ : ph_T} (h : RwI b c i Γ φ) : ∀ j, j < i → φ.2.2 b j = some (b + 1 + 4 * j) := h.2.1
theorem RwI.r {b c i : Nat} {Γ : gm_T} {φ : ph_T} (h : RwI b c i Γ φ) : ∀ j, j < i → ∀ Γs φs, Ag (b + 1 + 4 * j) (b + 5 + 4 * j) Γ φ Γs φs → ∀ tm, CRow Γs φs (b + 1 + 4 * j) (roomN (j % 5)) tm [] := h.2.2
theorem k_rows_L {b c : Nat} (hc : c ≤ 5) : ∀ (d i fu : Nat) (Γ : gm_T) (φ : ph_T), i + d = 5 * c → d < fu → RwI b c i Γ φ → Zr (b + 1 + 4 * i) φ →
    ∃ Γ' φ' kc ks, f_Switch_rowsFor_L9 fu Γ φ (b + 1 + 4 * i) b (nI i) = some (some b, (Γ', φ', b + 1 + 20 * c), (kc, ks)) ∧ kc ≤ 4 * d ∧ ks ≤ 16 * d ∧ Ag 0 b Γ φ Γ' φ' ∧ RwI b c (5 * c) Γ' φ' ∧ Zr (b + 1 + 20 * c) φ' := by
  intro d
  induction d with
  | zero =>
    intro i fu Γ φ hd hfu h z
    match fu, hfu with
    | fu + 1, _ =>
      have hi : i = 5 * c := by omega
      subst hi
      refine ⟨Γ, φ, 0, 0, ?_, by omega, by omega, Ag.refl _ _ _ _, h, by rw [show b + 1 + 20 * c = b + 1 + 4 * (5 * c) by omega]; exact z⟩
      rw [f_Switch_rowsFor_L9, gA_of h.g, Option.bind_some, if_pos (by rw [zI_le (by omega) (by omega)]; omega), show b + 1 + 20 * c = b + 1 + 4 * (5 * c) by omega]
  | succ d ih =>
    intro i fu Γ φ hd hfu h z
    match fu, hfu with
    | fu + 1, hfu =>
      have hr4 : roomN (i % 5) ≤ 4 := by unfold roomN; split <;> omega
      obtain ⟨Γ1, φ1, a1, a2, a3, a4, a5⟩ := k_Row (Γ := va_up Γ (b + 1 + 4 * i) (.inr 3)) (φ := φ) (a := b + 1 + 4 * i) (N := roomN (i % 5)) hr4 (vz_same _ _ _) z
      have s1 : Ag 0 (b + 1 + 4 * i) Γ φ Γ1 φ1 := (ag_vz (Ag.refl _ _ _ _) (by omega) _).trans a2
      have hI : RwI b c (i + 1) Γ1 (uR φ1 b i (some (b + 1 + 4 * i))) := by
        refine ⟨by rw [s1.g (by omega) (by omega)]; exact h.g, fun j hj => ?_, fun j hj Γs φs s => ?_⟩
        · rw [uR_s, vz_at]
          by_cases e : j = i
          · rw [if_pos e, e]
          · rw [if_neg e, s1.r (by omega) (by omega)]; exact h.at_ j (by omega)
        · by_cases e : j = i
          · subst e
            refine a5 Γs φs ?_
            exact (ag_uR (Ag.refl _ _ _ _) (by omega) _ _).trans (s.mono (Nat.le_refl _) (by omega))
          · refine h.r j (by omega) Γs φs ?_
            exact (ag_uR (s1.mono (by omega) (by omega)) (by omega) _ _).trans s
      obtain ⟨Γ', φ', kc, ks, b1, b2, b3, b4, b5, b6⟩ := ih (i + 1) fu Γ1 (uR φ1 b i (some (b + 1 + 4 * i))) (by omega) (by omega) hI (zr_uR (a4.mono (by omega)) (by omega) _ _)
      have key : f_Switch_rowsFor_L40 (f_Switch_rowsFor_L9 fu) (va_up Γ (b + 1 + 4 * i) (.inr 3)) φ (b + 1 + 4 * i + 1) b (nI i) (nI (roomN (i % 5))) (b + 1 + 4 * i) (b + 1 + 4 * i) (nI i) b = some (some b, (Γ', φ', b + 1 + 20 * c), (3 + kc, (roomN (i % 5) + (roomN (i % 5) + (roomN (i % 5) + 0))) + ks)) := by
        unfold f_Switch_rowsFor_L40
        rw [if_pos (vz_same _ _ _), a1, mB_ok, gA_of (show Γ1 b = .inl (3, 5 * c) by rw [s1.g (by omega) (by omega)]; exact h.g), Option.bind_some, zix (by omega), Option.bind_some, if_pos a3, show nI i + (1 : Int32) = nI (i + 1) from by rw [zI_1, zI_add], show b + 1 + 4 * i + 4 = b + 1 + 4 * (i + 1) by omega, b1]
        rfl
      refine ⟨Γ', φ', 1 + (3 + kc), 4 + ((roomN (i % 5) + (roomN (i % 5) + (roomN (i % 5) + 0))) + ks), ?_, by omega, by omega, (ag_uR (s1.mono (by omega) (by omega)) (by omega) _ _).trans b4, b5, b6⟩
      have hm : nI i - nI i / (5 : Int32) * (5 : Int32) = nI (i % 5) := zI_mod (a := i) (b := 5) (by omega) (by omega)
      rw [f_Switch_rowsFor_L9, gA_of h.g, Option.bind_some, if_neg (by rw [zI_le (by omega) (by omega)]; omega), if_neg (by decide), mN_ok z, hm]
      by_cases e1 : i % 5 = 1
      · rw [if_pos (by rw [e1]; rfl)]
        unfold f_Switch_rowsFor_L35
        rw [show (4 : Int32) = nI (roomN (i % 5)) by rw [e1]; rfl, key]
        rfl
      · rw [if_neg (by rw [show (1 : Int32) = nI 1 from rfl, zI_eq (by omega) (by omega)]; exact e1)]
        by_cases e4 : i % 5 = 4
        · rw [if_pos (by rw [e4]; rfl)]
          unfold f_Switch_rowsFor_L35
          rw [show (4 : Int32) = nI (roomN (i % 5)) by rw [e4]; rfl, key]
          rfl
        · rw [if_neg (by rw [show (4 : Int32) = nI 4 from rfl, zI_eq (by omega) (by omega)]; exact e4), show (2 : Int32) = nI (roomN (i % 5)) by unfold roomN; rw [if_neg (by omega)]; rfl, key]
          rfl
theorem k_rows {Γ : gm_T} {φ : ph_T} {b c : Nat} (hc : c ≤ 5) (z : Zr b φ) : ∃ Γ' φ' kc ks, f_Switch_rowsFor Γ φ b (nI c) = some (some b, (Γ', φ', b + 1 + 20 * c), (kc, ks)) ∧ kc ≤ 101 ∧ ks ≤ 425 ∧ Ag 0 b Γ φ Γ' φ' ∧ RwI b c (5 * c) Γ' φ' ∧ Zr (b + 1 + 20 * c) φ' := by
  have hI : RwI b c 0 (va_up Γ b (.inl (3, c * 5))) φ := ⟨by rw [vz_same, Nat.mul_comm], fun j hj => by omega, fun j hj => by omega⟩
  obtain ⟨Γ', φ', kc, ks, b1, b2, b3, b4, b5, b6⟩ := k_rows_L (b := b) hc (5 * c) 0 jF _ φ (by omega) (by unfold jF; omega) hI (z.mono (by omega))
  refine ⟨Γ', φ', 1 + kc, c * 5 + ks, ?_, by omega, by omega, (ag_vz (Ag.refl _ _ _ _) (by omega) _).trans b4, b5, b6⟩
  unfold f_Switch_rowsFor
  rw [show nI c * (5 : Int32) = nI (c * 5) from zI_mul c 5, mR_ok z 3 (c * 5) (by omega), zI_0]
  show mA 1 (c * 5) (f_Switch_rowsFor_L9 jF _ φ (b + 1 + 4 * 0) b (nI 0)) = _
  rw [b1]
  rfl
