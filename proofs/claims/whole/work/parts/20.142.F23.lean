/-! ALL IS CLEARED: the crossbar of the class -/
theorem CRow.clr {Γ : gm_T} {φ φ' : ph_T} {a room : Nat} {tm : Bool} {l : List RE} (h : CRow Γ φ a room tm l) (e1 : φ'.1 a 3 = nI 0) (e2 : φ'.2.2 = φ.2.2) : CRow Γ φ' a room tm [] :=
  ⟨h.o, by rw [e2]; exact h.f0, by rw [e2]; exact h.f1, by rw [e2]; exact h.f2, h.g0, h.g1, h.g2, h.rm, e1, Nat.zero_le _, (fun k x hk => by cases hk)⟩
theorem CUw.clr {Γ : gm_T} {φ φ' : ph_T} {a : Nat} {l : List UE} (h : CUw Γ φ a l) (e1 : φ'.1 a 4 = nI 0) (e2 : φ'.2.2 = φ.2.2) : CUw Γ φ' a [] :=
  ⟨h.o, by rw [e2]; exact h.f0, by rw [e2]; exact h.f1, by rw [e2]; exact h.f2, by rw [e2]; exact h.f3, h.g0, h.g1, h.g2, h.g3, e1, Nat.zero_le _, (fun k x hk => by cases hk), (fun k x hk => by cases hk)⟩
/-- what the crossbar must be for a reset -/
def SwR (Γ : gm_T) (φ : ph_T) (w nm ns lim : Nat) (R : Nat → List RE) (U V : Nat → List UE) : Prop := (SwL Γ φ w nm ns) ∧ (φ.1 w 0 = nI nm) ∧ (φ.1 w 1 = nI ns) ∧ (φ.1 w 2 = nI lim) ∧ (∀ i, okR nm ns i → CRow Γ φ (rA w nm i) (roomN (i % 5)) (tmF i) (R i)) ∧ (∀ m, m < nm → CUw Γ φ (swA w nm ns + 2 + 10 * m) (U m)) ∧ (∀ m, m < nm → CUw Γ φ (swA w nm ns + 7 + 10 * m) (V m))
theorem SwR.lay {Γ : gm_T} {φ : ph_T} {w nm ns lim : Nat} {R : Nat → List RE} {U V : Nat → List UE} (h : SwR Γ φ w nm ns lim R U V) : SwL Γ φ w nm ns := h.1
theorem SwR.nm {Γ : gm_T} {φ : ph_T} {w nm ns lim : Nat} {R : Nat → List RE} {U V : Nat → List UE} (h : SwR Γ φ w nm ns lim R U V) : φ.1 w 0 = nI nm := h.2.1
theorem SwR.ns {Γ : gm_T} {φ : ph_T} {w nm ns lim : Nat} {R : Nat → List RE} {U V : Nat → List UE} (h : SwR Γ φ w nm ns lim R U V) : φ.1 w 1 = nI ns := h.2.2.1
theorem SwR.lim {Γ : gm_T} {φ : ph_T} {w nm ns lim : Nat} {R : Nat → List RE} {U V : Nat → List UE} (h : SwR Γ φ w nm ns lim R U V) : φ.1 w 2 = nI lim := h.2.2.2.1
theorem SwR.row {Γ : gm_T} {φ : ph_T} {w nm ns lim : Nat} {R : Nat → List RE} {U V : Nat → List UE} (h : SwR Γ φ w nm ns lim R U V) : ∀ i, okR nm ns i → CRow Γ φ (rA w nm i) (roomN (i % 5)) (tmF i) (R i) := h.2.2.2.2.1
theorem SwR.uw {Γ : gm_T} {φ : ph_T} {w nm ns lim : Nat} {R : Nat → List RE} {U V : Nat → List UE} (h : SwR Γ φ w nm ns lim R U V) : ∀ m, m < nm → CUw Γ φ (swA w nm ns + 2 + 10 * m) (U m) := h.2.2.2.2.2.1
theorem SwR.ur {Γ : gm_T} {φ : ph_T} {w nm ns lim : Nat} {R : Nat → List RE} {U V : Nat → List UE} (h : SwR Γ φ w nm ns lim R U V) : ∀ m, m < nm → CUw Γ φ (swA w nm ns + 7 + 10 * m) (V m) := h.2.2.2.2.2.2
theorem SwL.up2 {Γ : gm_T} {φ φ' : ph_T} {w nm ns : Nat} (h : SwL Γ φ w nm ns) (e : φ'.2.2 = φ.2.2) : SwL Γ φ' w nm ns := h.up (by rw [e]) (by rw [e]) (by rw [e]) (by rw [e]) (by rw [e])
theorem SwR.pg {Γ : gm_T} {φ : ph_T} {w nm ns lim : Nat} {R : Nat → List RE} {U V : Nat → List UE} (h : SwR Γ φ w nm ns lim R U V) (k : Nat) (v : Int32) : SwR Γ (uI φ (w + 1) k v) w nm ns lim R U V := by
  have f : Fr (w + 1) (w + 2) φ (uI φ (w + 1) k v) := fr_uI (Fr.refl _ _ _) (by omega) _ _
  have eA : swA w nm ns = w + 24 + 20 * nm + 20 * ns := rfl
  have e0 := f.i (a := w) (by omega)
  refine ⟨h.lay.up2 rfl, by rw [e0]; exact h.nm, by rw [e0]; exact h.ns, by rw [e0]; exact h.lim, fun i hi => (h.row i hi).sm (f.sm ?_), fun m hm => (h.uw m hm).sm (f.sm (by omega)), fun m hm => (h.ur m hm).sm (f.sm (by omega))⟩
  have := rA_in (w := w) h.lay.nm4.2 hi
  omega
theorem c_swL2 {Γ : gm_T} {w nm ns lim : Nat} {R : Nat → List RE} {U V : Nat → List UE} : ∀ (d i fu : Nat) (φ : ph_T), i + d = 16 → d < fu → SwR Γ φ w nm ns lim R U V → (∀ p, p < i → φ.1 (w + 1) p = nI (p % ns)) →
    ∃ φ', f_Switch_reset_L2 Γ fu φ w (nI i) = f_Switch_reset_L28 Γ jF φ' w (nI 0) ∧ Fr (w + 1) (w + 2) φ φ' ∧ SwR Γ φ' w nm ns lim R U V ∧ ∀ p, p < 16 → φ'.1 (w + 1) p = nI (p % ns) := by
  intro d
  induction d with
  | zero =>
    intro i fu φ hd hfu h hp
    match fu, hfu with
    | fu + 1, _ =>
      refine ⟨φ, ?_, Fr.refl _ _ _, h, fun p h16 => hp p (by omega)⟩
      rw [f_Switch_reset_L2, if_pos (by rw [show (16 : Int32) = nI 16 from rfl, zI_le (by omega) (by omega)]; omega)]
      rfl
  | succ d ih =>
    intro i fu φ hd hfu h hp
    match fu, hfu with
    | fu + 1, hfu =>
      have n5 := h.lay.ns4
      obtain ⟨φ', b1, b2, b3, b4⟩ := ih (i + 1) fu (uI φ (w + 1) i (nI (i % ns))) (by omega) (by omega) (h.pg _ _) (by
        intro p hpi
        rw [uI_s, vz_at]
        by_cases e : p = i
        · rw [if_pos e, e]
        · rw [if_neg e]; exact hp p (by omega))
      refine ⟨φ', ?_, (fr_uI (Fr.refl _ _ _) (by omega) _ _).trans b2, b3, b4⟩
      rw [f_Switch_reset_L2, if_neg (by rw [show (16 : Int32) = nI 16 from rfl, zI_le (by omega) (by omega)]; omega), if_pos h.lay.o, if_neg (by rw [h.ns, zI_0]; rw [zI_eq (by omega) (by omega)]; omega), h.lay.f3, Option.bind_some, h.lay.g3, Option.bind_some, zix (by omega), Option.bind_some, h.ns, zI_mod (by omega) (by omega), show nI i + (1 : Int32) = nI (i + 1) from by rw [zI_1, zI_add]]
      exact b1
theorem SwR.rw {Γ : gm_T} {φ : ph_T} {w nm ns lim i : Nat} {R : Nat → List RE} {U V : Nat → List UE} (h : SwR Γ φ w nm ns lim R U V) (hi : okR nm ns i) : SwR Γ (uI φ (rA w nm i) 3 (0 : Int32)) w nm ns lim (va_up R i []) U V := by
  have f : Fr (rA w nm i) (rA w nm i + 4) φ (uI φ (rA w nm i) 3 (0 : Int32)) := fr_uI (Fr.refl _ _ _) (by omega) _ _
  have eA : swA w nm ns = w + 24 + 20 * nm + 20 * ns := rfl
  have hin := rA_in (w := w) h.lay.nm4.2 hi
  have e0 := f.i (a := w) (by omega)
  refine ⟨h.lay.up2 rfl, by rw [e0]; exact h.nm, by rw [e0]; exact h.ns, by rw [e0]; exact h.lim, fun j hj => ?_, fun m hm => (h.uw m hm).sm (f.sm (by omega)), fun m hm => (h.ur m hm).sm (f.sm (by omega))⟩
  rw [vz_at]
  by_cases e : j = i
  · subst e
    rw [if_pos rfl]
    exact (h.row j hj).clr (by rw [uI_s, vz_same]; rfl) rfl
  · rw [if_neg e]
    have := rA_dis (w := w) h.lay.nm4.2 hi hj (fun hh => e hh.symm)
    exact (h.row j hj).sm (f.sm (by omega))
theorem c_swL28 {Γ : gm_T} {w nm ns lim : Nat} {U V : Nat → List UE} : ∀ (d i fu : Nat) (φ : ph_T) (R : Nat → List RE), i + d = 5 * nm → d < fu → SwR Γ φ w nm ns lim R U V → (∀ j, j < i → R j = []) →
    ∃ φ' R', f_Switch_reset_L28 Γ fu φ w (nI i) = f_Switch_reset_L55 Γ jF φ' w (nI 0) ∧ Fr (w + 2) (w + 3 + 20 * nm) φ φ' ∧ SwR Γ φ' w nm ns lim R' U V ∧ ∀ j, j < 5 * nm → R' j = [] := by
  intro d
  induction d with
  | zero =>
    intro i fu φ R hd hfu h hp
    match fu, hfu with
    | fu + 1, _ =>
      have n4 := h.lay.nm4
      refine ⟨φ, R, ?_, Fr.refl _ _ _, h, fun p h16 => hp p (by omega)⟩
      rw [f_Switch_reset_L28, if_pos h.lay.o, h.lay.f4, Option.bind_some, h.lay.g4, Option.bind_some, if_pos (by rw [zI_le (by omega) (by omega)]; omega)]
      rfl
  | succ d ih =>
    intro i fu φ R hd hfu h hp
    match fu, hfu with
    | fu + 1, hfu =>
      have n4 := h.lay.nm4
      have hok : okR nm ns i := Or.inl (by omega)
      have er : rA w nm i = w + 3 + 4 * i := by unfold rA; rw [if_pos (by omega)]
      have hrow := h.row i hok
      obtain ⟨φ', R', b1, b2, b3, b4⟩ := ih (i + 1) fu _ _ (by omega) (by omega) (h.rw hok) (by
        intro j hj
        rw [vz_at]
        by_cases e : j = i
        · rw [if_pos e]
        · rw [if_neg e]; exact hp j (by omega))
      refine ⟨φ', R', ?_, (fr_uI (Fr.refl _ _ _) (by omega) _ _).trans b2, b3, b4⟩
      rw [f_Switch_reset_L28, if_pos h.lay.o, h.lay.f4, Option.bind_some, h.lay.g4, Option.bind_some, if_neg (by rw [zI_le (by omega) (by omega)]; omega), Option.bind_some, zix (by omega), Option.bind_some, h.lay.mr i (by omega), Option.bind_some, ← er, if_pos hrow.o, show nI i + (1 : Int32) = nI (i + 1) from by rw [zI_1, zI_add]]
      exact b1
theorem c_swL55 {Γ : gm_T} {w nm ns lim : Nat} {U V : Nat → List UE} : ∀ (d i fu : Nat) (φ : ph_T) (R : Nat → List RE), i + d = 5 * (ns + 1) → d < fu → SwR Γ φ w nm ns lim R U V → (∀ j, okR nm ns j → j < 20 + i → R j = []) →
    ∃ φ' R', f_Switch_reset_L55 Γ fu φ w (nI i) = f_Switch_reset_L82 Γ jF φ' w (nI 0) ∧ Fr (w + 3 + 20 * nm) (swA w nm ns) φ φ' ∧ SwR Γ φ' w nm ns lim R' U V ∧ ∀ j, okR nm ns j → R' j = [] := by
  intro d
  induction d with
  | zero =>
    intro i fu φ R hd hfu h hp
    match fu, hfu with
    | fu + 1, _ =>
      have n4 := h.lay.nm4
      have n5 := h.lay.ns4
      refine ⟨φ, R, ?_, Fr.refl _ _ _, h, fun j hj => hp j hj (by unfold okR at hj; omega)⟩
      rw [f_Switch_reset_L55, if_pos h.lay.o, h.lay.f5, Option.bind_some, h.lay.g5, Option.bind_some, if_pos (by rw [zI_le (by omega) (by omega)]; omega)]
      rfl
  | succ d ih =>
    intro i fu φ R hd hfu h hp
    match fu, hfu with
    | fu + 1, hfu =>
      have n4 := h.lay.nm4
      have n5 := h.lay.ns4
      have eA : swA w nm ns = w + 24 + 20 * nm + 20 * ns := rfl
      have hok : okR nm ns (20 + i) := Or.inr (by omega)
      have er : rA w nm (20 + i) = w + 4 + 20 * nm + 4 * i := by unfold rA; rw [if_neg (by omega)]; omega
      have hrow := h.row (20 + i) hok
      obtain ⟨φ', R', b1, b2, b3, b4⟩ := ih (i + 1) fu _ _ (by omega) (by omega) (h.rw hok) (by
        intro j hj hj2
        rw [vz_at]
        by_cases e : j = 20 + i
        · rw [if_pos e]
        · rw [if_neg e]; exact hp j hj (by omega))
      refine ⟨φ', R', ?_, (fr_uI (Fr.refl _ _ _) (by omega) _ _).trans b2, b3, b4⟩
      rw [f_Switch_reset_L55, if_pos h.lay.o, h.lay.f5, Option.bind_some, h.lay.g5, Option.bind_some, if_neg (by rw [zI_le (by omega) (by omega)]; omega), Option.bind_some, zix (by omega), Option.bind_some, h.lay.tr i (by omega), Option.bind_some, ← er, if_pos hrow.o, show nI i + (1 : Int32) = nI (i + 1) from by rw [zI_1, zI_add]]
      exact b1
theorem SwR.un {Γ : gm_T} {φ : ph_T} {w nm ns lim i : Nat} {R : Nat → List RE} {U V : Nat → List UE} (h : SwR Γ φ w nm ns lim R U V) (hi : i < nm) : SwR Γ (uI (uI (uI φ (swA w nm ns + 2 + 10 * i) 4 (0 : Int32)) (swA w nm ns + 7 + 10 * i) 4 (0 : Int32)) (swB w nm ns + 4) i (0 : Int32)) w nm ns lim R (va_up U i []) (va_up V i []) := by
  have eA : swA w nm ns = w + 24 + 20 * nm + 20 * ns := rfl
  have eB : swB w nm ns = w + 26 + 30 * nm + 20 * ns := rfl
  have f : Fr (swA w nm ns) (swB w nm ns + 5) φ (uI (uI (uI φ (swA w nm ns + 2 + 10 * i) 4 (0 : Int32)) (swA w nm ns + 7 + 10 * i) 4 (0 : Int32)) (swB w nm ns + 4) i (0 : Int32)) := fr_uI (fr_uI (fr_uI (Fr.refl _ _ _) (by omega) _ _) (by omega) _ _) (by omega) _ _
  have e0 := f.i (a := w) (by omega)
  refine ⟨h.lay.up2 rfl, by rw [e0]; exact h.nm, by rw [e0]; exact h.ns, by rw [e0]; exact h.lim, fun j hj => (h.row j hj).sm (f.sm (by have := rA_in (w := w) h.lay.nm4.2 hj; omega)), fun m hm => ?_, fun m hm => ?_⟩
  · rw [vz_at]
    by_cases e : m = i
    · subst e
      rw [if_pos rfl]
      refine (h.uw m hm).clr ?_ rfl
      rw [uI_1, if_neg (by omega), uI_1, if_neg (by omega), uI_s, vz_same]; rfl
    · rw [if_neg e]
      refine (h.uw m hm).sm ?_
      have f1 : Sm (swA w nm ns + 2 + 10 * m) (swA w nm ns + 2 + 10 * m + 5) φ (uI φ (swA w nm ns + 2 + 10 * i) 4 (0 : Int32)) := (fr_uI (lo := swA w nm ns + 2 + 10 * i) (hi := swA w nm ns + 3 + 10 * i) (Fr.refl _ _ _) (by omega) _ _).sm (by omega)
      have f2 : Sm (swA w nm ns + 2 + 10 * m) (swA w nm ns + 2 + 10 * m + 5) _ (uI (uI φ (swA w nm ns + 2 + 10 * i) 4 (0 : Int32)) (swA w nm ns + 7 + 10 * i) 4 (0 : Int32)) := (fr_uI (lo := swA w nm ns + 7 + 10 * i) (hi := swA w nm ns + 8 + 10 * i) (Fr.refl _ _ _) (by omega) _ _).sm (by omega)
      have f3 : Sm (swA w nm ns + 2 + 10 * m) (swA w nm ns + 2 + 10 * m + 5) _ (uI (uI (uI φ (swA w nm ns + 2 + 10 * i) 4 (0 : Int32)) (swA w nm ns + 7 + 10 * i) 4 (0 : Int32)) (swB w nm ns + 4) i (0 : Int32)) := (fr_uI (lo := swB w nm ns + 4) (hi := swB w nm ns + 5) (Fr.refl _ _ _) (by omega) _ _).sm (by omega)
      exact (f1.trans f2).trans f3
  · rw [vz_at]
    by_cases e : m = i
    · subst e
      rw [if_pos rfl]
      refine (h.ur m hm).clr ?_ rfl
      rw [uI_1, if_neg (by omega), uI_s, vz_same]; rfl
    · rw [if_neg e]
      refine (h.ur m hm).sm ?_
      have f1 : Sm (swA w nm ns + 7 + 10 * m) (swA w nm ns + 7 + 10 * m + 5) φ (uI φ (swA w nm ns + 2 + 10 * i) 4 (0 : Int32)) := (fr_uI (lo := swA w nm ns + 2 + 10 * i) (hi := swA w nm ns + 3 + 10 * i) (Fr.refl _ _ _) (by omega) _ _).sm (by omega)
      have f2 : Sm (swA w nm ns + 7 + 10 * m) (swA w nm ns + 7 + 10 * m + 5) _ (uI (uI φ (swA w nm ns + 2 + 10 * i) 4 (0 : Int32)) (swA w nm ns + 7 + 10 * i) 4 (0 : Int32)) := (fr_uI (lo := swA w nm ns + 7 + 10 * i) (hi := swA w nm ns + 8 + 10 * i) (Fr.refl _ _ _) (by omega) _ _).sm (by omega)
      have f3 : Sm (swA w nm ns + 7 + 10 * m) (swA w nm ns + 7 + 10 * m + 5) _ (uI (uI (uI φ (swA w nm ns + 2 + 10 * i) 4 (0 : Int32)) (swA w nm ns + 7 + 10 * i) 4 (0 : Int32)) (swB w nm ns + 4) i (0 : Int32)) := (fr_uI (lo := swB w nm ns + 4) (hi := swB w nm ns + 5) (Fr.refl _ _ _) (by omega) _ _).sm (by omega)
      exact (f1.trans f2).trans f3
/-- what a cleared crossbar is -/
def SwT (T : XS) (nm ns lim : Nat) : Prop := (T.nm = nm) ∧ (T.ns = ns) ∧ (T.lim = lim) ∧ (T.pol = 1) ∧ (T.whole = false) ∧ (T.dbeat = 0) ∧ (T.moved = 0) ∧ (∀ p, T.pages p = p % ns) ∧ (∀ i, T.row i = []) ∧ (T.uw = []) ∧ (T.ur = []) ∧ (∀ t, T.la t = none) ∧ (∀ t, T.lr t = none) ∧ (∀ t, T.lb t = none) ∧ (∀ t, T.lg t = none) ∧ (∀ m, T.inb m = false)
theorem SwT.nm {T : XS} {nm ns lim : Nat} (h : SwT T nm ns lim) : T.nm = nm := h.1
theorem SwT.ns {T : XS} {nm ns lim : Nat} (h : SwT T nm ns lim) : T.ns = ns := h.2.1
theorem SwT.lim {T : XS} {nm ns lim : Nat} (h : SwT T nm ns lim) : T.lim = lim := h.2.2.1
theorem SwT.pol {T : XS} {nm ns lim : Nat} (h : SwT T nm ns lim) : T.pol = 1 := h.2.2.2.1
theorem SwT.whole {T : XS} {nm ns lim : Nat} (h : SwT T nm ns lim) : T.whole = false := h.2.2.2.2.1
theorem SwT.db {T : XS} {nm ns lim : Nat} (h : SwT T nm ns lim) : T.dbeat = 0 := h.2.2.2.2.2.1
theorem SwT.mv {T : XS} {nm ns lim : Nat} (h : SwT T nm ns lim) : T.moved = 0 := h.2.2.2.2.2.2.1
theorem SwT.pg {T : XS} {nm ns lim : Nat} (h : SwT T nm ns lim) : ∀ p, T.pages p = p % ns := h.2.2.2.2.2.2.2.1
theorem SwT.row {T : XS} {nm ns lim : Nat} (h : SwT T nm ns lim) : ∀ i, T.row i = [] := h.2.2.2.2.2.2.2.2.1
theorem SwT.uw {T : XS} {nm ns lim : Nat} (h : SwT T nm ns lim) : T.uw = [] := h.2.2.2.2.2.2.2.2.2.1
theorem SwT.ur {T : XS} {nm ns lim : Nat} (h : SwT T nm ns lim) : T.ur = [] := h.2.2.2.2.2.2.2.2.2.2.1
theorem SwT.la {T : XS} {nm ns lim : Nat} (h : SwT T nm ns lim) : ∀ t, T.la t = none := h.2.2.2.2.2.2.2.2.2.2.2.1
theorem SwT.lr {T : XS} {nm ns lim : Nat} (h : SwT T nm ns lim) : ∀ t, T.lr t = none := h.2.2.2.2.2.2.2.2.2.2.2.2.1
theorem SwT.lb {T : XS} {nm ns lim : Nat} (h : SwT T nm ns lim) : ∀ t, T.lb t = none := h.2.2.2.2.2.2.2.2.2.2.2.2.2.1
theorem SwT.lg {T : XS} {nm ns lim : Nat} (h : SwT T nm ns lim) : ∀ t, T.lg t = none := h.2.2.2.2.2.2.2.2.2.2.2.2.2.2.1
theorem SwT.inb {T : XS} {nm ns lim : Nat} (h : SwT T nm ns lim) : ∀ m, T.inb m = false := h.2.2.2.2.2.2.2.2.2.2.2.2.2.2.2
theorem c_swEnd {Γ : gm_T} {φ : ph_T} {w nm ns lim : Nat} {R : Nat → List RE} {U V : Nat → List UE} (h : SwR Γ φ w nm ns lim R U V) {T : XS} (t : SwT T nm ns lim) (hp : ∀ p, p < 16 → φ.1 (w + 1) p = nI (p % ns)) (hR : ∀ j, okR nm ns j → R j = []) (hU : ∀ m, m < nm → U m = [] ∧ V m = [] ∧ φ.1 (swB w nm ns + 4) m = nI 0) (fu : Nat) :
    ∃ φ', f_Switch_reset_L82 Γ (fu + 1) φ w (nI nm) = some ((), φ') ∧ Fr w (w + swZ nm ns) φ φ' ∧ CSw Γ φ' w T := by
  have eA : swA w nm ns = w + 24 + 20 * nm + 20 * ns := rfl
  have eB : swB w nm ns = w + 26 + 30 * nm + 20 * ns := rfl
  have n4 := h.lay.nm4
  have n5 := h.lay.ns4
  obtain ⟨φ1, a1, a2, a3, a5⟩ := e_fill1 h.lay.g8 (by omega) φ (-1 : Int32)
  obtain ⟨φ2, b1, b2, b3, b5⟩ := e_fill1 h.lay.g9 (by omega) φ1 (-1 : Int32)
  obtain ⟨φ3, c1, c2, c3, c5⟩ := e_fill1 h.lay.g10 (by omega) φ2 (-1 : Int32)
  obtain ⟨φ4, d1, d2, d3, d5⟩ := e_fill1 h.lay.g11 (by omega) φ3 (-1 : Int32)
  have e2 : φ2.2 = φ.2 := b3.trans a3
  have e3 : φ3.2 = φ.2 := c3.trans e2
  have e4 : φ4.2 = φ.2 := d3.trans e3
  have f4 : Fr (swB w nm ns) (swB w nm ns + 4) φ φ4 := (a2.mono (by omega) (by omega)).trans ((b2.mono (by omega) (by omega)).trans ((c2.mono (by omega) (by omega)).trans (d2.mono (by omega) (by omega))))
  have g5 : Fr w (w + 1) φ4 (uI (uI (uI (uI φ4 w 13 (1 : Int32)) w 14 (0 : Int32)) w 15 (0 : Int32)) w 16 (0 : Int32)) := fr_uI (fr_uI (fr_uI (fr_uI (Fr.refl _ _ _) (by omega) _ _) (by omega) _ _) (by omega) _ _) (by omega) _ _
  have eZ : swZ nm ns = 31 + 30 * nm + 20 * ns := rfl
  have e0 : φ4.1 w = φ.1 w := f4.i (by omega)
  refine ⟨_, ?_, (f4.mono (by omega) (by omega)).trans (g5.mono (by omega) (by omega)), ?_⟩
  · rw [f_Switch_reset_L82, if_pos h.lay.o, if_pos (by rw [h.nm, zI_le (by omega) (by omega)]; omega), h.lay.f8, a1, Option.bind_some]
    show (Option.bind (f_Arrays_fill1 Γ φ1 (φ1.2.2 w 9) (-1 : Int32)) _) = _
    rw [a3, h.lay.f9, b1, Option.bind_some]
    show (Option.bind (f_Arrays_fill1 Γ φ2 (φ2.2.2 w 10) (-1 : Int32)) _) = _
    rw [e2, h.lay.f10, c1, Option.bind_some]
    show (Option.bind (f_Arrays_fill1 Γ φ3 (φ3.2.2 w 11) (-1 : Int32)) _) = _
    rw [e3, h.lay.f11, d1, Option.bind_some, if_pos (by decide)]
  · have h' : SwL Γ (uI (uI (uI (uI φ4 w 13 (1 : Int32)) w 14 (0 : Int32)) w 15 (0 : Int32)) w 16 (0 : Int32)) w nm ns := h.lay.up2 (by rw [uI_3, uI_3, uI_3, uI_3, e4])
    refine ⟨by rw [t.nm, t.ns]; exact h', ⟨?_, ?_, ?_, ?_, ?_, ?_, ?_⟩, fun p hp2 => ?_, fun i hi => ?_, fun m hm => ?_, fun m hm => ?_, fun i hi => ?_, fun i hi => ?_, fun i hi => ?_, fun i hi => ?_, fun i hi => ?_⟩
    · rw [uI_s, uI_s, uI_s, uI_s, vz_ne _ (by decide), vz_ne _ (by decide), vz_ne _ (by decide), vz_ne _ (by decide), e0, t.nm]; exact h.nm
    · rw [uI_s, uI_s, uI_s, uI_s, vz_ne _ (by decide), vz_ne _ (by decide), vz_ne _ (by decide), vz_ne _ (by decide), e0, t.ns]; exact h.ns
    · rw [uI_s, uI_s, uI_s, uI_s, vz_ne _ (by decide), vz_ne _ (by decide), vz_ne _ (by decide), vz_ne _ (by decide), e0, t.lim]; exact h.lim
    · rw [uI_s, uI_s, uI_s, uI_s, vz_ne _ (by decide), vz_ne _ (by decide), vz_ne _ (by decide), vz_same, t.pol]; rfl
    · rw [uI_s, uI_s, uI_s, uI_s, vz_ne _ (by decide), vz_ne _ (by decide), vz_same, t.whole]; rfl
    · rw [uI_s, uI_s, uI_s, uI_s, vz_ne _ (by decide), vz_same, t.db]; rfl
    · rw [uI_s, uI_s, uI_s, uI_s, vz_same, t.mv]; rfl
    · rw [g5.i (by omega), f4.i (by omega), t.pg]; exact hp p hp2
    · rw [t.nm, t.ns] at hi
      rw [t.nm, t.row]
      have := rA_in (w := w) n4.2 hi
      have := h.row i hi
      rw [hR i hi] at this
      exact (this.sm (f4.sm (by omega))).sm (g5.sm (by omega))
    · rw [t.nm] at hm
      rw [t.nm, t.ns, t.uw]
      have := h.uw m hm
      rw [(hU m hm).1] at this
      exact (this.sm (f4.sm (by omega))).sm (g5.sm (by omega))
    · rw [t.nm] at hm
      rw [t.nm, t.ns, t.ur]
      have := h.ur m hm
      rw [(hU m hm).2.1] at this
      exact (this.sm (f4.sm (by omega))).sm (g5.sm (by omega))
    · rw [t.ns] at hi
      rw [t.nm, t.ns, t.la, g5.i (by omega), d2.i (by omega), c2.i (by omega), b2.i (by omega), a5 i hi]; rfl
    · rw [t.ns] at hi
      rw [t.nm, t.ns, t.lr, g5.i (by omega), d2.i (by omega), c2.i (by omega), b5 i hi]; rfl
    · rw [t.nm] at hi
      rw [t.nm, t.ns, t.lb, g5.i (by omega), d2.i (by omega), c5 i hi]; rfl
    · rw [t.nm] at hi
      rw [t.nm, t.ns, t.lg, g5.i (by omega), d5 i hi]; rfl
    · rw [t.nm] at hi
      rw [t.nm, t.ns, t.inb, g5.i (by omega), f4.i (by omega), (hU i hi).2.2]; rfl
theorem c_swL82 {Γ : gm_T} {w nm ns lim : Nat} {R : Nat → List RE} {T : XS} (t : SwT T nm ns lim) (hR : ∀ j, okR nm ns j → R j = []) : ∀ (d i fu : Nat) (φ : ph_T) (U V : Nat → List UE), i + d = nm → d < fu → SwR Γ φ w nm ns lim R U V → (∀ p, p < 16 → φ.1 (w + 1) p = nI (p % ns)) → (∀ m, m < i → U m = [] ∧ V m = [] ∧ φ.1 (swB w nm ns + 4) m = nI 0) →
    ∃ φ', f_Switch_reset_L82 Γ fu φ w (nI i) = some ((), φ') ∧ Fr w (w + swZ nm ns) φ φ' ∧ CSw Γ φ' w T := by
  intro d
  induction d with
  | zero =>
    intro i fu φ U V hd hfu h hp hU
    match fu, hfu with
    | fu + 1, _ =>
      have hi : i = nm := by omega
      subst hi
      exact c_swEnd h t hp hR hU fu
  | succ d ih =>
    intro i fu φ U V hd hfu h hp hU
    match fu, hfu with
    | fu + 1, hfu =>
      have n4 := h.lay.nm4
      have n5 := h.lay.ns4
      have eA : swA w nm ns = w + 24 + 20 * nm + 20 * ns := rfl
      have eB : swB w nm ns = w + 26 + 30 * nm + 20 * ns := rfl
      have eZ : swZ nm ns = 31 + 30 * nm + 20 * ns := rfl
      have f : Fr w (w + swZ nm ns) φ (uI (uI (uI φ (swA w nm ns + 2 + 10 * i) 4 (0 : Int32)) (swA w nm ns + 7 + 10 * i) 4 (0 : Int32)) (swB w nm ns + 4) i (0 : Int32)) := fr_uI (fr_uI (fr_uI (Fr.refl _ _ _) (by omega) _ _) (by omega) _ _) (by omega) _ _
      obtain ⟨φ', b1, b2, b3⟩ := ih (i + 1) fu _ _ _ (by omega) (by omega) (h.un (i := i) (by omega)) (by
        intro p hp2
        rw [uI_1, if_neg (by omega), uI_1, if_neg (by omega), uI_1, if_neg (by omega)]
        exact hp p hp2) (by
        intro m hm
        rw [vz_at, vz_at, uI_s, vz_at]
        by_cases e : m = i
        · rw [if_pos e, if_pos e, if_pos e]; exact ⟨rfl, rfl, rfl⟩
        · rw [if_neg e, if_neg e, if_neg e, uI_1, if_neg (by omega), uI_1, if_neg (by omega)]; exact hU m (by omega))
      refine ⟨φ', ?_, f.trans b2, b3⟩
      rw [f_Switch_reset_L82, if_pos h.lay.o, if_neg (by rw [h.nm, zI_le (by omega) (by omega)]; omega), h.lay.f6, Option.bind_some, h.lay.g6, Option.bind_some, zix (by omega), Option.bind_some, h.lay.uw i (by omega), Option.bind_some, if_pos (h.uw i (by omega)).o, h.lay.f7, Option.bind_some, h.lay.g7, Option.bind_some, zix (by omega), Option.bind_some, h.lay.ur i (by omega), Option.bind_some, if_pos (h.ur i (by omega)).o, h.lay.f12, Option.bind_some, h.lay.g12, Option.bind_some, zix (by omega), Option.bind_some, if_pos (by decide), show nI i + (1 : Int32) = nI (i + 1) from by rw [zI_1, zI_add]]
      exact b1
theorem c_swreset {Γ : gm_T} {φ : ph_T} {w nm ns lim : Nat} {R : Nat → List RE} {U V : Nat → List UE} (h : SwR Γ φ w nm ns lim R U V) {T : XS} (t : SwT T nm ns lim) :
    ∃ φ', f_Switch_reset Γ φ w = some ((), φ') ∧ Fr w (w + swZ nm ns) φ φ' ∧ CSw Γ φ' w T := by
  have n4 := h.lay.nm4
  have n5 := h.lay.ns4
  have eA : swA w nm ns = w + 24 + 20 * nm + 20 * ns := rfl
  have eZ : swZ nm ns = 31 + 30 * nm + 20 * ns := rfl
  obtain ⟨φ1, a1, a2, a3, a4⟩ := c_swL2 16 0 jF φ rfl (by unfold jF; omega) h (fun p hp => by omega)
  obtain ⟨φ2, R2, b1, b2, b3, b4⟩ := c_swL28 (5 * nm) 0 jF φ1 R (by omega) (by unfold jF; omega) a3 (fun p hp => by omega)
  obtain ⟨φ3, R3, c1, c2, c3, c4⟩ := c_swL55 (5 * (ns + 1)) 0 jF φ2 R2 (by omega) (by unfold jF; omega) b3 (fun j hj h2 => by
    refine b4 j ?_
    unfold okR at hj
    omega)
  have hp : ∀ p, p < 16 → φ3.1 (w + 1) p = nI (p % ns) := by
    intro p hp
    rw [c2.i (by omega), b2.i (by omega)]
    exact a4 p hp
  have eB : swB w nm ns = w + 26 + 30 * nm + 20 * ns := rfl
  obtain ⟨φ4, d1, d2, d3⟩ := c_swL82 t c4 nm 0 jF φ3 U V (by omega) (by unfold jF; omega) c3 hp (fun m hm => by omega)
  refine ⟨φ4, ?_, (a2.mono (by omega) (by omega)).trans ((b2.mono (by omega) (by omega)).trans ((c2.mono (by omega) (by omega)).trans d2)), d3⟩
  unfold f_Switch_reset
  rw [zI_0, a1, b1, c1, d1]
theorem CSw.swR {Γ : gm_T} {φ : ph_T} {w : Nat} {S : XS} (h : CSw Γ φ w S) : SwR Γ φ w S.nm S.ns S.lim S.row (fun m => S.uw.filter (isM m)) (fun m => S.ur.filter (isM m)) := ⟨h.lay, h.ob.nm, h.ob.ns, h.ob.lim, h.row, h.uw, h.ur⟩
