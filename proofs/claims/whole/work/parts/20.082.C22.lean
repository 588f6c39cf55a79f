/-! THE CLASS: the crossbar -/
def rA (w nm i : Nat) : Nat := if i < 20 then w + 3 + 4 * i else w + 4 + 20 * nm + 4 * (i - 20)
def okR (nm ns i : Nat) : Prop := i < 5 * nm ∨ (20 ≤ i ∧ i < 20 + 5 * (ns + 1))
def tmF (i : Nat) : Bool := decide (i < 20) && (decide (i % 5 = 0) || decide (i % 5 = 3))
def swA (w nm ns : Nat) : Nat := w + 24 + 20 * nm + 20 * ns
def swB (w nm ns : Nat) : Nat := w + 26 + 30 * nm + 20 * ns
def SwL (Γ : gm_T) (φ : ph_T) (w nm ns : Nat) : Prop := (Γ w = .inr 10) ∧ (1 ≤ nm ∧ nm ≤ 4) ∧ (1 ≤ ns ∧ ns ≤ 4) ∧ (φ.2.2 w 3 = some (w + 1)) ∧ (φ.2.2 w 4 = some (w + 2)) ∧ (φ.2.2 w 5 = some (w + 3 + 20 * nm)) ∧ (φ.2.2 w 6 = some (swA w nm ns)) ∧ (φ.2.2 w 7 = some (swA w nm ns + 1)) ∧ (φ.2.2 w 8 = some (swB w nm ns)) ∧ (φ.2.2 w 9 = some (swB w nm ns + 1)) ∧ (φ.2.2 w 10 = some (swB w nm ns + 2)) ∧ (φ.2.2 w 11 = some (swB w nm ns + 3)) ∧ (φ.2.2 w 12 = some (swB w nm ns + 4)) ∧ (gA Γ (w + 1) 0 = some 16) ∧ (gA Γ (w + 2) 3 = some (5 * nm)) ∧ (gA Γ (w + 3 + 20 * nm) 3 = some (5 * (ns + 1))) ∧ (gA Γ (swA w nm ns) 4 = some nm) ∧ (gA Γ (swA w nm ns + 1) 4 = some nm) ∧ (gA Γ (swB w nm ns) 0 = some (ns + 1)) ∧ (gA Γ (swB w nm ns + 1) 0 = some (ns + 1)) ∧ (gA Γ (swB w nm ns + 2) 0 = some nm) ∧ (gA Γ (swB w nm ns + 3) 0 = some nm) ∧ (gA Γ (swB w nm ns + 4) 2 = some nm) ∧ (∀ i, i < 5 * nm → φ.2.2 (w + 2) i = some (w + 3 + 4 * i)) ∧ (∀ j, j < 5 * (ns + 1) → φ.2.2 (w + 3 + 20 * nm) j = some (w + 4 + 20 * nm + 4 * j)) ∧ (∀ m, m < nm → φ.2.2 (swA w nm ns) m = some (swA w nm ns + 2 + 10 * m)) ∧ (∀ m, m < nm → φ.2.2 (swA w nm ns + 1) m = some (swA w nm ns + 7 + 10 * m))
theorem SwL.o {Γ : gm_T} {φ : ph_T} {w nm ns : Nat} (h : SwL Γ φ w nm ns) : Γ w = .inr 10 := h.1
theorem SwL.nm4 {Γ : gm_T} {φ : ph_T} {w nm ns : Nat} (h : SwL Γ φ w nm ns) : 1 ≤ nm ∧ nm ≤ 4 := h.2.1
theorem SwL.ns4 {Γ : gm_T} {φ : ph_T} {w nm ns : Nat} (h : SwL Γ φ w nm ns) : 1 ≤ ns ∧ ns ≤ 4 := h.2.2.1
theorem SwL.f3 {Γ : gm_T} {φ : ph_T} {w nm ns : Nat} (h : SwL Γ φ w nm ns) : φ.2.2 w 3 = some (w + 1) := h.2.2.2.1
theorem SwL.f4 {Γ : gm_T} {φ : ph_T} {w nm ns : Nat} (h : SwL Γ φ w nm ns) : φ.2.2 w 4 = some (w + 2) := h.2.2.2.2.1
theorem SwL.f5 {Γ : gm_T} {φ : ph_T} {w nm ns : Nat} (h : SwL Γ φ w nm ns) : φ.2.2 w 5 = some (w + 3 + 20 * nm) := h.2.2.2.2.2.1
theorem SwL.f6 {Γ : gm_T} {φ : ph_T} {w nm ns : Nat} (h : SwL Γ φ w nm ns) : φ.2.2 w 6 = some (swA w nm ns) := h.2.2.2.2.2.2.1
theorem SwL.f7 {Γ : gm_T} {φ : ph_T} {w nm ns : Nat} (h : SwL Γ φ w nm ns) : φ.2.2 w 7 = some (swA w nm ns + 1) := h.2.2.2.2.2.2.2.1
theorem SwL.f8 {Γ : gm_T} {φ : ph_T} {w nm ns : Nat} (h : SwL Γ φ w nm ns) : φ.2.2 w 8 = some (swB w nm ns) := h.2.2.2.2.2.2.2.2.1
theorem SwL.f9 {Γ : gm_T} {φ : ph_T} {w nm ns : Nat} (h : SwL Γ φ w nm ns) : φ.2.2 w 9 = some (swB w nm ns + 1) := h.2.2.2.2.2.2.2.2.2.1
theorem SwL.f10 {Γ : gm_T} {φ : ph_T} {w nm ns : Nat} (h : SwL Γ φ w nm ns) : φ.2.2 w 10 = some (swB w nm ns + 2) := h.2.2.2.2.2.2.2.2.2.2.1
theorem SwL.f11 {Γ : gm_T} {φ : ph_T} {w nm ns : Nat} (h : SwL Γ φ w nm ns) : φ.2.2 w 11 = some (swB w nm ns + 3) := h.2.2.2.2.2.2.2.2.2.2.2.1
theorem SwL.f12 {Γ : gm_T} {φ : ph_T} {w nm ns : Nat} (h : SwL Γ φ w nm ns) : φ.2.2 w 12 = some (swB w nm ns + 4) := h.2.2.2.2.2.2.2.2.2.2.2.2.1
theorem SwL.g3 {Γ : gm_T} {φ : ph_T} {w nm ns : Nat} (h : SwL Γ φ w nm ns) : gA Γ (w + 1) 0 = some 16 := h.2.2.2.2.2.2.2.2.2.2.2.2.2.1
theorem SwL.g4 {Γ : gm_T} {φ : ph_T} {w nm ns : Nat} (h : SwL Γ φ w nm ns) : gA Γ (w + 2) 3 = some (5 * nm) := h.2.2.2.2.2.2.2.2.2.2.2.2.2.2.1
theorem SwL.g5 {Γ : gm_T} {φ : ph_T} {w nm ns : Nat} (h : SwL Γ φ w nm ns) : gA Γ (w + 3 + 20 * nm) 3 = some (5 * (ns + 1)) := h.2.2.2.2.2.2.2.2.2.2.2.2.2.2.2.1
theorem SwL.g6 {Γ : gm_T} {φ : ph_T} {w nm ns : Nat} (h : SwL Γ φ w nm ns) : gA Γ (swA w nm ns) 4 = some nm := h.2.2.2.2.2.2.2.2.2.2.2.2.2.2.2.2.1
theorem SwL.g7 {Γ : gm_T} {φ : ph_T} {w nm ns : Nat} (h : SwL Γ φ w nm ns) : gA Γ (swA w nm ns + 1) 4 = some nm := h.2.2.2.2.2.2.2.2.2.2.2.2.2.2.2.2.2.1
theorem SwL.g8 {Γ : gm_T} {φ : ph_T} {w nm ns : Nat} (h : SwL Γ φ w nm ns) : gA Γ (swB w nm ns) 0 = some (ns + 1) := h.2.2.2.2.2.2.2.2.2.2.2.2.2.2.2.2.2.2.1
theorem SwL.g9 {Γ : gm_T} {φ : ph_T} {w nm ns : Nat} (h : SwL Γ φ w nm ns) : gA Γ (swB w nm ns + 1) 0 = some (ns + 1) := h.2.2.2.2.2.2.2.2.2.2.2.2.2.2.2.2.2.2.2.1
theorem SwL.g10 {Γ : gm_T} {φ : ph_T} {w nm ns : Nat} (h : SwL Γ φ w nm ns) : gA Γ (swB w nm ns + 2) 0 = some nm := h.2.2.2.2.2.2.2.2.2.2.2.2.2.2.2.2.2.2.2.2.1
theorem SwL.g11 {Γ : gm_T} {φ : ph_T} {w nm ns : Nat} (h : SwL Γ φ w nm ns) : gA Γ (swB w nm ns + 3) 0 = some nm := h.2.2.2.2.2.2.2.2.2.2.2.2.2.2.2.2.2.2.2.2.2.1
theorem SwL.g12 {Γ : gm_T} {φ : ph_T} {w nm ns : Nat} (h : SwL Γ φ w nm ns) : gA Γ (swB w nm ns + 4) 2 = some nm := h.2.2.2.2.2.2.2.2.2.2.2.2.2.2.2.2.2.2.2.2.2.2.1
theorem SwL.mr {Γ : gm_T} {φ : ph_T} {w nm ns : Nat} (h : SwL Γ φ w nm ns) : ∀ i, i < 5 * nm → φ.2.2 (w + 2) i = some (w + 3 + 4 * i) := h.2.2.2.2.2.2.2.2.2.2.2.2.2.2.2.2.2.2.2.2.2.2.2.1
theorem SwL.tr {Γ : gm_T} {φ : ph_T} {w nm ns : Nat} (h : SwL Γ φ w nm ns) : ∀ j, j < 5 * (ns + 1) → φ.2.2 (w + 3 + 20 * nm) j = some (w + 4 + 20 * nm + 4 * j) := h.2.2.2.2.2.2.2.2.2.2.2.2.2.2.2.2.2.2.2.2.2.2.2.2.1
theorem SwL.uw {Γ : gm_T} {φ : ph_T} {w nm ns : Nat} (h : SwL Γ φ w nm ns) : ∀ m, m < nm → φ.2.2 (swA w nm ns) m = some (swA w nm ns + 2 + 10 * m) := h.2.2.2.2.2.2.2.2.2.2.2.2.2.2.2.2.2.2.2.2.2.2.2.2.2.1
theorem SwL.ur {Γ : gm_T} {φ : ph_T} {w nm ns : Nat} (h : SwL Γ φ w nm ns) : ∀ m, m < nm → φ.2.2 (swA w nm ns + 1) m = some (swA w nm ns + 7 + 10 * m) := h.2.2.2.2.2.2.2.2.2.2.2.2.2.2.2.2.2.2.2.2.2.2.2.2.2.2
theorem SwL.up {Γ : gm_T} {φ φ' : ph_T} {w nm ns : Nat} (h : SwL Γ φ w nm ns) (e1 : φ'.2.2 w = φ.2.2 w) (e2 : φ'.2.2 (w + 2) = φ.2.2 (w + 2)) (e3 : φ'.2.2 (w + 3 + 20 * nm) = φ.2.2 (w + 3 + 20 * nm)) (e4 : φ'.2.2 (swA w nm ns) = φ.2.2 (swA w nm ns)) (e5 : φ'.2.2 (swA w nm ns + 1) = φ.2.2 (swA w nm ns + 1)) : SwL Γ φ' w nm ns :=
  ⟨h.o, h.nm4, h.ns4, by rw [e1]; exact h.f3, by rw [e1]; exact h.f4, by rw [e1]; exact h.f5, by rw [e1]; exact h.f6, by rw [e1]; exact h.f7, by rw [e1]; exact h.f8, by rw [e1]; exact h.f9, by rw [e1]; exact h.f10, by rw [e1]; exact h.f11, by rw [e1]; exact h.f12, h.g3, h.g4, h.g5, h.g6, h.g7, h.g8, h.g9, h.g10, h.g11, h.g12, by rw [e2]; exact h.mr, by rw [e3]; exact h.tr, by rw [e4]; exact h.uw, by rw [e5]; exact h.ur⟩
def SwO (f : aI) (S : XS) : Prop := (f 0 = nI S.nm) ∧ (f 1 = nI S.ns) ∧ (f 2 = nI S.lim) ∧ (f 13 = nI S.pol) ∧ (f 14 = bI S.whole) ∧ (f 15 = nI S.dbeat) ∧ (f 16 = nI S.moved)
theorem SwO.nm {f : aI} {S : XS} (h : SwO f S) : f 0 = nI S.nm := h.1
theorem SwO.ns {f : aI} {S : XS} (h : SwO f S) : f 1 = nI S.ns := h.2.1
theorem SwO.lim {f : aI} {S : XS} (h : SwO f S) : f 2 = nI S.lim := h.2.2.1
theorem SwO.pol {f : aI} {S : XS} (h : SwO f S) : f 13 = nI S.pol := h.2.2.2.1
theorem SwO.whole {f : aI} {S : XS} (h : SwO f S) : f 14 = bI S.whole := h.2.2.2.2.1
theorem SwO.db {f : aI} {S : XS} (h : SwO f S) : f 15 = nI S.dbeat := h.2.2.2.2.2.1
theorem SwO.mv {f : aI} {S : XS} (h : SwO f S) : f 16 = nI S.moved := h.2.2.2.2.2.2
def CSw (Γ : gm_T) (φ : ph_T) (w : Nat) (S : XS) : Prop := (SwL Γ φ w S.nm S.ns) ∧ (SwO (φ.1 w) S) ∧ (∀ p, p < 16 → φ.1 (w + 1) p = nI (S.pages p)) ∧ (∀ i, okR S.nm S.ns i → CRow Γ φ (rA w S.nm i) (roomN (i % 5)) (tmF i) (S.row i)) ∧ (∀ m, m < S.nm → CUw Γ φ (swA w S.nm S.ns + 2 + 10 * m) (S.uw.filter (isM m))) ∧ (∀ m, m < S.nm → CUw Γ φ (swA w S.nm S.ns + 7 + 10 * m) (S.ur.filter (isM m))) ∧ (∀ t, t < S.ns + 1 → φ.1 (swB w S.nm S.ns) t = oI (S.la t) m1) ∧ (∀ t, t < S.ns + 1 → φ.1 (swB w S.nm S.ns + 1) t = oI (S.lr t) m1) ∧ (∀ m, m < S.nm → φ.1 (swB w S.nm S.ns + 2) m = oI (S.lb m) m1) ∧ (∀ m, m < S.nm → φ.1 (swB w S.nm S.ns + 3) m = oI (S.lg m) m1) ∧ (∀ m, m < S.nm → φ.1 (swB w S.nm S.ns + 4) m = bI (S.inb m))
theorem CSw.lay {Γ : gm_T} {φ : ph_T} {w : Nat} {S : XS} (h : CSw Γ φ w S) : SwL Γ φ w S.nm S.ns := h.1
theorem CSw.ob {Γ : gm_T} {φ : ph_T} {w : Nat} {S : XS} (h : CSw Γ φ w S) : SwO (φ.1 w) S := h.2.1
theorem CSw.pg {Γ : gm_T} {φ : ph_T} {w : Nat} {S : XS} (h : CSw Γ φ w S) : ∀ p, p < 16 → φ.1 (w + 1) p = nI (S.pages p) := h.2.2.1
theorem CSw.row {Γ : gm_T} {φ : ph_T} {w : Nat} {S : XS} (h : CSw Γ φ w S) : ∀ i, okR S.nm S.ns i → CRow Γ φ (rA w S.nm i) (roomN (i % 5)) (tmF i) (S.row i) := h.2.2.2.1
theorem CSw.uw {Γ : gm_T} {φ : ph_T} {w : Nat} {S : XS} (h : CSw Γ φ w S) : ∀ m, m < S.nm → CUw Γ φ (swA w S.nm S.ns + 2 + 10 * m) (S.uw.filter (isM m)) := h.2.2.2.2.1
theorem CSw.ur {Γ : gm_T} {φ : ph_T} {w : Nat} {S : XS} (h : CSw Γ φ w S) : ∀ m, m < S.nm → CUw Γ φ (swA w S.nm S.ns + 7 + 10 * m) (S.ur.filter (isM m)) := h.2.2.2.2.2.1
theorem CSw.la {Γ : gm_T} {φ : ph_T} {w : Nat} {S : XS} (h : CSw Γ φ w S) : ∀ t, t < S.ns + 1 → φ.1 (swB w S.nm S.ns) t = oI (S.la t) m1 := h.2.2.2.2.2.2.1
theorem CSw.lr {Γ : gm_T} {φ : ph_T} {w : Nat} {S : XS} (h : CSw Γ φ w S) : ∀ t, t < S.ns + 1 → φ.1 (swB w S.nm S.ns + 1) t = oI (S.lr t) m1 := h.2.2.2.2.2.2.2.1
theorem CSw.lb {Γ : gm_T} {φ : ph_T} {w : Nat} {S : XS} (h : CSw Γ φ w S) : ∀ m, m < S.nm → φ.1 (swB w S.nm S.ns + 2) m = oI (S.lb m) m1 := h.2.2.2.2.2.2.2.2.1
theorem CSw.lg {Γ : gm_T} {φ : ph_T} {w : Nat} {S : XS} (h : CSw Γ φ w S) : ∀ m, m < S.nm → φ.1 (swB w S.nm S.ns + 3) m = oI (S.lg m) m1 := h.2.2.2.2.2.2.2.2.2.1
theorem CSw.inb {Γ : gm_T} {φ : ph_T} {w : Nat} {S : XS} (h : CSw Γ φ w S) : ∀ m, m < S.nm → φ.1 (swB w S.nm S.ns + 4) m = bI (S.inb m) := h.2.2.2.2.2.2.2.2.2.2
def swZ (nm ns : Nat) : Nat := 31 + 30 * nm + 20 * ns
theorem CSw.sm {Γ : gm_T} {φ φ' : ph_T} {w : Nat} {S : XS} (h : CSw Γ φ w S) (s : Sm w (w + swZ S.nm S.ns) φ φ') : CSw Γ φ' w S := by
  unfold swZ at s
  have eA : swA w S.nm S.ns = w + 24 + 20 * S.nm + 20 * S.ns := rfl
  have eB : swB w S.nm S.ns = w + 26 + 30 * S.nm + 20 * S.ns := rfl
  refine ⟨h.lay.up (s.r (by omega) (by omega)) (s.r (by omega) (by omega)) (s.r (by omega) (by omega)) (s.r (by omega) (by omega)) (s.r (by omega) (by omega)), ?_, ?_, ?_, ?_, ?_, ?_, ?_, ?_, ?_, ?_⟩
  · rw [s.i (by omega) (by omega)]; exact h.ob
  · rw [s.i (by omega) (by omega)]; exact h.pg
  · intro i hi
    refine (h.row i hi).sm (s.mono ?_ ?_)
    · unfold rA; split <;> omega
    · unfold rA; unfold okR at hi; have := h.lay.nm4; split <;> omega
  · intro m hm; exact (h.uw m hm).sm (s.mono (by omega) (by omega))
  · intro m hm; exact (h.ur m hm).sm (s.mono (by omega) (by omega))
  · rw [s.i (by omega) (by omega)]; exact h.la
  · rw [s.i (by omega) (by omega)]; exact h.lr
  · rw [s.i (by omega) (by omega)]; exact h.lb
  · rw [s.i (by omega) (by omega)]; exact h.lg
  · rw [s.i (by omega) (by omega)]; exact h.inb
theorem rA_dis {w nm ns i j : Nat} (h4 : nm ≤ 4) (hi : okR nm ns i) (hj : okR nm ns j) (hne : i ≠ j) : rA w nm i + 4 ≤ rA w nm j ∨ rA w nm j + 4 ≤ rA w nm i := by
  unfold okR at hi hj
  unfold rA
  split <;> split <;> omega
theorem rA_in {w nm ns i : Nat} (h4 : nm ≤ 4) (hi : okR nm ns i) : (w + 3 ≤ rA w nm i ∧ rA w nm i + 4 ≤ w + 3 + 20 * nm) ∨ (w + 4 + 20 * nm ≤ rA w nm i ∧ rA w nm i + 4 ≤ swA w nm ns) := by
  unfold okR at hi
  unfold rA swA
  split <;> omega
/-- a row has changed -/
theorem CSw.rowU {Γ : gm_T} {φ φ' : ph_T} {w i : Nat} {S : XS} {l : List RE} (h : CSw Γ φ w S) (hi : okR S.nm S.ns i) (f : Fr (rA w S.nm i) (rA w S.nm i + 4) φ φ') (hr : CRow Γ φ' (rA w S.nm i) (roomN (i % 5)) (tmF i) l) : CSw Γ φ' w (S.setRow i l) := by
  have eA : swA w S.nm S.ns = w + 24 + 20 * S.nm + 20 * S.ns := rfl
  have eB : swB w S.nm S.ns = w + 26 + 30 * S.nm + 20 * S.ns := rfl
  have h4 := h.lay.nm4
  have hin := rA_in (w := w) h4.2 hi
  refine ⟨h.lay.up (f.r (by omega)) (f.r (by omega)) (f.r (by omega)) (f.r (by omega)) (f.r (by omega)), ?_, ?_, ?_, ?_, ?_, ?_, ?_, ?_, ?_, ?_⟩
  · rw [f.i (by omega)]; exact ⟨h.ob.nm, h.ob.ns, h.ob.lim, h.ob.pol, h.ob.whole, h.ob.db, h.ob.mv⟩
  · rw [f.i (by omega)]; exact h.pg
  · intro j hj
    have hj' : okR S.nm S.ns j := hj
    show CRow Γ φ' (rA w S.nm j) (roomN (j % 5)) (tmF j) (va_up S.row i l j)
    rw [vz_at]
    by_cases e : j = i
    · subst e; rw [if_pos rfl]; exact hr
    · rw [if_neg e]
      have := rA_dis (w := w) h4.2 hi hj' (fun hh => e hh.symm)
      exact (h.row j hj').sm (f.sm (by omega))
  · intro m hm; exact (h.uw m hm).sm (f.sm (by omega))
  · intro m hm; exact (h.ur m hm).sm (f.sm (by omega))
  · show ∀ t, t < S.ns + 1 → φ'.1 (swB w S.nm S.ns) t = oI (S.la t) m1; rw [f.i (by omega)]; exact h.la
  · show ∀ t, t < S.ns + 1 → φ'.1 (swB w S.nm S.ns + 1) t = oI (S.lr t) m1; rw [f.i (by omega)]; exact h.lr
  · show ∀ m, m < S.nm → φ'.1 (swB w S.nm S.ns + 2) m = oI (S.lb m) m1; rw [f.i (by omega)]; exact h.lb
  · show ∀ m, m < S.nm → φ'.1 (swB w S.nm S.ns + 3) m = oI (S.lg m) m1; rw [f.i (by omega)]; exact h.lg
  · show ∀ m, m < S.nm → φ'.1 (swB w S.nm S.ns + 4) m = bI (S.inb m); rw [f.i (by omega)]; exact h.inb
theorem c_ofMaster {Γ : gm_T} {φ : ph_T} {w m c : Nat} {S : XS} (h : CSw Γ φ w S) (hm : m < S.nm) (hc : c < 5) : f_Switch_ofMaster Γ φ w (nI m) (nI c) = some (some (rA w S.nm (5 * m + c)), φ) := by
  have h4 := h.lay.nm4
  unfold f_Switch_ofMaster
  rw [if_pos h.lay.o, h.lay.f4, Option.bind_some, h.lay.g4, Option.bind_some, show (5 : Int32) = nI 5 from rfl, zI_mul, zI_add, show m * 5 + c = 5 * m + c by omega, zix (by omega), Option.bind_some, h.lay.mr _ (by omega)]
  unfold rA
  rw [if_pos (by omega)]
theorem c_ofTarget {Γ : gm_T} {φ : ph_T} {w t c : Nat} {S : XS} (h : CSw Γ φ w S) (ht : t < S.ns + 1) (hc : c < 5) : f_Switch_ofTarget Γ φ w (nI t) (nI c) = some (some (rA w S.nm (5 * (4 + t) + c)), φ) := by
  have h4 := h.lay.ns4
  unfold f_Switch_ofTarget
  rw [if_pos h.lay.o, h.lay.f5, Option.bind_some, h.lay.g5, Option.bind_some, show (5 : Int32) = nI 5 from rfl, zI_mul, zI_add, show t * 5 + c = 5 * t + c by omega, zix (by omega), Option.bind_some, h.lay.tr _ (by omega)]
  unfold rA
  rw [if_neg (by omega), show 5 * (4 + t) + c - 20 = 5 * t + c by omega]
theorem e_toSlave (Γ : gm_T) (φ : ph_T) {c : Nat} (hc : c < 5) : f_Bus_toSlave Γ φ (nI c) = some (bI (decide (c ≠ 2) && decide (c ≠ 4)), φ) := by
  unfold f_Bus_toSlave f_Bus_toSlave_L14 f_Bus_toSlave_L15
  match c, hc with
  | 0, _ => rfl
  | 1, _ => rfl
  | 2, _ => rfl
  | 3, _ => rfl
  | 4, _ => rfl
/-- a row's wires -/
theorem c_tellRowT {Γ : gm_T} {φ : ph_T} {ap a room c : Nat} {tm : Bool} {l : List RE} {x : WI} {hd : Nat → Bool} {tr : Nat → Int32} (hr : CRow Γ φ a room tm l) (hp : CPt Γ φ ap x hd tr) (hc : c < 5) :
    ∃ φ', f_Switch_tellRow Γ φ (some ap) (nI c) (some a) (nI 1) = some ((), φ') ∧ CPt Γ φ' ap (x.rdy c (decide (l.length < room))) hd tr ∧ Fr ap (ap + 7) φ φ' := by
  obtain ⟨r1, r2⟩ := c_rdy hp hc (decide (l.length < room))
  refine ⟨_, ?_, r1, r2⟩
  unfold f_Switch_tellRow f_Switch_tellRow_L37
  rw [if_neg (by decide)]
  simp (disch := first | assumption | omega) only [Option.bind_some, hp.o, if_true, hr.o, c_hasRoom hr, hp.f1, hp.g1, zix, zI_0, zI_1, bI_ok]
def sndR (x : WI) (c : Nat) (l : List RE) : WI := match l with
  | [] => x
  | e :: _ => x.snd' c ⟨true, e.c, e.r⟩
theorem c_tellRowF {Γ : gm_T} {φ : ph_T} {ap a room c : Nat} {tm : Bool} {l : List RE} {x : WI} {hd : Nat → Bool} {tr : Nat → Int32} (hr : CRow Γ φ a room tm l) (hp : CPt Γ φ ap x hd tr) (hc : c < 5) :
    ∃ φ', f_Switch_tellRow Γ φ (some ap) (nI c) (some a) (nI 0) = some ((), φ') ∧ CPt Γ φ' ap (sndR x c l) hd tr ∧ Fr ap (ap + 7) φ φ' := by
  unfold f_Switch_tellRow f_Switch_tellRow_L37
  rw [if_pos (by decide)]
  simp only [Option.bind_some, hr.o, if_true, c_holds hr, bI_eqz]
  cases l with
  | nil => exact ⟨φ, rfl, hp, Fr.refl _ _ _⟩
  | cons e l =>
    obtain ⟨φ1, s1, s2, s3⟩ := c_send hp hc e.c e.r
    refine ⟨φ1, ?_, s2, s3⟩
    rw [if_neg (by simp)]
    simp only [c_firstContent hr, c_firstRest hr, Option.bind_some, hp.o, if_true, s1]
/-- the crossbar's wires at a master -/
theorem c_tellM_L {Γ : gm_T} {w m ap : Nat} {S : XS} {hd : Nat → Bool} {tr : Nat → Int32} (hm : m < S.nm) (hwp : ap + 7 ≤ w ∨ w + swZ S.nm S.ns ≤ ap) : ∀ (d c fu : Nat) (φ : ph_T) (x : WI), c + d = 5 → d < fu → CSw Γ φ w S → CPt Γ φ ap x hd tr →
    ∃ φ', f_Switch_tellMaster_L2 Γ fu φ w (some ap) (nI m) (nI c) = some ((), φ') ∧ CPt Γ φ' ap ⟨fun k => if c ≤ k ∧ (k = 2 ∨ k = 4) then (match S.row (5 * m + k) with
      | [] => x.w k
      | e :: _ => ⟨true, e.c, e.r⟩) else x.w k, fun k => if c ≤ k ∧ ¬ (k = 2 ∨ k = 4) then S.hasRm (5 * m + k) else x.rd k⟩ hd tr ∧ Fr ap (ap + 7) φ φ' := by
  intro d
  induction d with
  | zero =>
    intro c fu φ x hd' hfu h hp
    match fu, hfu with
    | fu + 1, _ =>
      unfold f_Switch_tellMaster_L2
      rw [if_pos (by rw [show (5 : Int32) = nI 5 from rfl, zI_le (by omega) (by omega)]; omega)]
      refine ⟨φ, rfl, hp.congr (fun k hk => ?_), Fr.refl _ _ _⟩
      simp only [WI.w_mk, WI.rd_mk, WI.w_w_w, WI.w_w_rd, WI.rd_w_w, WI.rd_w_rd]
      rw [if_neg (by omega), if_neg (by omega)]
      exact ⟨rfl, rfl, trivial⟩
  | succ d ih =>
    intro c fu φ x hd' hfu h hp
    match fu, hfu with
    | fu + 1, hfu =>
      have h4 := h.lay.nm4
      have hrow := h.row (5 * m + c) (Or.inl (by omega))
      rw [show (5 * m + c) % 5 = c by omega] at hrow
      have hpre : ∀ (φ1 : ph_T), f_Switch_tellRow Γ φ (some ap) (nI c) (some (rA w S.nm (5 * m + c))) (bI (decide (c ≠ 2) && decide (c ≠ 4))) = some ((), φ1) → f_Switch_tellMaster_L2 Γ (fu + 1) φ w (some ap) (nI m) (nI c) = f_Switch_tellMaster_L2 Γ fu φ1 w (some ap) (nI m) (nI (c + 1)) := by
        intro φ1 h1
        rw [f_Switch_tellMaster_L2]
        rw [if_neg (by rw [show (5 : Int32) = nI 5 from rfl, zI_le (by omega) (by omega)]; omega), if_pos h.lay.o, c_ofMaster h hm (by omega), Option.bind_some]
        simp only [e_toSlave Γ φ (show c < 5 by omega), Option.bind_some, h1, zI_1, zI_add]
      by_cases hc : c = 2 ∨ c = 4
      · obtain ⟨φ1, s1, s2, s3⟩ := c_tellRowF hrow hp (c := c) (by omega)
        have hb : (decide (c ≠ 2) && decide (c ≠ 4)) = false := by rcases hc with rfl | rfl <;> rfl
        rw [hb] at hpre
        obtain ⟨φ2, t1, t2, t3⟩ := ih (c + 1) fu φ1 _ (by omega) (by omega) (h.sm (s3.sm (by omega))) s2
        refine ⟨φ2, (hpre φ1 s1).trans t1, t2.congr (fun k hk => ?_), s3.trans t3⟩
        simp only [WI.w_mk, WI.rd_mk, WI.w_w_w, WI.w_w_rd, WI.rd_w_w, WI.rd_w_rd]
        by_cases hk2 : k = c
        · subst hk2
          simp only [Nat.le_refl, hc, true_and, if_true, not_true, and_false, if_false, show ¬ (k + 1 ≤ k) by omega, false_and]
          unfold sndR
          cases hS : S.row (5 * m + k) with
          | nil => exact ⟨rfl, rfl, trivial⟩
          | cons e l => simp only [WI.snd', WI.w_mk, WI.rd_mk, WI.w_w_w, WI.w_w_rd, WI.rd_w_w, WI.rd_w_rd, vz_same]; exact ⟨trivial, trivial, trivial⟩
        · have hx : (sndR x c (S.row (5 * m + c))).w k = x.w k ∧ (sndR x c (S.row (5 * m + c))).rd k = x.rd k := by
            unfold sndR
            cases S.row (5 * m + c) with
            | nil => exact ⟨rfl, rfl⟩
            | cons e l => simp only [WI.snd', WI.w_mk, WI.rd_mk, WI.w_w_w, WI.w_w_rd, WI.rd_w_w, WI.rd_w_rd, vz_ne _ hk2]; exact ⟨trivial, trivial⟩
          rw [hx.1, hx.2]
          by_cases hck : c ≤ k
          · have : c + 1 ≤ k := by omega
            simp only [hck, this, true_and]
          · have : ¬ c + 1 ≤ k := by omega
            simp only [hck, this, false_and, if_false]
            exact ⟨trivial, trivial, trivial⟩
      · obtain ⟨φ1, s1, s2, s3⟩ := c_tellRowT hrow hp (c := c) (by omega)
        have hb : (decide (c ≠ 2) && decide (c ≠ 4)) = true := by
          have h1 : c ≠ 2 := fun hh => hc (Or.inl hh)
          have h2 : c ≠ 4 := fun hh => hc (Or.inr hh)
          simp [h1, h2]
        rw [hb] at hpre
        obtain ⟨φ2, t1, t2, t3⟩ := ih (c + 1) fu φ1 _ (by omega) (by omega) (h.sm (s3.sm (by omega))) s2
        refine ⟨φ2, (hpre φ1 s1).trans t1, t2.congr (fun k hk => ?_), s3.trans t3⟩
        simp only [WI.w_mk, WI.rd_mk, WI.w_w_w, WI.w_w_rd, WI.rd_w_w, WI.rd_w_rd, WI.rdy, vz_at]
        by_cases hk2 : k = c
        · subst hk2
          simp only [Nat.le_refl, hc, true_and, if_true, not_false_iff, and_false, if_false, show ¬ (k + 1 ≤ k) by omega, false_and]
          unfold XS.hasRm
          rw [show (5 * m + k) % 5 = k by omega]
          simp
        · rw [if_neg hk2]
          by_cases hck : c ≤ k
          · have : c + 1 ≤ k := by omega
            simp only [hck, this, true_and]
          · have : ¬ c + 1 ≤ k := by omega
            simp only [hck, this, false_and, if_false]
            exact ⟨trivial, trivial, trivial⟩
