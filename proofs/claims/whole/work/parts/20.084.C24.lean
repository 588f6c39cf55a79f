/-! THE CLASS: the crossbar moves addresses -/
theorem filt_app (l : List UE) (u : UE) (m : Nat) : (l ++ [u]).filter (isM m) = l.filter (isM m) ++ (if u.m = m then [u] else []) := by
  rw [List.filter_append, List.filter_cons, List.filter_nil]
  unfold isM
  by_cases h : u.m = m <;> simp [h]
/-- writes under way have changed for one master -/
theorem CSw.uwU {Γ : gm_T} {φ φ' : ph_T} {w m : Nat} {S : XS} {l : List UE} (h : CSw Γ φ w S) (hm : m < S.nm) (f : Fr (swA w S.nm S.ns + 2 + 10 * m) (swA w S.nm S.ns + 7 + 10 * m) φ φ') (hu : CUw Γ φ' (swA w S.nm S.ns + 2 + 10 * m) (l.filter (isM m))) (ho : ∀ m', m' ≠ m → l.filter (isM m') = S.uw.filter (isM m')) : CSw Γ φ' w (S.w_uw l) := by
  have eA : swA w S.nm S.ns = w + 24 + 20 * S.nm + 20 * S.ns := rfl
  have eB : swB w S.nm S.ns = w + 26 + 30 * S.nm + 20 * S.ns := rfl
  exact ⟨(h.lay.up (f.r (by omega)) (f.r (by omega)) (f.r (by omega)) (f.r (by omega)) (f.r (by omega))), (by have e := f.i (a := w) (by omega); rw [e]; exact ⟨h.ob.nm, h.ob.ns, h.ob.lim, h.ob.pol, h.ob.whole, h.ob.db, h.ob.mv⟩), (fun p hp => (congrFun (f.i (a := w + 1) (by omega)) p).trans (h.pg p hp)), (fun i hi => (h.row i hi).sm (f.sm (by have := rA_in (w := w) h.lay.nm4.2 (show okR S.nm S.ns i from hi); omega))), (fun m' hm' => by
      show CUw Γ φ' (swA w S.nm S.ns + 2 + 10 * m') (l.filter (isM m'))
      by_cases e : m' = m
      · subst e; exact hu
      · rw [ho m' e]; exact (h.uw m' hm').sm (f.sm (by omega))), (fun m hm => (h.ur m hm).sm (f.sm (by have hm2 : m < S.nm := hm; omega))), (fun t ht => (congrFun (f.i (a := swB w S.nm S.ns) (by omega)) t).trans (h.la t ht)), (fun t ht => (congrFun (f.i (a := swB w S.nm S.ns + 1) (by omega)) t).trans (h.lr t ht)), (fun t ht => (congrFun (f.i (a := swB w S.nm S.ns + 2) (by omega)) t).trans (h.lb t ht)), (fun t ht => (congrFun (f.i (a := swB w S.nm S.ns + 3) (by omega)) t).trans (h.lg t ht)), (fun t ht => (congrFun (f.i (a := swB w S.nm S.ns + 4) (by omega)) t).trans (h.inb t ht))⟩
theorem CSw.urU {Γ : gm_T} {φ φ' : ph_T} {w m : Nat} {S : XS} {l : List UE} (h : CSw Γ φ w S) (hm : m < S.nm) (f : Fr (swA w S.nm S.ns + 7 + 10 * m) (swA w S.nm S.ns + 12 + 10 * m) φ φ') (hu : CUw Γ φ' (swA w S.nm S.ns + 7 + 10 * m) (l.filter (isM m))) (ho : ∀ m', m' ≠ m → l.filter (isM m') = S.ur.filter (isM m')) : CSw Γ φ' w (S.w_ur l) := by
  have eA : swA w S.nm S.ns = w + 24 + 20 * S.nm + 20 * S.ns := rfl
  have eB : swB w S.nm S.ns = w + 26 + 30 * S.nm + 20 * S.ns := rfl
  exact ⟨(h.lay.up (f.r (by omega)) (f.r (by omega)) (f.r (by omega)) (f.r (by omega)) (f.r (by omega))), (by have e := f.i (a := w) (by omega); rw [e]; exact ⟨h.ob.nm, h.ob.ns, h.ob.lim, h.ob.pol, h.ob.whole, h.ob.db, h.ob.mv⟩), (fun p hp => (congrFun (f.i (a := w + 1) (by omega)) p).trans (h.pg p hp)), (fun i hi => (h.row i hi).sm (f.sm (by have := rA_in (w := w) h.lay.nm4.2 (show okR S.nm S.ns i from hi); omega))), (fun m hm => (h.uw m hm).sm (f.sm (by have hm2 : m < S.nm := hm; omega))), (fun m' hm' => by
      show CUw Γ φ' (swA w S.nm S.ns + 7 + 10 * m') (l.filter (isM m'))
      by_cases e : m' = m
      · subst e; exact hu
      · rw [ho m' e]; exact (h.ur m' hm').sm (f.sm (by omega))), (fun t ht => (congrFun (f.i (a := swB w S.nm S.ns) (by omega)) t).trans (h.la t ht)), (fun t ht => (congrFun (f.i (a := swB w S.nm S.ns + 1) (by omega)) t).trans (h.lr t ht)), (fun t ht => (congrFun (f.i (a := swB w S.nm S.ns + 2) (by omega)) t).trans (h.lb t ht)), (fun t ht => (congrFun (f.i (a := swB w S.nm S.ns + 3) (by omega)) t).trans (h.lg t ht)), (fun t ht => (congrFun (f.i (a := swB w S.nm S.ns + 4) (by omega)) t).trans (h.inb t ht))⟩
theorem CSw.mvU {Γ : gm_T} {φ : ph_T} {w : Nat} {S : XS} (h : CSw Γ φ w S) (v : Nat) : CSw Γ (uI φ w 16 (nI v)) w (S.w_moved v) ∧ Fr w (w + 1) φ (uI φ w 16 (nI v)) := by
  have eA : swA w S.nm S.ns = w + 24 + 20 * S.nm + 20 * S.ns := rfl
  have eB : swB w S.nm S.ns = w + 26 + 30 * S.nm + 20 * S.ns := rfl
  have f : Fr w (w + 1) φ (uI φ w 16 (nI v)) := fr_uI (Fr.refl _ _ _) (by omega) _ _
  refine ⟨?_, f⟩
  exact ⟨(h.lay.up rfl rfl rfl rfl rfl), (by
      rw [uI_s]
      exact ⟨h.ob.nm, h.ob.ns, h.ob.lim, h.ob.pol, h.ob.whole, h.ob.db, vz_same _ _ _⟩), (fun p hp => (congrFun (f.i (a := w + 1) (by omega)) p).trans (h.pg p hp)), (fun i hi => (h.row i hi).sm (f.sm (by have := rA_in (w := w) h.lay.nm4.2 (show okR S.nm S.ns i from hi); omega))), (fun m hm => (h.uw m hm).sm (f.sm (by have hm2 : m < S.nm := hm; omega))), (fun m hm => (h.ur m hm).sm (f.sm (by have hm2 : m < S.nm := hm; omega))), (fun t ht => (congrFun (f.i (a := swB w S.nm S.ns) (by omega)) t).trans (h.la t ht)), (fun t ht => (congrFun (f.i (a := swB w S.nm S.ns + 1) (by omega)) t).trans (h.lr t ht)), (fun t ht => (congrFun (f.i (a := swB w S.nm S.ns + 2) (by omega)) t).trans (h.lb t ht)), (fun t ht => (congrFun (f.i (a := swB w S.nm S.ns + 3) (by omega)) t).trans (h.lg t ht)), (fun t ht => (congrFun (f.i (a := swB w S.nm S.ns + 4) (by omega)) t).trans (h.inb t ht))⟩
theorem CSw.dbU {Γ : gm_T} {φ : ph_T} {w : Nat} {S : XS} (h : CSw Γ φ w S) (v : Nat) : CSw Γ (uI φ w 15 (nI v)) w (S.w_dbeat v) ∧ Fr w (w + 1) φ (uI φ w 15 (nI v)) := by
  have eA : swA w S.nm S.ns = w + 24 + 20 * S.nm + 20 * S.ns := rfl
  have eB : swB w S.nm S.ns = w + 26 + 30 * S.nm + 20 * S.ns := rfl
  have f : Fr w (w + 1) φ (uI φ w 15 (nI v)) := fr_uI (Fr.refl _ _ _) (by omega) _ _
  refine ⟨?_, f⟩
  exact ⟨(h.lay.up rfl rfl rfl rfl rfl), (by
      rw [uI_s]
      exact ⟨h.ob.nm, h.ob.ns, h.ob.lim, h.ob.pol, h.ob.whole, vz_same _ _ _, h.ob.mv⟩), (fun p hp => (congrFun (f.i (a := w + 1) (by omega)) p).trans (h.pg p hp)), (fun i hi => (h.row i hi).sm (f.sm (by have := rA_in (w := w) h.lay.nm4.2 (show okR S.nm S.ns i from hi); omega))), (fun m hm => (h.uw m hm).sm (f.sm (by have hm2 : m < S.nm := hm; omega))), (fun m hm => (h.ur m hm).sm (f.sm (by have hm2 : m < S.nm := hm; omega))), (fun t ht => (congrFun (f.i (a := swB w S.nm S.ns) (by omega)) t).trans (h.la t ht)), (fun t ht => (congrFun (f.i (a := swB w S.nm S.ns + 1) (by omega)) t).trans (h.lr t ht)), (fun t ht => (congrFun (f.i (a := swB w S.nm S.ns + 2) (by omega)) t).trans (h.lb t ht)), (fun t ht => (congrFun (f.i (a := swB w S.nm S.ns + 3) (by omega)) t).trans (h.lg t ht)), (fun t ht => (congrFun (f.i (a := swB w S.nm S.ns + 4) (by omega)) t).trans (h.inb t ht))⟩
theorem oI_va {f : Nat → Option Nat} {g : aI} {n k v : Nat} (h : ∀ t, t < n → g t = oI (f t) m1) : ∀ t, t < n → va_up g k (nI v) t = oI (va_up f k (some v) t) m1 := by
  intro t ht
  rw [vz_at, vz_at]
  by_cases e : t = k
  · rw [if_pos e, if_pos e]; rfl
  · rw [if_neg e, if_neg e]; exact h t ht
theorem CSw.laU {Γ : gm_T} {φ : ph_T} {w : Nat} {S : XS} (h : CSw Γ φ w S) (t m : Nat) : CSw Γ (uI φ (swB w S.nm S.ns) t (nI m)) w (S.w_la (va_up S.la t (some m))) ∧ Fr (swB w S.nm S.ns) (swB w S.nm S.ns + 1) φ (uI φ (swB w S.nm S.ns) t (nI m)) := by
  have eA : swA w S.nm S.ns = w + 24 + 20 * S.nm + 20 * S.ns := rfl
  have eB : swB w S.nm S.ns = w + 26 + 30 * S.nm + 20 * S.ns := rfl
  have f : Fr (swB w S.nm S.ns) (swB w S.nm S.ns + 1) φ (uI φ (swB w S.nm S.ns) t (nI m)) := fr_uI (Fr.refl _ _ _) (by omega) _ _
  refine ⟨?_, f⟩
  exact ⟨(h.lay.up (f.r (by omega)) (f.r (by omega)) (f.r (by omega)) (f.r (by omega)) (f.r (by omega))), (by have e := f.i (a := w) (by omega); rw [e]; exact ⟨h.ob.nm, h.ob.ns, h.ob.lim, h.ob.pol, h.ob.whole, h.ob.db, h.ob.mv⟩), (fun p hp => (congrFun (f.i (a := w + 1) (by omega)) p).trans (h.pg p hp)), (fun i hi => (h.row i hi).sm (f.sm (by have := rA_in (w := w) h.lay.nm4.2 (show okR S.nm S.ns i from hi); omega))), (fun m hm => (h.uw m hm).sm (f.sm (by have hm2 : m < S.nm := hm; omega))), (fun m hm => (h.ur m hm).sm (f.sm (by have hm2 : m < S.nm := hm; omega))), (fun t' ht' => by rw [show (S.w_la (va_up S.la t (some m))).nm = S.nm from rfl, show (S.w_la (va_up S.la t (some m))).ns = S.ns from rfl, uI_s]; exact oI_va h.la t' ht'), (fun t ht => (congrFun (f.i (a := swB w S.nm S.ns + 1) (by omega)) t).trans (h.lr t ht)), (fun t ht => (congrFun (f.i (a := swB w S.nm S.ns + 2) (by omega)) t).trans (h.lb t ht)), (fun t ht => (congrFun (f.i (a := swB w S.nm S.ns + 3) (by omega)) t).trans (h.lg t ht)), (fun t ht => (congrFun (f.i (a := swB w S.nm S.ns + 4) (by omega)) t).trans (h.inb t ht))⟩
theorem CSw.lrU {Γ : gm_T} {φ : ph_T} {w : Nat} {S : XS} (h : CSw Γ φ w S) (t m : Nat) : CSw Γ (uI φ (swB w S.nm S.ns + 1) t (nI m)) w (S.w_lr (va_up S.lr t (some m))) ∧ Fr (swB w S.nm S.ns + 1) (swB w S.nm S.ns + 2) φ (uI φ (swB w S.nm S.ns + 1) t (nI m)) := by
  have eA : swA w S.nm S.ns = w + 24 + 20 * S.nm + 20 * S.ns := rfl
  have eB : swB w S.nm S.ns = w + 26 + 30 * S.nm + 20 * S.ns := rfl
  have f : Fr (swB w S.nm S.ns + 1) (swB w S.nm S.ns + 2) φ (uI φ (swB w S.nm S.ns + 1) t (nI m)) := fr_uI (Fr.refl _ _ _) (by omega) _ _
  refine ⟨?_, f⟩
  exact ⟨(h.lay.up (f.r (by omega)) (f.r (by omega)) (f.r (by omega)) (f.r (by omega)) (f.r (by omega))), (by have e := f.i (a := w) (by omega); rw [e]; exact ⟨h.ob.nm, h.ob.ns, h.ob.lim, h.ob.pol, h.ob.whole, h.ob.db, h.ob.mv⟩), (fun p hp => (congrFun (f.i (a := w + 1) (by omega)) p).trans (h.pg p hp)), (fun i hi => (h.row i hi).sm (f.sm (by have := rA_in (w := w) h.lay.nm4.2 (show okR S.nm S.ns i from hi); omega))), (fun m hm => (h.uw m hm).sm (f.sm (by have hm2 : m < S.nm := hm; omega))), (fun m hm => (h.ur m hm).sm (f.sm (by have hm2 : m < S.nm := hm; omega))), (fun t ht => (congrFun (f.i (a := swB w S.nm S.ns) (by omega)) t).trans (h.la t ht)), (fun t' ht' => by rw [show (S.w_lr (va_up S.lr t (some m))).nm = S.nm from rfl, show (S.w_lr (va_up S.lr t (some m))).ns = S.ns from rfl, uI_s]; exact oI_va h.lr t' ht'), (fun t ht => (congrFun (f.i (a := swB w S.nm S.ns + 2) (by omega)) t).trans (h.lb t ht)), (fun t ht => (congrFun (f.i (a := swB w S.nm S.ns + 3) (by omega)) t).trans (h.lg t ht)), (fun t ht => (congrFun (f.i (a := swB w S.nm S.ns + 4) (by omega)) t).trans (h.inb t ht))⟩
theorem CSw.lbU {Γ : gm_T} {φ : ph_T} {w : Nat} {S : XS} (h : CSw Γ φ w S) (t m : Nat) : CSw Γ (uI φ (swB w S.nm S.ns + 2) t (nI m)) w (S.w_lb (va_up S.lb t (some m))) ∧ Fr (swB w S.nm S.ns + 2) (swB w S.nm S.ns + 3) φ (uI φ (swB w S.nm S.ns + 2) t (nI m)) := by
  have eA : swA w S.nm S.ns = w + 24 + 20 * S.nm + 20 * S.ns := rfl
  have eB : swB w S.nm S.ns = w + 26 + 30 * S.nm + 20 * S.ns := rfl
  have f : Fr (swB w S.nm S.ns + 2) (swB w S.nm S.ns + 3) φ (uI φ (swB w S.nm S.ns + 2) t (nI m)) := fr_uI (Fr.refl _ _ _) (by omega) _ _
  refine ⟨?_, f⟩
  exact ⟨(h.lay.up (f.r (by omega)) (f.r (by omega)) (f.r (by omega)) (f.r (by omega)) (f.r (by omega))), (by have e := f.i (a := w) (by omega); rw [e]; exact ⟨h.ob.nm, h.ob.ns, h.ob.lim, h.ob.pol, h.ob.whole, h.ob.db, h.ob.mv⟩), (fun p hp => (congrFun (f.i (a := w + 1) (by omega)) p).trans (h.pg p hp)), (fun i hi => (h.row i hi).sm (f.sm (by have := rA_in (w := w) h.lay.nm4.2 (show okR S.nm S.ns i from hi); omega))), (fun m hm => (h.uw m hm).sm (f.sm (by have hm2 : m < S.nm := hm; omega))), (fun m hm => (h.ur m hm).sm (f.sm (by have hm2 : m < S.nm := hm; omega))), (fun t ht => (congrFun (f.i (a := swB w S.nm S.ns) (by omega)) t).trans (h.la t ht)), (fun t ht => (congrFun (f.i (a := swB w S.nm S.ns + 1) (by omega)) t).trans (h.lr t ht)), (fun t' ht' => by rw [show (S.w_lb (va_up S.lb t (some m))).nm = S.nm from rfl, show (S.w_lb (va_up S.lb t (some m))).ns = S.ns from rfl, uI_s]; exact oI_va h.lb t' ht'), (fun t ht => (congrFun (f.i (a := swB w S.nm S.ns + 3) (by omega)) t).trans (h.lg t ht)), (fun t ht => (congrFun (f.i (a := swB w S.nm S.ns + 4) (by omega)) t).trans (h.inb t ht))⟩
theorem CSw.lgU {Γ : gm_T} {φ : ph_T} {w : Nat} {S : XS} (h : CSw Γ φ w S) (t m : Nat) : CSw Γ (uI φ (swB w S.nm S.ns + 3) t (nI m)) w (S.w_lg (va_up S.lg t (some m))) ∧ Fr (swB w S.nm S.ns + 3) (swB w S.nm S.ns + 4) φ (uI φ (swB w S.nm S.ns + 3) t (nI m)) := by
  have eA : swA w S.nm S.ns = w + 24 + 20 * S.nm + 20 * S.ns := rfl
  have eB : swB w S.nm S.ns = w + 26 + 30 * S.nm + 20 * S.ns := rfl
  have f : Fr (swB w S.nm S.ns + 3) (swB w S.nm S.ns + 4) φ (uI φ (swB w S.nm S.ns + 3) t (nI m)) := fr_uI (Fr.refl _ _ _) (by omega) _ _
  refine ⟨?_, f⟩
  exact ⟨(h.lay.up (f.r (by omega)) (f.r (by omega)) (f.r (by omega)) (f.r (by omega)) (f.r (by omega))), (by have e := f.i (a := w) (by omega); rw [e]; exact ⟨h.ob.nm, h.ob.ns, h.ob.lim, h.ob.pol, h.ob.whole, h.ob.db, h.ob.mv⟩), (fun p hp => (congrFun (f.i (a := w + 1) (by omega)) p).trans (h.pg p hp)), (fun i hi => (h.row i hi).sm (f.sm (by have := rA_in (w := w) h.lay.nm4.2 (show okR S.nm S.ns i from hi); omega))), (fun m hm => (h.uw m hm).sm (f.sm (by have hm2 : m < S.nm := hm; omega))), (fun m hm => (h.ur m hm).sm (f.sm (by have hm2 : m < S.nm := hm; omega))), (fun t ht => (congrFun (f.i (a := swB w S.nm S.ns) (by omega)) t).trans (h.la t ht)), (fun t ht => (congrFun (f.i (a := swB w S.nm S.ns + 1) (by omega)) t).trans (h.lr t ht)), (fun t ht => (congrFun (f.i (a := swB w S.nm S.ns + 2) (by omega)) t).trans (h.lb t ht)), (fun t' ht' => by rw [show (S.w_lg (va_up S.lg t (some m))).nm = S.nm from rfl, show (S.w_lg (va_up S.lg t (some m))).ns = S.ns from rfl, uI_s]; exact oI_va h.lg t' ht'), (fun t ht => (congrFun (f.i (a := swB w S.nm S.ns + 4) (by omega)) t).trans (h.inb t ht))⟩
theorem CSw.inU {Γ : gm_T} {φ : ph_T} {w : Nat} {S : XS} (h : CSw Γ φ w S) (t : Nat) (b : Bool) : CSw Γ (uI φ (swB w S.nm S.ns + 4) t (bI b)) w (S.w_inb (va_up S.inb t b)) ∧ Fr (swB w S.nm S.ns + 4) (swB w S.nm S.ns + 5) φ (uI φ (swB w S.nm S.ns + 4) t (bI b)) := by
  have eA : swA w S.nm S.ns = w + 24 + 20 * S.nm + 20 * S.ns := rfl
  have eB : swB w S.nm S.ns = w + 26 + 30 * S.nm + 20 * S.ns := rfl
  have f : Fr (swB w S.nm S.ns + 4) (swB w S.nm S.ns + 5) φ (uI φ (swB w S.nm S.ns + 4) t (bI b)) := fr_uI (Fr.refl _ _ _) (by omega) _ _
  refine ⟨?_, f⟩
  exact ⟨(h.lay.up (f.r (by omega)) (f.r (by omega)) (f.r (by omega)) (f.r (by omega)) (f.r (by omega))), (by have e := f.i (a := w) (by omega); rw [e]; exact ⟨h.ob.nm, h.ob.ns, h.ob.lim, h.ob.pol, h.ob.whole, h.ob.db, h.ob.mv⟩), (fun p hp => (congrFun (f.i (a := w + 1) (by omega)) p).trans (h.pg p hp)), (fun i hi => (h.row i hi).sm (f.sm (by have := rA_in (w := w) h.lay.nm4.2 (show okR S.nm S.ns i from hi); omega))), (fun m hm => (h.uw m hm).sm (f.sm (by have hm2 : m < S.nm := hm; omega))), (fun m hm => (h.ur m hm).sm (f.sm (by have hm2 : m < S.nm := hm; omega))), (fun t ht => (congrFun (f.i (a := swB w S.nm S.ns) (by omega)) t).trans (h.la t ht)), (fun t ht => (congrFun (f.i (a := swB w S.nm S.ns + 1) (by omega)) t).trans (h.lr t ht)), (fun t ht => (congrFun (f.i (a := swB w S.nm S.ns + 2) (by omega)) t).trans (h.lb t ht)), (fun t ht => (congrFun (f.i (a := swB w S.nm S.ns + 3) (by omega)) t).trans (h.lg t ht)), (fun t' ht' => by
      rw [show (S.w_inb (va_up S.inb t b)).nm = S.nm from rfl, show (S.w_inb (va_up S.inb t b)).ns = S.ns from rfl, uI_s, show (S.w_inb (va_up S.inb t b)).inb = va_up S.inb t b from rfl, vz_at, vz_at]
      by_cases e : t' = t
      · rw [if_pos e, if_pos e]
      · rw [if_neg e, if_neg e]; exact h.inb t' ht')⟩
