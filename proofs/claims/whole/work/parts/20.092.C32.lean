/-! THE CLASS: the whole object -/
def bQ (b nm ns : Nat) : Nat := b + 35 + 30 * nm + 20 * ns
def mAd (b nm ns m : Nat) : Nat := bQ b nm ns + 2 + 115 * m
def sAd (b nm ns s : Nat) : Nat := bQ b nm ns + 4 + 115 * nm + 143 * s
def rAd (b nm ns : Nat) : Nat := bQ b nm ns + 4 + 115 * nm + 143 * ns
def tAd (b nm ns : Nat) : Nat := rAd b nm ns + 224
def pAd (b nm ns p : Nat) : Nat := if p < 4 then mAd b nm ns p + 4 else if p < 8 then sAd b nm ns (p - 4) + 32 else rAd b nm ns + 1 + 111 * (p - 8)
def okP (nm ns p : Nat) : Prop := p < nm ∨ (4 ≤ p ∧ p < 4 + ns) ∨ p = 8 ∨ p = 9
theorem pA_p {b nm ns p q : Nat} (h4 : nm ≤ 4) (h5 : ns ≤ 4) (hp : okP nm ns p) (hq : okP nm ns q) (hne : p ≠ q) : pAd b nm ns p + 111 ≤ pAd b nm ns q ∨ pAd b nm ns q + 111 ≤ pAd b nm ns p := by
  unfold okP at hp hq
  unfold pAd mAd sAd rAd
  repeat' split
  all_goals omega
theorem pA_m {b nm ns p m : Nat} (h4 : nm ≤ 4) (h5 : ns ≤ 4) (hp : okP nm ns p) (hm : m < nm) : pAd b nm ns p + 111 ≤ mAd b nm ns m ∨ mAd b nm ns m + 4 ≤ pAd b nm ns p := by
  unfold okP at hp
  unfold pAd mAd sAd rAd
  repeat' split
  all_goals omega
theorem pA_s {b nm ns p s : Nat} (h4 : nm ≤ 4) (h5 : ns ≤ 4) (hp : okP nm ns p) (hs : s < ns) : pAd b nm ns p + 111 ≤ sAd b nm ns s ∨ sAd b nm ns s + 32 ≤ pAd b nm ns p := by
  unfold okP at hp
  unfold pAd mAd sAd rAd
  repeat' split
  all_goals omega
theorem pA_in {b nm ns p : Nat} (h4 : nm ≤ 4) (h5 : ns ≤ 4) (hp : okP nm ns p) : bQ b nm ns + 2 ≤ pAd b nm ns p ∧ pAd b nm ns p + 111 ≤ tAd b nm ns - 1 ∧ (pAd b nm ns p + 111 ≤ sAd b nm ns 0 - 2 ∨ (sAd b nm ns 0 ≤ pAd b nm ns p ∧ pAd b nm ns p + 111 ≤ rAd b nm ns) ∨ rAd b nm ns + 1 ≤ pAd b nm ns p) := by
  unfold okP at hp
  unfold pAd mAd sAd rAd tAd rAd
  repeat' split
  all_goals omega
theorem mA_s {b nm ns m s : Nat} (hm : m < nm) (hs : s < ns) : mAd b nm ns m + 115 ≤ sAd b nm ns s := by unfold mAd sAd; omega
theorem mA_in {b nm ns m : Nat} (hm : m < nm) : bQ b nm ns + 2 ≤ mAd b nm ns m ∧ mAd b nm ns m + 115 ≤ sAd b nm ns 0 - 2 := by unfold mAd sAd; omega
theorem sA_in {b nm ns s : Nat} (hs : s < ns) : sAd b nm ns 0 ≤ sAd b nm ns s ∧ sAd b nm ns s + 143 ≤ rAd b nm ns := by unfold sAd rAd; omega
theorem sA_0 (b nm ns : Nat) : sAd b nm ns 0 = bQ b nm ns + 4 + 115 * nm := by unfold sAd; omega
theorem rA_0 (b nm ns : Nat) : sAd b nm ns 0 ≤ rAd b nm ns ∧ tAd b nm ns = rAd b nm ns + 224 := ⟨by unfold sAd rAd; omega, rfl⟩
theorem bQ_0 (b nm ns : Nat) : b + 4 + swZ nm ns = bQ b nm ns := by unfold swZ bQ; omega
/-- the object's own cells -/
def BuL (Γ : gm_T) (φ : ph_T) (b nm ns : Nat) : Prop := (Γ b = .inr 11) ∧ (1 ≤ nm ∧ nm ≤ 4) ∧ (1 ≤ ns ∧ ns ≤ 4) ∧ (φ.2.2 b 0 = some (b + 1)) ∧ (φ.2.2 b 1 = some (b + 4)) ∧ (φ.2.2 b 2 = some (bQ b nm ns)) ∧ (φ.2.2 b 3 = some (sAd b nm ns 0 - 2)) ∧ (φ.2.2 b 4 = some (bQ b nm ns + 1)) ∧ (φ.2.2 b 5 = some (sAd b nm ns 0 - 1)) ∧ (φ.2.2 b 6 = some (rAd b nm ns)) ∧ (φ.2.2 b 7 = some (tAd b nm ns - 1)) ∧ (gA Γ (bQ b nm ns) 8 = some nm) ∧ (gA Γ (sAd b nm ns 0 - 2) 9 = some ns) ∧ (gA Γ (bQ b nm ns + 1) 7 = some nm) ∧ (gA Γ (sAd b nm ns 0 - 1) 7 = some ns) ∧ (gA Γ (rAd b nm ns) 7 = some 2) ∧ (gA Γ (tAd b nm ns - 1) 6 = some 64) ∧ (∀ m, m < nm → φ.2.2 (bQ b nm ns) m = some (mAd b nm ns m)) ∧ (∀ m, m < nm → φ.2.2 (bQ b nm ns + 1) m = some (pAd b nm ns m)) ∧ (∀ s, s < ns → φ.2.2 (sAd b nm ns 0 - 2) s = some (sAd b nm ns s)) ∧ (∀ s, s < ns → φ.2.2 (sAd b nm ns 0 - 1) s = some (pAd b nm ns (4 + s))) ∧ (∀ i, i < 2 → φ.2.2 (rAd b nm ns) i = some (pAd b nm ns (8 + i))) ∧ (∀ t, t < 64 → φ.2.2 (tAd b nm ns - 1) t = some (tAd b nm ns + 4 * t))
theorem BuL.o {Γ : gm_T} {φ : ph_T} {b nm ns : Nat} (h : BuL Γ φ b nm ns) : Γ b = .inr 11 := h.1
theorem BuL.nm4 {Γ : gm_T} {φ : ph_T} {b nm ns : Nat} (h : BuL Γ φ b nm ns) : 1 ≤ nm ∧ nm ≤ 4 := h.2.1
theorem BuL.ns4 {Γ : gm_T} {φ : ph_T} {b nm ns : Nat} (h : BuL Γ φ b nm ns) : 1 ≤ ns ∧ ns ≤ 4 := h.2.2.1
theorem BuL.f0 {Γ : gm_T} {φ : ph_T} {b nm ns : Nat} (h : BuL Γ φ b nm ns) : φ.2.2 b 0 = some (b + 1) := h.2.2.2.1
theorem BuL.f1 {Γ : gm_T} {φ : ph_T} {b nm ns : Nat} (h : BuL Γ φ b nm ns) : φ.2.2 b 1 = some (b + 4) := h.2.2.2.2.1
theorem BuL.f2 {Γ : gm_T} {φ : ph_T} {b nm ns : Nat} (h : BuL Γ φ b nm ns) : φ.2.2 b 2 = some (bQ b nm ns) := h.2.2.2.2.2.1
theorem BuL.f3 {Γ : gm_T} {φ : ph_T} {b nm ns : Nat} (h : BuL Γ φ b nm ns) : φ.2.2 b 3 = some (sAd b nm ns 0 - 2) := h.2.2.2.2.2.2.1
theorem BuL.f4 {Γ : gm_T} {φ : ph_T} {b nm ns : Nat} (h : BuL Γ φ b nm ns) : φ.2.2 b 4 = some (bQ b nm ns + 1) := h.2.2.2.2.2.2.2.1
theorem BuL.f5 {Γ : gm_T} {φ : ph_T} {b nm ns : Nat} (h : BuL Γ φ b nm ns) : φ.2.2 b 5 = some (sAd b nm ns 0 - 1) := h.2.2.2.2.2.2.2.2.1
theorem BuL.f6 {Γ : gm_T} {φ : ph_T} {b nm ns : Nat} (h : BuL Γ φ b nm ns) : φ.2.2 b 6 = some (rAd b nm ns) := h.2.2.2.2.2.2.2.2.2.1
theorem BuL.f7 {Γ : gm_T} {φ : ph_T} {b nm ns : Nat} (h : BuL Γ φ b nm ns) : φ.2.2 b 7 = some (tAd b nm ns - 1) := h.2.2.2.2.2.2.2.2.2.2.1
theorem BuL.g2 {Γ : gm_T} {φ : ph_T} {b nm ns : Nat} (h : BuL Γ φ b nm ns) : gA Γ (bQ b nm ns) 8 = some nm := h.2.2.2.2.2.2.2.2.2.2.2.1
theorem BuL.g3 {Γ : gm_T} {φ : ph_T} {b nm ns : Nat} (h : BuL Γ φ b nm ns) : gA Γ (sAd b nm ns 0 - 2) 9 = some ns := h.2.2.2.2.2.2.2.2.2.2.2.2.1
theorem BuL.g4 {Γ : gm_T} {φ : ph_T} {b nm ns : Nat} (h : BuL Γ φ b nm ns) : gA Γ (bQ b nm ns + 1) 7 = some nm := h.2.2.2.2.2.2.2.2.2.2.2.2.2.1
theorem BuL.g5 {Γ : gm_T} {φ : ph_T} {b nm ns : Nat} (h : BuL Γ φ b nm ns) : gA Γ (sAd b nm ns 0 - 1) 7 = some ns := h.2.2.2.2.2.2.2.2.2.2.2.2.2.2.1
theorem BuL.g6 {Γ : gm_T} {φ : ph_T} {b nm ns : Nat} (h : BuL Γ φ b nm ns) : gA Γ (rAd b nm ns) 7 = some 2 := h.2.2.2.2.2.2.2.2.2.2.2.2.2.2.2.1
theorem BuL.g7 {Γ : gm_T} {φ : ph_T} {b nm ns : Nat} (h : BuL Γ φ b nm ns) : gA Γ (tAd b nm ns - 1) 6 = some 64 := h.2.2.2.2.2.2.2.2.2.2.2.2.2.2.2.2.1
theorem BuL.ma {Γ : gm_T} {φ : ph_T} {b nm ns : Nat} (h : BuL Γ φ b nm ns) : ∀ m, m < nm → φ.2.2 (bQ b nm ns) m = some (mAd b nm ns m) := h.2.2.2.2.2.2.2.2.2.2.2.2.2.2.2.2.2.1
theorem BuL.mp {Γ : gm_T} {φ : ph_T} {b nm ns : Nat} (h : BuL Γ φ b nm ns) : ∀ m, m < nm → φ.2.2 (bQ b nm ns + 1) m = some (pAd b nm ns m) := h.2.2.2.2.2.2.2.2.2.2.2.2.2.2.2.2.2.2.1
theorem BuL.sl {Γ : gm_T} {φ : ph_T} {b nm ns : Nat} (h : BuL Γ φ b nm ns) : ∀ s, s < ns → φ.2.2 (sAd b nm ns 0 - 2) s = some (sAd b nm ns s) := h.2.2.2.2.2.2.2.2.2.2.2.2.2.2.2.2.2.2.2.1
theorem BuL.sp {Γ : gm_T} {φ : ph_T} {b nm ns : Nat} (h : BuL Γ φ b nm ns) : ∀ s, s < ns → φ.2.2 (sAd b nm ns 0 - 1) s = some (pAd b nm ns (4 + s)) := h.2.2.2.2.2.2.2.2.2.2.2.2.2.2.2.2.2.2.2.2.1
theorem BuL.wp {Γ : gm_T} {φ : ph_T} {b nm ns : Nat} (h : BuL Γ φ b nm ns) : ∀ i, i < 2 → φ.2.2 (rAd b nm ns) i = some (pAd b nm ns (8 + i)) := h.2.2.2.2.2.2.2.2.2.2.2.2.2.2.2.2.2.2.2.2.2.1
theorem BuL.tk {Γ : gm_T} {φ : ph_T} {b nm ns : Nat} (h : BuL Γ φ b nm ns) : ∀ t, t < 64 → φ.2.2 (tAd b nm ns - 1) t = some (tAd b nm ns + 4 * t) := h.2.2.2.2.2.2.2.2.2.2.2.2.2.2.2.2.2.2.2.2.2.2
theorem BuL.up {Γ : gm_T} {φ φ' : ph_T} {b nm ns : Nat} (h : BuL Γ φ b nm ns) (e0 : φ'.2.2 b = φ.2.2 b) (e1 : φ'.2.2 (bQ b nm ns) = φ.2.2 (bQ b nm ns)) (e2 : φ'.2.2 (bQ b nm ns + 1) = φ.2.2 (bQ b nm ns + 1)) (e3 : φ'.2.2 (sAd b nm ns 0 - 2) = φ.2.2 (sAd b nm ns 0 - 2)) (e4 : φ'.2.2 (sAd b nm ns 0 - 1) = φ.2.2 (sAd b nm ns 0 - 1)) (e5 : φ'.2.2 (rAd b nm ns) = φ.2.2 (rAd b nm ns)) (e6 : φ'.2.2 (tAd b nm ns - 1) = φ.2.2 (tAd b nm ns - 1)) : BuL Γ φ' b nm ns :=
  ⟨h.o, h.nm4, h.ns4, by rw [e0]; exact h.f0, by rw [e0]; exact h.f1, by rw [e0]; exact h.f2, by rw [e0]; exact h.f3, by rw [e0]; exact h.f4, by rw [e0]; exact h.f5, by rw [e0]; exact h.f6, by rw [e0]; exact h.f7, h.g2, h.g3, h.g4, h.g5, h.g6, h.g7, by rw [e1]; exact h.ma, by rw [e2]; exact h.mp, by rw [e3]; exact h.sl, by rw [e4]; exact h.sp, by rw [e5]; exact h.wp, by rw [e6]; exact h.tk⟩
def CV (Γ : gm_T) (φ : ph_T) (b : Nat) (S : XS) : Prop := (BuL Γ φ b S.nm S.ns) ∧ (φ.1 b 8 = nI S.tk.length) ∧ (φ.1 b 9 = nI S.time) ∧ (CMem Γ φ (b + 1) S.mem S.spo) ∧ (CSw Γ φ (b + 4) S) ∧ (∀ m, m < S.nm → CMa Γ φ (mAd b S.nm S.ns m) (tAd b S.nm S.ns) S.tk m (S.mpat m) (S.early m)) ∧ (CTk Γ φ (tAd b S.nm S.ns) S.tk) ∧ (TkO S.tk) ∧ (∀ p, okP S.nm S.ns p → ∃ hd, CPt Γ φ (pAd b S.nm S.ns p) (S.wi p) hd (S.tr p)) ∧ (∀ p, okP S.nm S.ns p → CMo Γ φ (pAd b S.nm S.ns p + 7) (S.mon p)) ∧ (∀ s, s < S.ns → CSl Γ φ (sAd b S.nm S.ns s) (b + 1) S s)
theorem CV.lay {Γ : gm_T} {φ : ph_T} {b : Nat} {S : XS} (h : CV Γ φ b S) : BuL Γ φ b S.nm S.ns := h.1
theorem CV.tc {Γ : gm_T} {φ : ph_T} {b : Nat} {S : XS} (h : CV Γ φ b S) : φ.1 b 8 = nI S.tk.length := h.2.1
theorem CV.ti {Γ : gm_T} {φ : ph_T} {b : Nat} {S : XS} (h : CV Γ φ b S) : φ.1 b 9 = nI S.time := h.2.2.1
theorem CV.mem {Γ : gm_T} {φ : ph_T} {b : Nat} {S : XS} (h : CV Γ φ b S) : CMem Γ φ (b + 1) S.mem S.spo := h.2.2.2.1
theorem CV.sw {Γ : gm_T} {φ : ph_T} {b : Nat} {S : XS} (h : CV Γ φ b S) : CSw Γ φ (b + 4) S := h.2.2.2.2.1
theorem CV.ma {Γ : gm_T} {φ : ph_T} {b : Nat} {S : XS} (h : CV Γ φ b S) : ∀ m, m < S.nm → CMa Γ φ (mAd b S.nm S.ns m) (tAd b S.nm S.ns) S.tk m (S.mpat m) (S.early m) := h.2.2.2.2.2.1
theorem CV.tk {Γ : gm_T} {φ : ph_T} {b : Nat} {S : XS} (h : CV Γ φ b S) : CTk Γ φ (tAd b S.nm S.ns) S.tk := h.2.2.2.2.2.2.1
theorem CV.tko {Γ : gm_T} {φ : ph_T} {b : Nat} {S : XS} (h : CV Γ φ b S) : TkO S.tk := h.2.2.2.2.2.2.2.1
theorem CV.po {Γ : gm_T} {φ : ph_T} {b : Nat} {S : XS} (h : CV Γ φ b S) : ∀ p, okP S.nm S.ns p → ∃ hd, CPt Γ φ (pAd b S.nm S.ns p) (S.wi p) hd (S.tr p) := h.2.2.2.2.2.2.2.2.1
theorem CV.mo {Γ : gm_T} {φ : ph_T} {b : Nat} {S : XS} (h : CV Γ φ b S) : ∀ p, okP S.nm S.ns p → CMo Γ φ (pAd b S.nm S.ns p + 7) (S.mon p) := h.2.2.2.2.2.2.2.2.2.1
theorem CV.sl {Γ : gm_T} {φ : ph_T} {b : Nat} {S : XS} (h : CV Γ φ b S) : ∀ s, s < S.ns → CSl Γ φ (sAd b S.nm S.ns s) (b + 1) S s := h.2.2.2.2.2.2.2.2.2.2
/-- the order of all regions -/
theorem CV.reg {Γ : gm_T} {φ : ph_T} {b : Nat} {S : XS} (h : CV Γ φ b S) : b + 4 + swZ S.nm S.ns = bQ b S.nm S.ns ∧ sAd b S.nm S.ns 0 = bQ b S.nm S.ns + 4 + 115 * S.nm ∧ sAd b S.nm S.ns 0 ≤ rAd b S.nm S.ns ∧ tAd b S.nm S.ns = rAd b S.nm S.ns + 224 := ⟨bQ_0 _ _ _, sA_0 _ _ _, (rA_0 _ _ _).1, rfl⟩
/-- a port has changed -/
theorem CV.port {Γ : gm_T} {φ φ' : ph_T} {b p : Nat} {S : XS} {x : WI} {hd : Nat → Bool} {tr : Nat → Int32} {o : MO} (h : CV Γ φ b S) (hp : okP S.nm S.ns p) (f : Fr (pAd b S.nm S.ns p) (pAd b S.nm S.ns p + 111) φ φ') (h1 : CPt Γ φ' (pAd b S.nm S.ns p) x hd tr) (h2 : CMo Γ φ' (pAd b S.nm S.ns p + 7) o) : CV Γ φ' b (((S.w_wi (va_up S.wi p x)).w_tr (va_up S.tr p tr)).w_mon (va_up S.mon p o)) := by
  obtain ⟨g1, g2, g3, g4⟩ := h.reg
  have n4 := h.lay.nm4
  have n5 := h.lay.ns4
  have pin := pA_in (b := b) n4.2 n5.2 hp
  refine ⟨h.lay.up (f.r (by omega)) (f.r (by omega)) (f.r (by omega)) (f.r (by omega)) (f.r (by omega)) (f.r (by omega)) (f.r (by omega)), ?_, ?_, ?_, ?_, ?_, ?_, h.tko, ?_, ?_, ?_⟩
  · rw [f.i (by omega)]; exact h.tc
  · rw [f.i (by omega)]; exact h.ti
  · exact h.mem.sm (f.sm (by omega))
  · have := h.sw.sm (f.sm (by omega))
    exact this.cg rfl rfl rfl rfl rfl rfl rfl rfl rfl rfl rfl rfl rfl rfl rfl rfl
  · intro m hm
    have := pA_m (b := b) n4.2 n5.2 hp (show m < S.nm from hm)
    exact (h.ma m hm).sm (f.sm (by show mAd b S.nm S.ns m + 4 ≤ _ ∨ _ ≤ mAd b S.nm S.ns m; omega))
  · exact h.tk.sm (f.sm (by show tAd b S.nm S.ns + 256 ≤ _ ∨ _ ≤ tAd b S.nm S.ns; omega))
  · intro q hq
    have hq' : okP S.nm S.ns q := hq
    show ∃ hd, CPt Γ φ' (pAd b S.nm S.ns q) (va_up S.wi p x q) hd (va_up S.tr p tr q)
    rw [vz_at, vz_at]
    by_cases e : q = p
    · subst e; rw [if_pos rfl, if_pos rfl]; exact ⟨hd, h1⟩
    · rw [if_neg e, if_neg e]
      obtain ⟨hd', h'⟩ := h.po q hq'
      have := pA_p (b := b) n4.2 n5.2 hp hq' (fun hh => e hh.symm)
      exact ⟨hd', h'.sm (f.sm (by omega))⟩
  · intro q hq
    have hq' : okP S.nm S.ns q := hq
    show CMo Γ φ' (pAd b S.nm S.ns q + 7) (va_up S.mon p o q)
    rw [vz_at]
    by_cases e : q = p
    · subst e; rw [if_pos rfl]; exact h2
    · rw [if_neg e]
      have := pA_p (b := b) n4.2 n5.2 hp hq' (fun hh => e hh.symm)
      exact (h.mo q hq').sm (f.sm (by omega))
  · intro s hs
    have := pA_s (b := b) n4.2 n5.2 hp (show s < S.ns from hs)
    have h3 := (h.sl s hs).sm (f.sm (by omega))
    exact h3.cg rfl rfl rfl rfl rfl rfl (fun i hi => hi) (fun i hi => hi) rfl
