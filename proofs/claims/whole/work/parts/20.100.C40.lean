/-! THE CLASS: a slave's transfer, the whole -/
/-- what the class needs of a slave's transfer besides -/
def PrC (S : XS) (s c : Nat) : Prop := (∀ i, S.chb s = some i → i < (S.sw s).length) ∧ (c = 2 → ((S.wi (4 + s)).w 2).c = 0)
theorem PrC.cb {S : XS} {s c : Nat} (h : PrC S s c) : ∀ i, S.chb s = some i → i < (S.sw s).length := h.1
theorem PrC.z {S : XS} {s c : Nat} (h : PrC S s c) : c = 2 → ((S.wi (4 + s)).w 2).c = 0 := h.2
def pSm (a am : Nat) (y : Nat) : Prop := (a ≤ y ∧ y < a + 32) ∨ (am ≤ y ∧ y < am + 3)
def XS.rw1 (S : XS) (s c : Nat) : XS := if c = 2 ∨ c = 4 then S.put (5 * (4 + s) + c) ⟨if c = 2 then 0 else ((S.wi (4 + s)).w c).c, ((S.wi (4 + s)).w c).r, S.time⟩ else S.drop (5 * (4 + s) + c)
theorem c_spass {Γ : gm_T} {φ : ph_T} {a am ap s c : Nat} {S : XS} {hd : Nat → Bool} {tr : Nat → Int32} (hma : am + 3 ≤ a ∨ a + 32 ≤ am) (h : CSl Γ φ a am S s) (hm : CMem Γ φ am S.mem S.spo) (hp : CPt Γ φ ap (S.wi (4 + s)) hd tr) (hB : Bd S) (hP : PrS S s c) (hC : PrC S s c) (hc : c < 5) :
    ∃ φ', f_Slave_pass Γ φ a (some ap) (nI c) (nI S.time) = some ((), φ') ∧ CSl Γ φ' a am (S.passS s c) s ∧ CMem Γ φ' am (S.passS s c).mem (S.passS s c).spo ∧ FrP (pSm a am) φ φ' := by
  have hspo := pS_spo S s c
  have hc5 : c = 0 ∨ c = 1 ∨ c = 2 ∨ c = 3 ∨ c = 4 := by omega
  rcases hc5 with rfl | rfl | rfl | rfl | rfl
  · have h1 : CSl Γ φ a am (S.drop (5 * (4 + s) + 0)) s := h.cg rfl rfl rfl rfl rfl rfl (fun i hi => hi) (fun i hi => hi) rfl
    obtain ⟨φ1, r1, r2, r3⟩ := c_pass0 h1 hp (hP.c0 rfl) (nI S.time) (freeP ((S.sw s).map WE.place) (4 * s) 4)
    refine ⟨φ1, r1, r2, ?_, r3.toP (fun y h1 h2 => Or.inl ⟨h1, h2⟩)⟩
    rw [hspo]
    exact hm.sm (r3.sm (by omega))
  · obtain ⟨i, hi⟩ := hP.c1 rfl
    obtain ⟨e, he, _, _⟩ := fi_some hi
    have h1 : CSl Γ φ a am (S.drop (5 * (4 + s) + 1)) s := h.cg rfl rfl rfl rfl rfl rfl (fun i hi => hi) (fun i hi => hi) rfl
    obtain ⟨φ1, r1, r2, r3, r4⟩ := c_pass1 (S := S.drop (5 * (4 + s) + 1)) hma h1 hp hm hP.rg hP.sw hi he
    rw [← passS_1 hi he] at r2 r3
    refine ⟨φ1, r1, r2, ?_, r4⟩
    rw [hspo]
    exact r3
  · obtain ⟨i, hi⟩ := hP.c2 rfl
    have h1 : CSl Γ φ a am (S.put (5 * (4 + s) + 2) ⟨0, ((S.wi (4 + s)).w 2).r, S.time⟩) s := h.cg rfl rfl rfl rfl rfl rfl (fun i hi => hi) (fun i hi => hi) rfl
    obtain ⟨φ1, r1, r2, r3⟩ := c_pass2 (ap := ap) h1 hi (hC.cb i hi) (nI S.time)
    refine ⟨φ1, r1, ?_, ?_, r3.toP (fun y h1 h2 => Or.inl ⟨h1, h2⟩)⟩
    · refine r2.cg ?_ rfl rfl rfl rfl rfl (fun i hi => hi) (fun i hi => hi) rfl
      show va_up S.sw s (rmO (S.chb s) (S.sw s)) s = va_up S.sw s ((S.sw s).eraseIdx i) s
      rw [vz_same, vz_same, hi]
      rfl
    · rw [hspo]
      exact hm.sm (r3.sm (by omega))
  · have h1 : CSl Γ φ a am (S.drop (5 * (4 + s) + 3)) s := h.cg rfl rfl rfl rfl rfl rfl (fun i hi => hi) (fun i hi => hi) rfl
    obtain ⟨hl, hru⟩ := hP.c3 rfl
    obtain ⟨φ1, r1, r2, r3⟩ := c_pass3 (S := S.drop (5 * (4 + s) + 3)) hma h1 hp hm hl hru
    refine ⟨φ1, r1, r2, ?_, r3.toP (fun y h1 h2 => Or.inl ⟨h1, h2⟩)⟩
    rw [hspo]
    exact hm.sm (r3.sm (by omega))
  · obtain ⟨i, e, hi, he, _⟩ := hP.c4 rfl
    have h1 : CSl Γ φ a am (S.put (5 * (4 + s) + 4) ⟨((S.wi (4 + s)).w 4).c, ((S.wi (4 + s)).w 4).r, S.time⟩) s := h.cg rfl rfl rfl rfl rfl rfl (fun i hi => hi) (fun i hi => hi) rfl
    have hmem := lmem he
    obtain ⟨φ1, r1, r2, r3⟩ := c_pass4B (ap := ap) h1 (hB.sr s e hmem).2.2.1 hi he (nI S.time)
    refine ⟨φ1, r1, ?_, ?_, r3.toP (fun y h1 h2 => Or.inl ⟨h1, h2⟩)⟩
    · refine r2.cg rfl ?_ rfl rfl rfl rfl (fun i hi => hi) (fun i hi => hi) ?_
      · show va_up S.sr s (bmO (S.chr s) (S.sr s)) s = va_up S.sr s (bmO (some i) (S.sr s)) s
        rw [hi]
      · show va_up S.lat s (ltO (S.chr s) (S.sr s) (S.lat s)) s = va_up S.lat s (some (e.since, e.num)) s
        rw [vz_same, vz_same, hi]
        unfold ltO
        rw [Option.bind_some, he]
    · rw [hspo]
      exact hm.sm (r3.sm (by omega))
def pGs (b nm ns s : Nat) (y : Nat) : Prop := (b + 1 ≤ y ∧ y < bQ b nm ns) ∨ (sAd b nm ns s ≤ y ∧ y < sAd b nm ns s + 32) ∨ (pAd b nm ns (4 + s) ≤ y ∧ y < pAd b nm ns (4 + s) + 7)
theorem CV.passS {Γ : gm_T} {φ φ' : ph_T} {b s : Nat} {S T : XS} {hd : Nat → Bool} {tr' : Nat → Int32} (h : CV Γ φ b S) (hs : s < S.ns) (f : FrP (pGs b S.nm S.ns s) φ φ') (h1 : CSw Γ φ' (b + 4) T) (h2 : CSl Γ φ' (sAd b S.nm S.ns s) (b + 1) T s) (h3 : CMem Γ φ' (b + 1) T.mem T.spo) (h6 : CPt Γ φ' (pAd b S.nm S.ns (4 + s)) (S.wi (4 + s)) hd tr')
    (e1 : T.nm = S.nm) (e2 : T.ns = S.ns) (e3 : T.tk = S.tk) (e4 : T.time = S.time) (e5 : T.mpat = S.mpat) (e6 : T.early = S.early) (e7 : T.wi = S.wi) (e8 : T.tr = va_up S.tr (4 + s) tr') (e9 : T.mon = S.mon)
    (e10 : ∀ s', s' ≠ s → T.sw s' = S.sw s' ∧ T.sr s' = S.sr s' ∧ T.rgt s' = S.rgt s' ∧ T.chb s' = S.chb s' ∧ T.chr s' = S.chr s' ∧ T.lat s' = S.lat s') (e11 : T.spat = S.spat) (e12 : T.delay = S.delay) (e13 : T.way = S.way) : CV Γ φ' b T := by
  obtain ⟨g1, g2, g3, g4⟩ := h.reg
  have n4 := h.lay.nm4
  have n5 := h.lay.ns4
  have hp : okP S.nm S.ns (4 + s) := Or.inr (Or.inl (by omega))
  have pin := pA_in (b := b) n4.2 n5.2 hp
  have sin := sA_in (b := b) (nm := S.nm) hs
  have I : ∀ y, ¬ pGs b S.nm S.ns s y → φ'.1 y = φ.1 y := fun y hy => (f y hy).1
  have R : ∀ y, ¬ pGs b S.nm S.ns s y → φ'.2.2 y = φ.2.2 y := fun y hy => (f y hy).2.2
  refine ⟨?_, ?_, ?_, h3, h1, ?_, ?_, ?_, ?_, ?_, ?_⟩
  · rw [e1, e2]
    exact h.lay.up (R _ (by unfold pGs; omega)) (R _ (by unfold pGs; omega)) (R _ (by unfold pGs; omega)) (R _ (by unfold pGs; omega)) (R _ (by unfold pGs; omega)) (R _ (by unfold pGs; omega)) (R _ (by unfold pGs; omega))
  · rw [I b (by unfold pGs; omega), e3]; exact h.tc
  · rw [I b (by unfold pGs; omega), e4]; exact h.ti
  · rw [e1, e2, e3, e5, e6]
    intro m hm
    have := pA_m (b := b) n4.2 n5.2 hp hm
    have := mA_in (b := b) (ns := S.ns) hm
    exact (h.ma m hm).sm (f.sm (fun y _ _ => by unfold pGs; omega))
  · rw [e1, e2, e3]
    exact h.tk.sm (f.sm (fun y _ _ => by unfold pGs; omega))
  · rw [e3]; exact h.tko
  · rw [e1, e2, e7, e8]
    intro q hq
    rw [vz_at]
    by_cases e : q = 4 + s
    · subst e; rw [if_pos rfl]; exact ⟨hd, h6⟩
    · rw [if_neg e]
      obtain ⟨hd', h'⟩ := h.po q hq
      have := pA_p (b := b) n4.2 n5.2 hp hq (fun hh => e hh.symm)
      have := pA_s (b := b) n4.2 n5.2 hq hs
      have := pA_in (b := b) n4.2 n5.2 hq
      exact ⟨hd', h'.sm (f.sm (fun y _ _ => by unfold pGs; omega))⟩
  · rw [e1, e2, e9]
    intro q hq
    have := pA_s (b := b) n4.2 n5.2 hq hs
    have := pA_in (b := b) n4.2 n5.2 hq
    by_cases e : q = 4 + s
    · subst e
      exact (h.mo _ hq).sm (f.sm (fun y _ _ => by unfold pGs; omega))
    · have := pA_p (b := b) n4.2 n5.2 hp hq (fun hh => e hh.symm)
      exact (h.mo q hq).sm (f.sm (fun y _ _ => by unfold pGs; omega))
  · rw [e1, e2]
    intro s' hs'
    by_cases e : s' = s
    · subst e; exact h2
    · have := pA_s (b := b) n4.2 n5.2 hp hs'
      have := sA_in (b := b) (nm := S.nm) hs'
      have hd2 : sAd b S.nm S.ns s' + 143 ≤ sAd b S.nm S.ns s ∨ sAd b S.nm S.ns s + 143 ≤ sAd b S.nm S.ns s' := by unfold sAd; omega
      have h7 := (h.sl s' hs').sm (f.sm (fun y _ _ => by unfold pGs; omega))
      obtain ⟨q1, q2, q3, q4, q5, q6⟩ := e10 s' e
      exact h7.cg q1 q2 (congrFun e11 s') q3 (congrFun e12 s') (congrFun e13 s') (fun i hi => by rw [← q4]; exact hi) (fun i hi => by rw [← q5]; exact hi) q6
