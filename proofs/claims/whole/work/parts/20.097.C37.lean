/-! THE CLASS: a master's transfer -/
def pGm (b nm ns m : Nat) (y : Nat) : Prop := (b + 4 ≤ y ∧ y < bQ b nm ns) ∨ y = mAd b nm ns m ∨ (tAd b nm ns ≤ y ∧ y < tAd b nm ns + 256) ∨ (pAd b nm ns m ≤ y ∧ y < pAd b nm ns m + 7)
theorem CV.passM {Γ : gm_T} {φ φ' : ph_T} {b m : Nat} {S : XS} {r' : Nat → List RE} {tk' : List TK} {hd : Nat → Bool} {tr' : Nat → Int32} (h : CV Γ φ b S) (hm : m < S.nm) (f : FrP (pGm b S.nm S.ns m) φ φ') (h1 : CSw Γ φ' (b + 4) (S.w_row r')) (h2 : CMa Γ φ' (mAd b S.nm S.ns m) (tAd b S.nm S.ns) tk' m (S.mpat m) (S.early m)) (h3 : OthM S.tk tk' m) (h4 : CTk Γ φ' (tAd b S.nm S.ns) tk') (h5 : TkO tk') (h6 : CPt Γ φ' (pAd b S.nm S.ns m) (S.wi m) hd tr') (hl : tk'.length = S.tk.length) : CV Γ φ' b (((S.w_row r').w_tk tk').w_tr (va_up S.tr m tr')) := by
  obtain ⟨g1, g2, g3, g4⟩ := h.reg
  have n4 := h.lay.nm4
  have n5 := h.lay.ns4
  have hp : okP S.nm S.ns m := Or.inl hm
  have pin := pA_in (b := b) n4.2 n5.2 hp
  have min := mA_in (b := b) (ns := S.ns) hm
  have I : ∀ y, ¬ pGm b S.nm S.ns m y → φ'.1 y = φ.1 y := fun y hy => (f y hy).1
  have R : ∀ y, ¬ pGm b S.nm S.ns m y → φ'.2.2 y = φ.2.2 y := fun y hy => (f y hy).2.2
  refine ⟨?_, ?_, ?_, ?_, ?_, ?_, h4, h5, ?_, ?_, ?_⟩
  · exact h.lay.up (R _ (by unfold pGm; omega)) (R _ (by unfold pGm; omega)) (R _ (by unfold pGm; omega)) (R _ (by unfold pGm; omega)) (R _ (by unfold pGm; omega)) (R _ (by unfold pGm; omega)) (R _ (by unfold pGm; omega))
  · rw [I b (by unfold pGm; omega)]
    show φ.1 b 8 = nI tk'.length
    rw [hl]; exact h.tc
  · rw [I b (by unfold pGm; omega)]; exact h.ti
  · exact h.mem.sm (f.sm (fun y _ _ => by unfold pGm; omega))
  · exact h1.cg rfl rfl rfl rfl rfl rfl rfl rfl rfl rfl rfl rfl rfl rfl rfl rfl
  · intro m' hm'
    have hm2 : m' < S.nm := hm'
    show CMa Γ φ' (mAd b S.nm S.ns m') (tAd b S.nm S.ns) tk' m' (S.mpat m') (S.early m')
    by_cases e : m' = m
    · subst e; exact h2
    · have := pA_m (b := b) n4.2 n5.2 hp hm2
      have := mA_in (b := b) (ns := S.ns) hm2
      have hd2 : mAd b S.nm S.ns m' + 115 ≤ mAd b S.nm S.ns m ∨ mAd b S.nm S.ns m + 115 ≤ mAd b S.nm S.ns m' := by unfold mAd; omega
      exact ((h.ma m' hm2).sm (f.sm (fun y _ _ => by unfold pGm; omega))).oth h3 e
  · intro q hq
    have hq' : okP S.nm S.ns q := hq
    show ∃ hd, CPt Γ φ' (pAd b S.nm S.ns q) (S.wi q) hd (va_up S.tr m tr' q)
    rw [vz_at]
    by_cases e : q = m
    · subst e; rw [if_pos rfl]; exact ⟨hd, h6⟩
    · rw [if_neg e]
      obtain ⟨hd', h'⟩ := h.po q hq'
      have := pA_p (b := b) n4.2 n5.2 hp hq' (fun hh => e hh.symm)
      have := pA_m (b := b) n4.2 n5.2 hq' hm
      have := pA_in (b := b) n4.2 n5.2 hq'
      exact ⟨hd', h'.sm (f.sm (fun y _ _ => by unfold pGm; omega))⟩
  · intro q hq
    have hq' : okP S.nm S.ns q := hq
    have := pA_m (b := b) n4.2 n5.2 hq' hm
    have := pA_in (b := b) n4.2 n5.2 hq'
    by_cases e : q = m
    · subst e
      exact (h.mo q hq').sm (f.sm (fun y hy1 hy2 => by
        have hy1 : pAd b S.nm S.ns q + 7 ≤ y := hy1
        have hy2 : y < pAd b S.nm S.ns q + 7 + 104 := hy2
        unfold pGm; omega))
    · have := pA_p (b := b) n4.2 n5.2 hp hq' (fun hh => e hh.symm)
      exact (h.mo q hq').sm (f.sm (fun y hy1 hy2 => by
        have hy1 : pAd b S.nm S.ns q + 7 ≤ y := hy1
        have hy2 : y < pAd b S.nm S.ns q + 7 + 104 := hy2
        unfold pGm; omega))
  · intro s hs
    have hs' : s < S.ns := hs
    have := pA_s (b := b) n4.2 n5.2 hp hs'
    have := sA_in (b := b) (nm := S.nm) hs'
    have h7 := (h.sl s hs').sm (f.sm (fun y hy1 hy2 => by
        have hy1 : sAd b S.nm S.ns s ≤ y := hy1
        have hy2 : y < sAd b S.nm S.ns s + 32 := hy2
        unfold pGm; omega))
    exact h7.cg rfl rfl rfl rfl rfl rfl (fun i hi => hi) (fun i hi => hi) rfl
theorem updF_len {α : Type} {p : α → Bool} {f : α → α} (l : List α) : (updF p f l).length = l.length := by
  induction l with
  | nil => rfl
  | cons x l ih =>
    unfold updF
    split
    · rfl
    · rw [List.length_cons, List.length_cons, ih]
/-- a master's transfer, its tickets -/
theorem c_mpass {Γ : gm_T} {φ : ph_T} {a b ap m c : Nat} {S : XS} {hd : Nat → Bool} {tr : Nat → Int32} (hab : a + 4 ≤ b ∨ b + 256 ≤ a) (hpb : ap + 7 ≤ b ∨ b + 256 ≤ ap) (h : CMa Γ φ a b S.tk m (S.mpat m) (S.early m)) (ht : CTk Γ φ b S.tk) (hT : TkO S.tk) (hp : CPt Γ φ ap (S.wi m) hd tr) (hB : Bd S) (hP : PreM S m c) (hc : c < 5) :
    ∃ φ', f_Master_pass Γ φ a (some ap) (nI c) (nI S.time) = some ((), φ') ∧ CMa Γ φ' a b (S.passM m c).tk m (S.mpat m) (S.early m) ∧ CTk Γ φ' b (S.passM m c).tk ∧ TkO (S.passM m c).tk ∧ OthM S.tk (S.passM m c).tk m ∧ FrP (pMt a b) φ φ' ∧ (S.passM m c).tk.length = S.tk.length := by
  have htm := hB.time
  have hc5 : c = 0 ∨ c = 1 ∨ c = 2 ∨ c = 3 ∨ c = 4 := by omega
  rcases hc5 with rfl | rfl | rfl | rfl | rfl
  · obtain ⟨_, _, t, hf⟩ := hP.h0 (Or.inl rfl)
    obtain ⟨φ1, r1, r2, r3, r4, r5, r6⟩ := c_mpassA (wr := true) (ap := ap) hab h ht hT htm hf
    exact ⟨φ1, r1, r2, r3, r4, r5, r6, updF_len _⟩
  · obtain ⟨_, t, e, hf, _, _⟩ := hP.h1 rfl
    obtain ⟨φ1, r1, r2, r3, r4, r5, r6⟩ := c_mpassW (ap := ap) (time := S.time) hab h ht hT hf
    exact ⟨φ1, r1, r2, r3, r4, r5, r6, updF_len _⟩
  · obtain ⟨φ1, r1, r2, r3, r4, r5, r6⟩ := c_mpassB hab h ht hT hp htm
    exact ⟨φ1, r1, r2, r3, r4, r5, r6, updF_len _⟩
  · obtain ⟨_, _, t, hf⟩ := hP.h0 (Or.inr rfl)
    obtain ⟨φ1, r1, r2, r3, r4, r5, r6⟩ := c_mpassA (wr := false) (ap := ap) hab h ht hT htm hf
    exact ⟨φ1, r1, r2, r3, r4, r5, r6, updF_len _⟩
  · obtain ⟨φ1, r1, r2, r3, r4, r5, r6⟩ := c_mpassR hab hpb h ht hT hp htm (fun e he => ⟨(hP.tk e he).1, fun hd hw => ((hP.tk e he).2 hd).2 hw⟩)
    exact ⟨φ1, r1, r2, r3, r4, r5, r6, updF_len _⟩
theorem passM_row (S : XS) {m c : Nat} (hc : c < 5) : (S.passM m c).row = (if c = 2 ∨ c = 4 then S.drop (5 * m + c) else S.put (5 * m + c) ⟨((S.wi m).w c).c, ((S.wi m).w c).r, S.time⟩).row := by
  have hc5 : c = 0 ∨ c = 1 ∨ c = 2 ∨ c = 3 ∨ c = 4 := by omega
  rcases hc5 with rfl | rfl | rfl | rfl | rfl <;> rfl
