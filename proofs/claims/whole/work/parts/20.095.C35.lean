/-! THE CLASS: a slave's port is told and looked at -/
def tsW (S : XS) (s : Nat) (x : WI) (k : Nat) : WV := if 0 ≤ k ∧ ¬ (k = 2 ∨ k = 4) then (match S.row (5 * (4 + s) + k) with
  | [] => x.w k
  | e :: _ => ⟨true, e.c, e.r⟩) else x.w k
def tsR (S : XS) (s : Nat) (x : WI) (k : Nat) : Bool := if 0 ≤ k ∧ (k = 2 ∨ k = 4) then S.hasRm (5 * (4 + s) + k) else x.rd k
theorem tlB_w (S : XS) (s : Nat) (hd : Nat → Bool) (x : WI) (c : Nat) : (tlB S s hd x).w c = (if c = 2 then (if hd 2 = true then x.w 2 else match (chBh S s hd).bind (fun i => (S.sw s)[i]?) with
    | some e => wvB e
    | none => x.w 2) else x.w c) ∧ (tlB S s hd x).rd c = x.rd c := by
  unfold tlB
  cases hd 2 with
  | true => simp only [if_true]; by_cases e : c = 2 <;> simp [e]
  | false =>
    simp only [Bool.false_eq_true, if_false]
    cases (chBh S s hd).bind (fun i => (S.sw s)[i]?) with
    | none => by_cases e : c = 2 <;> simp [e]
    | some e => simp only [WI.snd', WI.w_mk, WI.rd_mk, WI.w_w_w, WI.w_w_rd, WI.rd_w_w, WI.rd_w_rd, vz_at]; by_cases e : c = 2 <;> simp [e]
theorem tlR_w (S : XS) (s : Nat) (hd : Nat → Bool) (x : WI) (c : Nat) : (tlR S s hd x).w c = (if c = 4 then (if hd 4 = true then x.w 4 else match (chRh S s hd).bind (fun i => (S.sr s)[i]?) with
    | some e => wvR e
    | none => x.w 4) else x.w c) ∧ (tlR S s hd x).rd c = x.rd c := by
  unfold tlR
  cases hd 4 with
  | true => simp only [if_true]; by_cases e : c = 4 <;> simp [e]
  | false =>
    simp only [Bool.false_eq_true, if_false]
    cases (chRh S s hd).bind (fun i => (S.sr s)[i]?) with
    | none => by_cases e : c = 4 <;> simp [e]
    | some e => simp only [WI.snd', WI.w_mk, WI.rd_mk, WI.w_w_w, WI.w_w_rd, WI.rd_w_w, WI.rd_w_rd, vz_at]; by_cases e : c = 4 <;> simp [e]
theorem wiS {S : XS} {s : Nat} (hR : ∀ c, c = 0 ∨ c = 1 ∨ c = 3 → hdW (S.wi (4 + s)) c = true → S.row (5 * (4 + s) + c) ≠ []) (c : Nat) (hc : c < 5) :
    (S.showS s).w c = tsW S s (tlS S s (hdW (S.wi (4 + s))) (S.wi (4 + s)).beg) c ∧ (S.showS s).rd c = tsR S s (tlS S s (hdW (S.wi (4 + s))) (S.wi (4 + s)).beg) c := by
  have hbw : ∀ c, (S.wi (4 + s)).beg.w c = if hdW (S.wi (4 + s)) c = true then (S.wi (4 + s)).w c else WV0 := fun c => rfl
  have hc5 : c = 0 ∨ c = 1 ∨ c = 2 ∨ c = 3 ∨ c = 4 := by omega
  have hrow : ∀ k, k = 0 ∨ k = 1 ∨ k = 3 → rowW (S.row (5 * (4 + s) + k)) = (match S.row (5 * (4 + s) + k) with
      | [] => (S.wi (4 + s)).beg.w k
      | e :: _ => ⟨true, e.c, e.r⟩) := by
    intro k hk
    cases hr : S.row (5 * (4 + s) + k) with
    | nil =>
      rw [hbw]
      cases hh : hdW (S.wi (4 + s)) k with
      | true => exact absurd hr (hR k hk hh)
      | false => simp [rowW]
    | cons e l => simp [rowW]
  have hB' : chBh S s (hdW (S.wi (4 + s))) = S.chB' s := rfl
  have hR' : chRh S s (hdW (S.wi (4 + s))) = S.chR' s := rfl
  unfold XS.showS tsW tsR tlS
  simp only [(tlR_w _ _ _ _ _).1, (tlR_w _ _ _ _ _).2, (tlB_w _ _ _ _ _).1, (tlB_w _ _ _ _ _).2, WI.rdy, WI.w_mk, WI.rd_mk, WI.w_w_w, WI.w_w_rd, WI.rd_w_w, WI.rd_w_rd, vz_at, hB', hR']
  rcases hc5 with rfl | rfl | rfl | rfl | rfl
  · refine ⟨?_, by simp⟩
    have := hrow 0 (by omega)
    simp at this ⊢
    exact this
  · refine ⟨?_, by simp⟩
    have := hrow 1 (by omega)
    simp at this ⊢
    exact this
  · refine ⟨?_, by simp⟩
    unfold XS.wB
    simp only [hbw]
    cases hh : hdW (S.wi (4 + s)) 2 with
    | true => simp
    | false =>
      simp
      rfl
  · refine ⟨?_, by simp⟩
    have := hrow 3 (by omega)
    simp at this ⊢
    exact this
  · refine ⟨?_, by simp⟩
    unfold XS.wR
    simp only [hbw]
    cases hh : hdW (S.wi (4 + s)) 4 with
    | true => simp
    | false =>
      simp
      rfl
def pPs (P a : Nat) (x : Nat) : Prop := (P ≤ x ∧ x < P + 111) ∨ x = a
theorem BuL.frS {Γ : gm_T} {φ φ' : ph_T} {b nm ns p s : Nat} (h : BuL Γ φ b nm ns) (hp : okP nm ns p) (hs : s < ns) (f : FrP (pPs (pAd b nm ns p) (sAd b nm ns s)) φ φ') : BuL Γ φ' b nm ns := by
  have n4 := h.nm4
  have n5 := h.ns4
  have pin := pA_in (b := b) n4.2 n5.2 hp
  have g1 := bQ_0 b nm ns
  have g2 := sA_0 b nm ns
  have g3 := rA_0 b nm ns
  have g4 := sA_in (b := b) (nm := nm) hs
  have R : ∀ x, ¬ pPs (pAd b nm ns p) (sAd b nm ns s) x → φ'.2.2 x = φ.2.2 x := fun x hx => (f x hx).2.2
  exact h.up (R _ (by unfold pPs; omega)) (R _ (by unfold pPs; omega)) (R _ (by unfold pPs; omega)) (R _ (by unfold pPs; omega)) (R _ (by unfold pPs; omega)) (R _ (by unfold pPs; omega)) (R _ (by unfold pPs; omega))
/-- a slave's port and its choice have changed -/
theorem CV.portS {Γ : gm_T} {φ φ' : ph_T} {b s : Nat} {S : XS} {x : WI} {hd : Nat → Bool} {o : MO} {cb cr : Option Nat} (h : CV Γ φ b S) (hs : s < S.ns) (f : FrP (pPs (pAd b S.nm S.ns (4 + s)) (sAd b S.nm S.ns s)) φ φ') (h1 : CPt Γ φ' (pAd b S.nm S.ns (4 + s)) x hd (S.tr (4 + s))) (h2 : CMo Γ φ' (pAd b S.nm S.ns (4 + s) + 7) o) (h3 : CSl Γ φ' (sAd b S.nm S.ns s) (b + 1) ((S.w_chb (va_up S.chb s cb)).w_chr (va_up S.chr s cr)) s) : CV Γ φ' b ((((S.w_wi (va_up S.wi (4 + s) x)).w_mon (va_up S.mon (4 + s) o)).w_chb (va_up S.chb s cb)).w_chr (va_up S.chr s cr)) := by
  obtain ⟨g1, g2, g3, g4⟩ := h.reg
  have n4 := h.lay.nm4
  have n5 := h.lay.ns4
  have hp : okP S.nm S.ns (4 + s) := Or.inr (Or.inl (by omega))
  have pin := pA_in (b := b) n4.2 n5.2 hp
  have sin := sA_in (b := b) (nm := S.nm) hs
  have I : ∀ y, ¬ pPs (pAd b S.nm S.ns (4 + s)) (sAd b S.nm S.ns s) y → φ'.1 y = φ.1 y := fun y hy => (f y hy).1
  refine ⟨h.lay.frS hp hs f, ?_, ?_, ?_, ?_, ?_, ?_, h.tko, ?_, ?_, ?_⟩
  · rw [I b (by unfold pPs; omega)]; exact h.tc
  · rw [I b (by unfold pPs; omega)]; exact h.ti
  · exact h.mem.sm (f.sm (fun y _ _ => by unfold pPs; omega))
  · have := h.sw.sm (f.sm (fun y _ _ => by unfold pPs; omega))
    exact this.cg rfl rfl rfl rfl rfl rfl rfl rfl rfl rfl rfl rfl rfl rfl rfl rfl
  · intro m hm
    have := pA_m (b := b) n4.2 n5.2 hp (show m < S.nm from hm)
    have := mA_in (b := b) (ns := S.ns) (show m < S.nm from hm)
    exact (h.ma m hm).sm (f.sm (fun y hy1 hy2 => by
      have hy1 : mAd b S.nm S.ns m ≤ y := hy1
      have hy2 : y < mAd b S.nm S.ns m + 4 := hy2
      unfold pPs; omega))
  · exact h.tk.sm (f.sm (fun y hy1 hy2 => by
      have hy1 : tAd b S.nm S.ns ≤ y := hy1
      unfold pPs; omega))
  · intro q hq
    have hq' : okP S.nm S.ns q := hq
    show ∃ hd, CPt Γ φ' (pAd b S.nm S.ns q) (va_up S.wi (4 + s) x q) hd (S.tr q)
    rw [vz_at]
    by_cases e : q = 4 + s
    · subst e; rw [if_pos rfl]; exact ⟨hd, h1⟩
    · rw [if_neg e]
      obtain ⟨hd', h'⟩ := h.po q hq'
      have := pA_p (b := b) n4.2 n5.2 hp hq' (fun hh => e hh.symm)
      have := pA_s (b := b) n4.2 n5.2 hq' hs
      exact ⟨hd', h'.sm (f.sm (fun y _ _ => by unfold pPs; omega))⟩
  · intro q hq
    have hq' : okP S.nm S.ns q := hq
    show CMo Γ φ' (pAd b S.nm S.ns q + 7) (va_up S.mon (4 + s) o q)
    rw [vz_at]
    by_cases e : q = 4 + s
    · subst e; rw [if_pos rfl]; exact h2
    · rw [if_neg e]
      have := pA_p (b := b) n4.2 n5.2 hp hq' (fun hh => e hh.symm)
      have := pA_s (b := b) n4.2 n5.2 hq' hs
      exact (h.mo q hq').sm (f.sm (fun y _ _ => by unfold pPs; omega))
  · intro s' hs'
    have hs2 : s' < S.ns := hs'
    by_cases e : s' = s
    · subst e
      exact h3.cg rfl rfl rfl rfl rfl rfl (fun i hi => hi) (fun i hi => hi) rfl
    · have := pA_s (b := b) n4.2 n5.2 hp hs2
      have := sA_in (b := b) (nm := S.nm) hs2
      have hd2 : sAd b S.nm S.ns s' + 143 ≤ sAd b S.nm S.ns s ∨ sAd b S.nm S.ns s + 143 ≤ sAd b S.nm S.ns s' := by unfold sAd; omega
      have h4 := (h.sl s' hs2).sm (f.sm (fun y _ _ => by unfold pPs; omega))
      refine h4.cg rfl rfl rfl rfl rfl rfl (fun i hi => ?_) (fun i hi => ?_) rfl
      · have hi' : va_up S.chb s cb s' = some i := hi
        rw [vz_ne _ e] at hi'; exact hi'
      · have hi' : va_up S.chr s cr s' = some i := hi
        rw [vz_ne _ e] at hi'; exact hi'
theorem c_showS {Γ : gm_T} {φ : ph_T} {b s : Nat} {T : XS} (h : CV Γ φ b T) (hB : Bd T) (hs : s < T.ns) (hR : ∀ c, c = 0 ∨ c = 1 ∨ c = 3 → hdW (T.wi (4 + s)) c = true → T.row (5 * (4 + s) + c) ≠ []) (hn : ∀ e ∈ T.sr s, ∀ q, T.lat s = some q → (q.1 < e.since ↔ q.2 < e.num)) (hmo : ∀ e ∈ (T.mon (4 + s)).rs, e.n < leN e.con) (K : ph_T → Nat → Int32 → Int32 → Int32 → Int32 → Option (Int32 × ph_T)) (x1 x2 x3 x4 : Int32) (fu : Nat) :
    ∃ φ', f_Bus_runTicks_L111 Γ K (fu + 1) φ b x1 x2 x3 x4 (nI s) = f_Bus_runTicks_L111 Γ K fu φ' b x1 x2 x3 x4 (nI (s + 1)) ∧ CV Γ φ' b ((((T.w_wi (va_up T.wi (4 + s) (T.showS s))).w_mon (va_up T.mon (4 + s) ((T.mon (4 + s)).look (T.showS s)))).w_chb (va_up T.chb s (T.chB' s))).w_chr (va_up T.chr s (T.chR' s))) ∧ Fr b (tAd b T.nm T.ns + 256) φ φ' := by
  have n4 := h.lay.nm4
  have n5 := h.lay.ns4
  have hp : okP T.nm T.ns (4 + s) := Or.inr (Or.inl (by omega))
  obtain ⟨g1, g2, g3, g4⟩ := h.reg
  have pin := pA_in (b := b) n4.2 n5.2 hp
  have ps := pA_s (b := b) n4.2 n5.2 hp hs
  have sin := sA_in (b := b) (nm := T.nm) hs
  obtain ⟨hd0, p0⟩ := h.po (4 + s) hp
  have mo0 := h.mo (4 + s) hp
  have sl0 := h.sl s hs
  generalize hP : pAd b T.nm T.ns (4 + s) = P at *
  generalize hA : sAd b T.nm T.ns s = A at *
  obtain ⟨φ1, a1, a2, a3⟩ := c_begin p0
  have a3' : FrP (pPs P A) φ φ1 := a3.toP (fun y _ _ => by unfold pPs; omega)
  have L1 : BuL Γ φ1 b T.nm T.ns := h.lay.frS hp hs (by rw [hP, hA]; exact a3')
  have ti1 : φ1.1 b 9 = nI T.time := by rw [a3.i (by omega)]; exact h.ti
  obtain ⟨φ2, b1, b2, b3, b4⟩ := c_stell (a := A) (am := b + 1) (ap := P) (by omega) (sl0.sm (a3.sm (by omega))) a2 hB hn
  have b4' : FrP (pPs P A) φ1 φ2 := b4.mono (fun y hy => by unfold pSl at hy; unfold pPs; omega)
  have L2 : BuL Γ φ2 b T.nm T.ns := L1.frS hp hs (by rw [hP, hA]; exact b4')
  have sw2 : CSw Γ φ2 (b + 4) T := (h.sw.sm (a3.sm (by omega))).sm (b4'.sm (fun y _ _ => by unfold pPs; omega))
  obtain ⟨φ3, c1, c2, c3⟩ := c_tellS_L hs (show P + 7 ≤ b + 4 ∨ b + 4 + swZ T.nm T.ns ≤ P by omega) 5 0 jF φ2 _ (by omega) (by unfold jF; omega) sw2 b3
  have c3' : FrP (pPs P A) φ2 φ3 := c3.toP (fun y _ _ => by unfold pPs; omega)
  have L3 : BuL Γ φ3 b T.nm T.ns := L2.frS hp hs (by rw [hP, hA]; exact c3')
  have p3 : CPt Γ φ3 P (T.showS s) (hdW (T.wi (4 + s))) (T.tr (4 + s)) := c2.congr (fun c hc => ⟨(wiS hR c hc).1, (wiS hR c hc).2, rfl⟩)
  have mo3 : CMo Γ φ3 (P + 7) (T.mon (4 + s)) := ((mo0.sm (a3.sm (by omega))).sm (b4.sm (fun y _ _ => by unfold pSl; omega))).sm (c3.sm (by omega))
  obtain ⟨φ4, d1, d2, d3⟩ := c_look (a := P) (b := P + 7) (by omega) mo3 p3 hmo
  have d3' : FrP (pPs P A) φ3 φ4 := d3.toP (fun y _ _ => by unfold pPs; omega)
  refine ⟨φ4, ?_, ?_, (a3'.trans (b4'.trans (c3'.trans d3'))).toFr (fun y hy => by unfold pPs at hy; omega)⟩
  · have e1 : φ.2.2 (sAd b T.nm T.ns 0 - 1) s = some P := by rw [h.lay.sp s hs, hP]
    have e2 : φ1.2.2 (sAd b T.nm T.ns 0 - 1) s = some P := by rw [L1.sp s hs, hP]
    have e3 : φ2.2.2 (sAd b T.nm T.ns 0 - 1) s = some P := by rw [L2.sp s hs, hP]
    have e4 : φ3.2.2 (sAd b T.nm T.ns 0 - 1) s = some P := by rw [L3.sp s hs, hP]
    have e5 : φ1.2.2 (sAd b T.nm T.ns 0 - 2) s = some A := by rw [L1.sl s hs, hA]
    have c1' : f_Switch_tellSlave Γ φ2 (b + 4) (some P) (nI s) = some ((), φ3) := c1
    rw [f_Bus_runTicks_L111, if_pos h.lay.o, h.lay.f3, Option.bind_some, h.lay.g3, Option.bind_some, if_neg (by rw [zI_le (by omega) (by omega)]; omega), h.lay.f5, Option.bind_some, h.lay.g5, Option.bind_some, zix (by omega), Option.bind_some, e1, Option.bind_some, if_pos p0.o, a1, Option.bind_some]
    dsimp only
    rw [L1.f3, Option.bind_some, h.lay.g3, Option.bind_some, zix (by omega), Option.bind_some, L1.f5, Option.bind_some, h.lay.g5, Option.bind_some, zix (by omega), Option.bind_some, e5, Option.bind_some, if_pos sl0.o, e2, ti1, b1, Option.bind_some]
    dsimp only
    rw [L2.f5, Option.bind_some, h.lay.g5, Option.bind_some, zix (by omega), Option.bind_some, L2.f1, Option.bind_some, if_pos h.sw.lay.o, e3, c1', Option.bind_some]
    dsimp only
    rw [L3.f5, Option.bind_some, h.lay.g5, Option.bind_some, zix (by omega), Option.bind_some, e4, Option.bind_some, if_pos p0.o, Option.bind_some, zix (by omega), Option.bind_some, p3.f6, Option.bind_some, if_pos mo0.o, e4, d1, Option.bind_some, zI_1, zI_add]
  · have hsl : CSl Γ φ4 A (b + 1) ((T.w_chb (va_up T.chb s (T.chB' s))).w_chr (va_up T.chr s (T.chR' s))) s := (b2.sm (c3.sm (by omega))).sm (d3.sm (by omega))
    exact h.portS hs (by rw [hP, hA]; exact a3'.trans (b4'.trans (c3'.trans d3'))) (by rw [hP]; exact p3.sm (d3.sm (by omega))) (by rw [hP]; exact d2) (by rw [hA]; exact hsl)
