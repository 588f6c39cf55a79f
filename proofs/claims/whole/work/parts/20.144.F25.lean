/-! ALL IS CLEARED: the class, whole -/
theorem c_clL86 {Γ : gm_T} {b nm ns i : Nat} {φ : ph_T} {x : WI} {hd : Nat → Bool} {tr : Nat → Int32} {o : MO} (hL : BuL Γ φ b nm ns) (hi : i < 2) (h2 : CPt Γ φ (pAd b nm ns (8 + i)) x hd tr) (h3 : CMo Γ φ (pAd b nm ns (8 + i) + 7) o) (fu : Nat) :
    ∃ φ', f_Bus_clear_L86 Γ (fu + 1) φ b (nI i) = f_Bus_clear_L86 Γ fu φ' b (nI (i + 1)) ∧ Fr (rAd b nm ns + 1 + 111 * i) (rAd b nm ns + 112 + 111 * i) φ φ' ∧ BuL Γ φ' b nm ns ∧ CPt Γ φ' (pAd b nm ns (8 + i)) WI0 (fun _ => false) (fun _ => 0) ∧ CMo Γ φ' (pAd b nm ns (8 + i) + 7) MO0 := by
  obtain ⟨φ1, a1, a2, a3, a4⟩ := c_preset h2 h3
  have n4 := hL.nm4
  have n5 := hL.ns4
  have g1 := bQ_0 b nm ns
  have g2 := sA_0 b nm ns
  have g3 := (rA_0 b nm ns).1
  have g4 := (rA_0 b nm ns).2
  have ep : pAd b nm ns (8 + i) = rAd b nm ns + 1 + 111 * i := by unfold pAd; rw [if_neg (by omega), if_neg (by omega)]; omega
  have f : Fr (rAd b nm ns + 1 + 111 * i) (rAd b nm ns + 112 + 111 * i) φ φ1 := by rw [ep] at a4; exact a4.mono (by omega) (by omega)
  have hL1 : BuL Γ φ1 b nm ns := hL.up (f.r (by omega)) (f.r (by omega)) (f.r (by omega)) (f.r (by omega)) (f.r (by omega)) (f.r (by omega)) (f.r (by omega))
  refine ⟨φ1, ?_, f, hL1, a2, a3⟩
  rw [f_Bus_clear_L86, if_neg (by rw [show (2 : Int32) = nI 2 from rfl, zI_le (by omega) (by omega)]; omega), if_pos hL.o, hL.f6, Option.bind_some, hL.g6, Option.bind_some, zix (by omega), Option.bind_some, hL.wp i hi, Option.bind_some, if_pos h2.o, a1, Option.bind_some, show nI i + (1 : Int32) = nI (i + 1) from by rw [zI_1, zI_add]]
theorem c_clear {Γ : gm_T} {φ : ph_T} {b : Nat} {S : XS} (h : CV Γ φ b S) : ∃ φ', f_Bus_clear Γ φ b = some ((), φ') ∧ CV Γ φ' b S.clr ∧ Fr b (tAd b S.nm S.ns + 256) φ φ' := by
  obtain ⟨g1, g2, g3, g4⟩ := h.reg
  have n4 := h.lay.nm4
  have n5 := h.lay.ns4
  have eZ : swZ S.nm S.ns = 31 + 30 * S.nm + 20 * S.ns := rfl
  obtain ⟨T, hT⟩ : ∃ T, T = (S.clr.w_tk S.tk).w_time S.time := ⟨_, rfl⟩
  have hTs : SwT T S.nm S.ns S.lim := by subst hT; exact ⟨rfl, rfl, rfl, rfl, rfl, rfl, rfl, fun _ => rfl, fun _ => rfl, rfl, rfl, fun _ => rfl, fun _ => rfl, fun _ => rfl, fun _ => rfl, fun _ => rfl⟩
  obtain ⟨φ1, a1, a2, a3⟩ := c_memreset h.mem
  obtain ⟨φ2, b1, b2, b3⟩ := c_swreset (h.sw.sm (a3.sm (by omega))).swR hTs
  rw [← eZ] at eZ
  have f12 : Fr (b + 1) (bQ b S.nm S.ns) φ φ2 := (a3.mono (by omega) (by omega)).trans (b2.mono (by omega) (by omega))
  have hL1 : BuL Γ φ1 b S.nm S.ns := h.lay.up (a3.r (by omega)) (a3.r (by omega)) (a3.r (by omega)) (a3.r (by omega)) (a3.r (by omega)) (a3.r (by omega)) (a3.r (by omega))
  have hL2 : BuL Γ φ2 b S.nm S.ns := h.lay.up (f12.r (by omega)) (f12.r (by omega)) (f12.r (by omega)) (f12.r (by omega)) (f12.r (by omega)) (f12.r (by omega)) (f12.r (by omega))
  have hpo : ∃ hd : Nat → Nat → Bool, ∀ p, okP S.nm S.ns p → CPt Γ φ (pAd b S.nm S.ns p) (S.wi p) (hd p) (S.tr p) := by
    haveI : ∀ p, Decidable (okP S.nm S.ns p) := fun p => by unfold okP; exact inferInstance
    refine ⟨fun p => if hp : okP S.nm S.ns p then (h.po p hp).choose else fun _ => false, fun p hp => ?_⟩
    show CPt Γ φ (pAd b S.nm S.ns p) (S.wi p) (if hp : okP S.nm S.ns p then (h.po p hp).choose else fun _ => false) (S.tr p)
    rw [dif_pos hp]
    exact (h.po p hp).choose_spec
  obtain ⟨hd, hpo⟩ := hpo
  obtain ⟨φ3, c1, c2, c3, c4⟩ := c_clL16 (l := S.tk) S.nm 0 jF φ2 S.mpat S.early S.wi hd S.tr S.mon (by omega) (by unfold jF; omega) hL2
    (fun m hm => (h.ma m hm).sm (f12.sm (by have := mA_in (b := b) (ns := S.ns) hm; omega)))
    (fun m hm => (hpo m (Or.inl hm)).sm (f12.sm (by have := pA_in (b := b) n4.2 n5.2 (Or.inl hm : okP S.nm S.ns m); omega)))
    (fun m hm => (h.mo m (Or.inl hm)).sm (f12.sm (by have := pA_in (b := b) n4.2 n5.2 (Or.inl hm : okP S.nm S.ns m); omega)))
    (fun m hm => by omega)
  have f13 : Fr (b + 1) (sAd b S.nm S.ns 0 - 2) φ φ3 := (f12.mono (by omega) (by omega)).trans (c2.mono (by omega) (by omega))
  have okS : ∀ s, s < S.ns → okP S.nm S.ns (4 + s) := fun s hs => Or.inr (Or.inl (by omega))
  have epS : ∀ s, s < S.ns → pAd b S.nm S.ns (4 + s) = sAd b S.nm S.ns s + 32 := fun m hm => by
    unfold pAd; rw [if_neg (by omega), if_pos (by omega), show 4 + m - 4 = m by omega]
  obtain ⟨φ4, d1, d2, d3, d4⟩ := c_clL51 (b := b) (nm := S.nm) (S := S) (T := T) (by subst hT; exact fun _ => rfl) (by subst hT; exact fun _ => rfl) (by subst hT; exact fun _ _ => rfl) (by subst hT; exact fun _ _ => rfl) (by subst hT; exact fun _ => rfl) (by subst hT; exact fun _ => rfl) (by subst hT; exact fun _ => rfl) (by subst hT; exact fun _ => rfl) (by subst hT; exact fun _ => rfl)
    S.ns 0 jF φ3 (fun s => S.wi (4 + s)) (fun s => hd (4 + s)) (fun s => S.tr (4 + s)) (fun s => S.mon (4 + s)) (by omega) (by unfold jF; omega) c3
    (fun s _ hs => (h.sl s hs).sm (f13.sm (by have := sA_in (b := b) (nm := S.nm) hs; omega)))
    (fun s _ hs => (hpo _ (okS s hs)).sm (f13.sm (by have := sA_in (b := b) (nm := S.nm) hs; have := epS s hs; omega)))
    (fun s _ hs => (h.mo _ (okS s hs)).sm (f13.sm (by have := sA_in (b := b) (nm := S.nm) hs; have := epS s hs; omega)))
    (fun m hm => by omega)
  have eR : rAd b S.nm S.ns = sAd b S.nm S.ns 0 + 143 * S.ns := by unfold rAd sAd; omega
  have f14 : Fr (b + 1) (rAd b S.nm S.ns) φ φ4 := (f13.mono (by omega) (by omega)).trans (d2.mono (by omega) (by omega))
  have epW : ∀ i, i < 2 → pAd b S.nm S.ns (8 + i) = rAd b S.nm S.ns + 1 + 111 * i := fun i hi => by unfold pAd; rw [if_neg (by omega), if_neg (by omega)]; omega
  have okW : ∀ i, i < 2 → okP S.nm S.ns (8 + i) := fun i hi => Or.inr (Or.inr (by omega))
  have ew0 := epW 0 (by omega)
  have ew1 := epW 1 (by omega)
  obtain ⟨φ5, e1, e2, e3, e4, e5⟩ := c_clL86 (i := 0) d3 (by omega) ((hpo _ (okW 0 (by omega))).sm (f14.sm (by omega))) ((h.mo _ (okW 0 (by omega))).sm (f14.sm (by omega))) 99999
  have f15 : Fr (b + 1) (rAd b S.nm S.ns + 112) φ φ5 := (f14.mono (by omega) (by omega)).trans (e2.mono (by omega) (by omega))
  obtain ⟨φ6, k1, k2, k3, k4, k5⟩ := c_clL86 (i := 1) e3 (by omega) ((hpo _ (okW 1 (by omega))).sm (f15.sm (by omega))) ((h.mo _ (okW 1 (by omega))).sm (f15.sm (by omega))) 99998
  have f16 : Fr (b + 1) (rAd b S.nm S.ns + 223) φ φ6 := (f15.mono (by omega) (by omega)).trans (k2.mono (by omega) (by omega))
  have f46 : Fr (rAd b S.nm S.ns + 1) (rAd b S.nm S.ns + 223) φ4 φ6 := (e2.mono (by omega) (by omega)).trans (k2.mono (by omega) (by omega))
  have f36 : Fr (sAd b S.nm S.ns 0) (rAd b S.nm S.ns + 223) φ3 φ6 := (d2.mono (by omega) (by omega)).trans (f46.mono (by omega) (by omega))
  have f26 : Fr (bQ b S.nm S.ns) (rAd b S.nm S.ns + 223) φ2 φ6 := (c2.mono (by omega) (by omega)).trans (f36.mono (by omega) (by omega))
  have f16' : Fr (b + 4) (rAd b S.nm S.ns + 223) φ1 φ6 := (b2.mono (by omega) (by omega)).trans (f26.mono (by omega) (by omega))
  have hV : CV Γ φ6 b T := by
    have en : T.nm = S.nm := hTs.nm
    have es : T.ns = S.ns := hTs.ns
    have et : T.tk = S.tk := by subst hT; rfl
    have etm : T.time = S.time := by subst hT; rfl
    have e0 := f16.i (a := b) (by omega)
    refine ⟨by rw [en, es]; exact k3, by rw [e0, et]; exact h.tc, by rw [e0, etm]; exact h.ti, ?_, ?_, ?_, ?_, by rw [et]; exact h.tko, ?_, ?_, ?_⟩
    · have := a2.sm (f16'.sm (by omega))
      subst hT
      exact this
    · exact b3.sm (f26.sm (by rw [en, es]; omega))
    · intro m hm
      rw [en] at hm
      rw [en, es, et]
      have := (c4 m hm).1.sm (f36.sm (by have := mA_in (b := b) (ns := S.ns) hm; omega))
      subst hT
      exact this
    · rw [en, es, et]; exact h.tk.sm (f16.sm (by omega))
    · intro p hp
      rw [en, es] at hp
      rw [en, es]
      have hwi : T.wi p = WI0 := by subst hT; rfl
      have htr : T.tr p = fun _ => 0 := by subst hT; rfl
      rw [hwi, htr]
      refine ⟨fun _ => false, ?_⟩
      rcases hp with hp | hp | hp | hp
      · exact (c4 p hp).2.1.sm (f36.sm (by have := mA_in (b := b) (ns := S.ns) hp; have : pAd b S.nm S.ns p = mAd b S.nm S.ns p + 4 := (by unfold pAd; rw [if_pos (by omega)]); omega))
      · obtain ⟨s, hs⟩ : ∃ s, p = 4 + s := ⟨p - 4, by omega⟩
        subst hs
        exact (d4 s (by omega)).2.1.sm (f46.sm (by have := sA_in (b := b) (nm := S.nm) (show s < S.ns by omega); have := epS s (by omega); omega))
      · subst hp; exact e4.sm (k2.sm (by omega))
      · subst hp; exact k4
    · intro p hp
      rw [en, es] at hp
      rw [en, es]
      have hmo : T.mon p = (S.mon p).beg := by subst hT; rfl
      rw [hmo]
      refine CMo.beg ?_ _
      rcases hp with hp | hp | hp | hp
      · exact (c4 p hp).2.2.sm (f36.sm (by have := mA_in (b := b) (ns := S.ns) hp; have : pAd b S.nm S.ns p = mAd b S.nm S.ns p + 4 := (by unfold pAd; rw [if_pos (by omega)]); omega))
      · obtain ⟨s, hs⟩ : ∃ s, p = 4 + s := ⟨p - 4, by omega⟩
        subst hs
        exact (d4 s (by omega)).2.2.sm (f46.sm (by have := sA_in (b := b) (nm := S.nm) (show s < S.ns by omega); have := epS s (by omega); omega))
      · subst hp; exact e5.sm (k2.sm (by omega))
      · subst hp; exact k5
    · intro s hs
      rw [es] at hs
      rw [en, es]
      exact (d4 s hs).1.sm (f46.sm (by have := sA_in (b := b) (nm := S.nm) hs; omega))
  have eT : T.nm = S.nm ∧ T.ns = S.ns := ⟨hTs.nm, hTs.ns⟩
  obtain ⟨φ7, l1, l2, l3⟩ := c_dropT hV
  rw [eT.1, eT.2] at l3
  have u : Fr b (b + 1) φ7 (uI φ7 b 9 (0 : Int32)) := fr_uI (Fr.refl _ _ _) (by omega) _ _
  have hV2 : CV Γ (uI φ7 b 9 (0 : Int32)) b ((T.w_tk []).w_time 0) := l2.obU u rfl (by rw [uI_s, vz_ne _ (by decide)]; exact l2.tc) (by rw [uI_s, vz_same]; rfl)
  refine ⟨uI φ7 b 9 (0 : Int32), ?_, ?_, (f16.mono (by omega) (by omega)).trans (l3.trans (u.mono (by omega) (by omega)))⟩
  · unfold f_Bus_clear
    rw [if_pos h.lay.o, h.lay.f0, Option.bind_some, if_pos h.mem.o, a1, Option.bind_some]
    show (Option.bind (φ1.2.2 b 1) _) = _
    rw [hL1.f1, Option.bind_some, if_pos h.sw.lay.o]
    show (Option.bind (f_Switch_reset Γ φ1 _) _) = _
    rw [b1, Option.bind_some, zI_0]
    show f_Bus_clear_L16 Γ jF φ2 b (nI 0) = _
    rw [c1, d1]
    show f_Bus_clear_L86 Γ (99999 + 1) φ4 b (nI 0) = _
    rw [e1]
    show f_Bus_clear_L86 Γ (99998 + 1) φ5 b (nI 1) = _
    rw [k1]
    show f_Bus_clear_L86 Γ (99997 + 1) φ6 b (nI 2) = _
    rw [f_Bus_clear_L86, if_pos (by decide), if_pos h.lay.o, l1]
    rfl
  · subst hT
    exact hV2.cg rfl rfl rfl rfl rfl rfl rfl rfl rfl rfl rfl rfl rfl rfl rfl rfl rfl rfl rfl rfl rfl rfl rfl rfl rfl rfl rfl rfl rfl rfl rfl rfl rfl rfl
