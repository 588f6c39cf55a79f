/-! THE CLASS: a tick -/
def smM (T S : XS) : Prop := T.nm = S.nm ∧ T.ns = S.ns ∧ T.lim = S.lim ∧ T.pol = S.pol ∧ T.whole = S.whole ∧ T.time = S.time ∧ T.pages = S.pages ∧ T.mpat = S.mpat ∧ T.spat = S.spat ∧ T.early = S.early ∧ T.delay = S.delay ∧ T.way = S.way ∧ T.mem = S.mem ∧ T.spo = S.spo ∧ T.tk = S.tk ∧ T.wi = S.wi ∧ T.tr = S.tr ∧ T.sw = S.sw ∧ T.sr = S.sr ∧ T.lat = S.lat ∧ T.chb = S.chb ∧ T.chr = S.chr ∧ T.rgt = S.rgt ∧ T.mon = S.mon
theorem smM.refl (S : XS) : smM S S := ⟨rfl, rfl, rfl, rfl, rfl, rfl, rfl, rfl, rfl, rfl, rfl, rfl, rfl, rfl, rfl, rfl, rfl, rfl, rfl, rfl, rfl, rfl, rfl, rfl⟩
theorem smM.trans {U T S : XS} (h : smM U T) (g : smM T S) : smM U S := ⟨h.1.trans g.1, h.2.1.trans g.2.1, h.2.2.1.trans g.2.2.1, h.2.2.2.1.trans g.2.2.2.1, h.2.2.2.2.1.trans g.2.2.2.2.1, h.2.2.2.2.2.1.trans g.2.2.2.2.2.1, h.2.2.2.2.2.2.1.trans g.2.2.2.2.2.2.1, h.2.2.2.2.2.2.2.1.trans g.2.2.2.2.2.2.2.1, h.2.2.2.2.2.2.2.2.1.trans g.2.2.2.2.2.2.2.2.1, h.2.2.2.2.2.2.2.2.2.1.trans g.2.2.2.2.2.2.2.2.2.1, h.2.2.2.2.2.2.2.2.2.2.1.trans g.2.2.2.2.2.2.2.2.2.2.1, h.2.2.2.2.2.2.2.2.2.2.2.1.trans g.2.2.2.2.2.2.2.2.2.2.2.1, h.2.2.2.2.2.2.2.2.2.2.2.2.1.trans g.2.2.2.2.2.2.2.2.2.2.2.2.1, h.2.2.2.2.2.2.2.2.2.2.2.2.2.1.trans g.2.2.2.2.2.2.2.2.2.2.2.2.2.1, h.2.2.2.2.2.2.2.2.2.2.2.2.2.2.1.trans g.2.2.2.2.2.2.2.2.2.2.2.2.2.2.1, h.2.2.2.2.2.2.2.2.2.2.2.2.2.2.2.1.trans g.2.2.2.2.2.2.2.2.2.2.2.2.2.2.2.1, h.2.2.2.2.2.2.2.2.2.2.2.2.2.2.2.2.1.trans g.2.2.2.2.2.2.2.2.2.2.2.2.2.2.2.2.1, h.2.2.2.2.2.2.2.2.2.2.2.2.2.2.2.2.2.1.trans g.2.2.2.2.2.2.2.2.2.2.2.2.2.2.2.2.2.1, h.2.2.2.2.2.2.2.2.2.2.2.2.2.2.2.2.2.2.1.trans g.2.2.2.2.2.2.2.2.2.2.2.2.2.2.2.2.2.2.1, h.2.2.2.2.2.2.2.2.2.2.2.2.2.2.2.2.2.2.2.1.trans g.2.2.2.2.2.2.2.2.2.2.2.2.2.2.2.2.2.2.2.1, h.2.2.2.2.2.2.2.2.2.2.2.2.2.2.2.2.2.2.2.2.1.trans g.2.2.2.2.2.2.2.2.2.2.2.2.2.2.2.2.2.2.2.2.1, h.2.2.2.2.2.2.2.2.2.2.2.2.2.2.2.2.2.2.2.2.2.1.trans g.2.2.2.2.2.2.2.2.2.2.2.2.2.2.2.2.2.2.2.2.2.1, h.2.2.2.2.2.2.2.2.2.2.2.2.2.2.2.2.2.2.2.2.2.2.1.trans g.2.2.2.2.2.2.2.2.2.2.2.2.2.2.2.2.2.2.2.2.2.2.1, h.2.2.2.2.2.2.2.2.2.2.2.2.2.2.2.2.2.2.2.2.2.2.2.trans g.2.2.2.2.2.2.2.2.2.2.2.2.2.2.2.2.2.2.2.2.2.2.2⟩
theorem movA_M (S : XS) (c t : Nat) : smM (S.movA c t) S := by
  unfold XS.movA
  repeat' split
  all_goals exact ⟨rfl, rfl, rfl, rfl, rfl, rfl, rfl, rfl, rfl, rfl, rfl, rfl, rfl, rfl, rfl, rfl, rfl, rfl, rfl, rfl, rfl, rfl, rfl, rfl⟩
theorem movD_M (S : XS) (m : Nat) : smM (S.movD m) S := by
  unfold XS.movD
  repeat' split
  all_goals exact ⟨rfl, rfl, rfl, rfl, rfl, rfl, rfl, rfl, rfl, rfl, rfl, rfl, rfl, rfl, rfl, rfl, rfl, rfl, rfl, rfl, rfl, rfl, rfl, rfl⟩
theorem refW_M (S : XS) : smM S.refW S := by
  unfold XS.refW
  repeat' split
  all_goals exact ⟨rfl, rfl, rfl, rfl, rfl, rfl, rfl, rfl, rfl, rfl, rfl, rfl, rfl, rfl, rfl, rfl, rfl, rfl, rfl, rfl, rfl, rfl, rfl, rfl⟩
theorem refR_M (S : XS) : smM S.refR S := by
  unfold XS.refR
  repeat' split
  all_goals exact ⟨rfl, rfl, rfl, rfl, rfl, rfl, rfl, rfl, rfl, rfl, rfl, rfl, rfl, rfl, rfl, rfl, rfl, rfl, rfl, rfl, rfl, rfl, rfl, rfl⟩
theorem movB_M (S : XS) (m : Nat) : smM (S.movB m) S := by
  unfold XS.movB
  repeat' split
  all_goals exact ⟨rfl, rfl, rfl, rfl, rfl, rfl, rfl, rfl, rfl, rfl, rfl, rfl, rfl, rfl, rfl, rfl, rfl, rfl, rfl, rfl, rfl, rfl, rfl, rfl⟩
theorem movR_M (S : XS) (m : Nat) : smM (S.movR m) S := by
  unfold XS.movR
  split
  · exact smM.refl S
  · split
    · exact smM.refl S
    · split
      · exact smM.refl S
      · exact ⟨rfl, rfl, rfl, rfl, rfl, rfl, rfl, rfl, rfl, rfl, rfl, rfl, rfl, rfl, rfl, rfl, rfl, rfl, rfl, rfl, rfl, rfl, rfl, rfl⟩
theorem iter_M {f : XS → Nat → XS} (hf : ∀ S i, smM (f S i) S) : ∀ d i S, smM (iterN f d i S) S := by
  intro d
  induction d with
  | zero => intro i S; exact smM.refl S
  | succ d ih => intro i S; exact (ih (i + 1) (f S i)).trans (hf S i)
theorem move_M (S : XS) : smM S.move S := by
  unfold XS.move
  simp only
  exact (iter_M movR_M _ _ _).trans ((iter_M movB_M _ _ _).trans ((refR_M _).trans ((refW_M _).trans ((iter_M movD_M _ _ _).trans ((iter_M (fun S t => movA_M S 3 t) _ _ _).trans (iter_M (fun S t => movA_M S 0 t) _ _ _))))))
/-- the crossbar alone has changed -/
theorem CV.swU {Γ : gm_T} {φ φ' : ph_T} {b : Nat} {S T : XS} (h : CV Γ φ b S) (f : Fr (b + 4) (bQ b S.nm S.ns) φ φ') (h1 : CSw Γ φ' (b + 4) T) (e : smM T S) : CV Γ φ' b T := by
  obtain ⟨e_nm, e_ns, e_lim, e_pol, e_whole, e_time, e_pages, e_mpat, e_spat, e_early, e_delay, e_way, e_mem, e_spo, e_tk, e_wi, e_tr, e_sw, e_sr, e_lat, e_chb, e_chr, e_rgt, e_mon⟩ := e
  obtain ⟨g1, g2, g3, g4⟩ := h.reg
  have n4 := h.lay.nm4
  have n5 := h.lay.ns4
  refine ⟨?_, ?_, ?_, ?_, h1, ?_, ?_, ?_, ?_, ?_, ?_⟩
  · rw [e_nm, e_ns]
    exact h.lay.up (f.r (by omega)) (f.r (by omega)) (f.r (by omega)) (f.r (by omega)) (f.r (by omega)) (f.r (by omega)) (f.r (by omega))
  · rw [e_tk, f.i (by omega)]; exact h.tc
  · rw [e_time, f.i (by omega)]; exact h.ti
  · rw [e_mem, e_spo]; exact h.mem.sm (f.sm (by omega))
  · rw [e_nm, e_ns, e_tk, e_mpat, e_early]
    intro m hm
    have := mA_in (b := b) (ns := S.ns) hm
    exact (h.ma m hm).sm (f.sm (by omega))
  · rw [e_nm, e_ns, e_tk]; exact h.tk.sm (f.sm (by omega))
  · rw [e_tk]; exact h.tko
  · rw [e_nm, e_ns, e_wi, e_tr]
    intro p hp
    have := pA_in (b := b) n4.2 n5.2 hp
    obtain ⟨hd, h'⟩ := h.po p hp
    exact ⟨hd, h'.sm (f.sm (by omega))⟩
  · rw [e_nm, e_ns, e_mon]
    intro p hp
    have := pA_in (b := b) n4.2 n5.2 hp
    exact (h.mo p hp).sm (f.sm (by omega))
  · rw [e_nm, e_ns]
    intro s hs
    have := sA_in (b := b) (nm := S.nm) hs
    exact ((h.sl s hs).sm (f.sm (by omega))).cg (congrFun e_sw s) (congrFun e_sr s) (congrFun e_spat s) (congrFun e_rgt s) (congrFun e_delay s) (congrFun e_way s) (fun i hi => by rw [← e_chb]; exact hi) (fun i hi => by rw [← e_chr]; exact hi) (congrFun e_lat s)
/-- cell b alone has changed -/
theorem CV.obU {Γ : gm_T} {φ φ' : ph_T} {b : Nat} {S : XS} (h : CV Γ φ b S) (f : Fr b (b + 1) φ φ') (e : φ'.2.2 = φ.2.2) (h8 : φ'.1 b 8 = nI S.tk.length) {t : Nat} (h9 : φ'.1 b 9 = nI t) : CV Γ φ' b (S.w_time t) := by
  obtain ⟨g1, g2, g3, g4⟩ := h.reg
  have n4 := h.lay.nm4
  have n5 := h.lay.ns4
  refine ⟨?_, h8, h9, ?_, ?_, ?_, ?_, h.tko, ?_, ?_, ?_⟩
  · exact h.lay.up (by rw [e]) (by rw [e]) (by rw [e]) (by rw [e]) (by rw [e]) (by rw [e]) (by rw [e])
  · exact h.mem.sm (f.sm (by omega))
  · exact (h.sw.sm (f.sm (by omega))).cg rfl rfl rfl rfl rfl rfl rfl rfl rfl rfl rfl rfl rfl rfl rfl rfl
  · intro m hm
    have := mA_in (b := b) (ns := S.ns) (show m < S.nm from hm)
    exact (h.ma m hm).sm (f.sm (by show _ ≤ b ∨ b + 1 ≤ mAd b S.nm S.ns m; omega))
  · exact h.tk.sm (f.sm (by show _ ≤ b ∨ b + 1 ≤ tAd b S.nm S.ns; omega))
  · intro p hp
    have := pA_in (b := b) n4.2 n5.2 (show okP S.nm S.ns p from hp)
    obtain ⟨hd, h'⟩ := h.po p hp
    exact ⟨hd, h'.sm (f.sm (by show _ ≤ b ∨ b + 1 ≤ pAd b S.nm S.ns p; omega))⟩
  · intro p hp
    have := pA_in (b := b) n4.2 n5.2 (show okP S.nm S.ns p from hp)
    exact (h.mo p hp).sm (f.sm (by show _ ≤ b ∨ b + 1 ≤ pAd b S.nm S.ns p + 7; omega))
  · intro s hs
    have := sA_in (b := b) (nm := S.nm) (show s < S.ns from hs)
    exact ((h.sl s hs).sm (f.sm (by omega))).cg rfl rfl rfl rfl rfl rfl (fun i hi => hi) (fun i hi => hi) rfl
/-- what ticks need of a state for the class, and keep -/
def StC (J : XS → Prop) (I : Nat → XS → Prop) (M : XS → Prop) : Prop := (∀ S, J S → ShC S ∧ I 0 S.sh) ∧ (GoC I) ∧ (∀ S, I 40 S → M S) ∧ (MvC M)
theorem StC.sh {J : XS → Prop} {I : Nat → XS → Prop} {M : XS → Prop} (h : StC J I M) : ∀ S, J S → ShC S ∧ I 0 S.sh := h.1
theorem StC.go {J : XS → Prop} {I : Nat → XS → Prop} {M : XS → Prop} (h : StC J I M) : GoC I := h.2.1
theorem StC.gm {J : XS → Prop} {I : Nat → XS → Prop} {M : XS → Prop} (h : StC J I M) : ∀ S, I 40 S → M S := h.2.2.1
theorem StC.mv {J : XS → Prop} {I : Nat → XS → Prop} {M : XS → Prop} (h : StC J I M) : MvC M := h.2.2.2
theorem time_g (T : XS) (t : Nat) : (T.w_time t).tk = T.tk := rfl
theorem c_tk {Γ : gm_T} {φ : ph_T} {b : Nat} {S : XS} {J : XS → Prop} {I : Nat → XS → Prop} {M : XS → Prop} (hI : StC J I M) (h : CV Γ φ b S) (hJ : J S) (K : ph_T → Nat → Int32 → Int32 → Int32 → Int32 → Option (Int32 × ph_T)) (x1 x2 x3 x4 : Int32) :
    ∃ φ', f_Bus_runTicks_L22 Γ K φ b x1 x2 x3 x4 = K φ' b x1 x2 (x3 + nI S.moves) (x4 + 1) ∧ CV Γ φ' b S.tk1 ∧ Fr b (tAd b S.nm S.ns + 256) φ φ' := by
  obtain ⟨hS, hI0⟩ := hI.sh S hJ
  have hB := hS.bd
  have n4 := hB.nm
  have n5 := hB.ns
  have h0 : CV Γ φ b (S.shP 0 0) := by rw [shP_0]; exact h
  obtain ⟨φ1, a1, a2, a3⟩ := c_sh25 hS K x1 x2 x3 x4 S.nm 0 jF φ (by omega) (by unfold jF; omega) h0
  obtain ⟨φ2, fu2, b1, b2, b4⟩ := c_sh111 hS K x1 x2 x3 x4 S.ns 0 jF φ1 (by omega) (by unfold jF; omega) a2
  have b3 := CV.toSh hB b2
  obtain ⟨φ3, c1, c2, c3, c4⟩ := c_goOver hI.go b3 hI0
  have c4' : Fr b (tAd b S.nm S.ns + 256) φ2 φ3 := c4
  have hgn : S.sh.goA.nm = S.nm := (goA_4 S.sh).2.1
  have hgs : S.sh.goA.ns = S.ns := (goA_4 S.sh).2.2.1
  have hM := hI.gm _ c3
  have hmM := move_M S.sh.goA
  have hg4 := goA_4 S.sh
  have hti : S.sh.goA.time = S.time := hg4.2.2.2
  obtain ⟨φ4, d1, d2, d3, d4, d5, d6⟩ := c_moveAll hI.mv c2.sw hM
  have htc3 := c2.lay
  generalize hG : S.sh.goA = G at *
  have hbq : b + 4 + swZ G.nm G.ns = bQ b G.nm G.ns := bQ_0 _ _ _
  have h4 : CV Γ φ4 b G.move := c2.swU (by rw [← hbq]; exact d6) d2 hmM
  have htime : G.move.time = S.time := hmM.2.2.2.2.2.1.trans hti
  have h9 : φ4.1 b 9 = nI S.time := by
    have := h4.ti
    rw [this, htime]
  have h5 : CV Γ (uI φ4 b 9 (nI (S.time + 1))) b (G.move.w_time (S.time + 1)) := by
    refine h4.obU (fr_uI (Fr.refl _ _ _) (by omega) _ _) rfl ?_ ?_
    · rw [uI_s, vz_ne _ (by decide)]; exact h4.tc
    · rw [uI_s, vz_same]
  have hreg := c2.reg
  have f4 : Fr b (tAd b S.nm S.ns + 256) φ3 φ4 := by
    rw [← hgn, ← hgs]
    exact d6.mono (by omega) (by omega)
  have f5 : Fr b (tAd b S.nm S.ns + 256) φ4 (uI φ4 b 9 (nI (S.time + 1))) := fr_uI (Fr.refl _ _ _) (by rw [← hgn, ← hgs]; omega) _ _
  refine ⟨uI φ4 b 9 (nI (S.time + 1)), ?_, ?_, a3.trans (b4.trans (c4'.trans (f4.trans f5)))⟩
  · unfold f_Bus_runTicks_L22
    rw [zI_0, a1, b1]
    have hL := b3.lay
    have hf3 : φ2.2.2 b 3 = some (sAd b S.sh.nm S.sh.ns 0 - 2) := hL.f3
    have hg3 : gA Γ (sAd b S.sh.nm S.sh.ns 0 - 2) 9 = some S.ns := hL.g3
    rw [f_Bus_runTicks_L111, if_pos hL.o, hf3, Option.bind_some, hg3, Option.bind_some, if_pos (Int32.le_refl _), c1, Option.bind_some]
    dsimp only
    rw [htc3.f1, Option.bind_some, if_pos c2.sw.lay.o, d1, Option.bind_some]
    dsimp only
    rw [h9, show nI S.time + (1 : Int32) = nI (S.time + 1) from by rw [zI_1, zI_add]]
    rfl
  · unfold XS.tk1
    rw [hG]
    exact h5
