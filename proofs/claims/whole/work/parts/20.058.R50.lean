/-! THE REFERENCE's STEP -/
def sm4 (T S : XS) : Prop := T.wi = S.wi ∧ T.nm = S.nm ∧ T.ns = S.ns ∧ T.time = S.time
theorem sm4.refl (S : XS) : sm4 S S := ⟨rfl, rfl, rfl, rfl⟩
theorem sm4.trans {U T S : XS} (h : sm4 U T) (g : sm4 T S) : sm4 U S := ⟨h.1.trans g.1, h.2.1.trans g.2.1, h.2.2.1.trans g.2.2.1, h.2.2.2.trans g.2.2.2⟩
theorem movA_4 (S : XS) (c t : Nat) : sm4 (S.movA c t) S := by
  unfold XS.movA
  repeat' split
  all_goals exact ⟨rfl, rfl, rfl, rfl⟩
theorem movD_4 (S : XS) (m : Nat) : sm4 (S.movD m) S := by
  unfold XS.movD
  repeat' split
  all_goals exact ⟨rfl, rfl, rfl, rfl⟩
theorem refW_4 (S : XS) : sm4 S.refW S := by
  unfold XS.refW
  repeat' split
  all_goals exact ⟨rfl, rfl, rfl, rfl⟩
theorem refR_4 (S : XS) : sm4 S.refR S := by
  unfold XS.refR
  repeat' split
  all_goals exact ⟨rfl, rfl, rfl, rfl⟩
theorem movB_4 (S : XS) (m : Nat) : sm4 (S.movB m) S := by
  unfold XS.movB
  repeat' split
  all_goals exact ⟨rfl, rfl, rfl, rfl⟩
theorem movR_4 (S : XS) (m : Nat) : sm4 (S.movR m) S := by
  unfold XS.movR
  split
  · exact sm4.refl S
  · split
    · exact sm4.refl S
    · split
      · exact sm4.refl S
      · exact ⟨rfl, rfl, rfl, rfl⟩
theorem iter_4 {f : XS → Nat → XS} (hf : ∀ S i, sm4 (f S i) S) : ∀ d i S, sm4 (iterN f d i S) S := by
  intro d
  induction d with
  | zero => intro i S; exact sm4.refl S
  | succ d ih => intro i S; exact (ih (i + 1) (f S i)).trans (hf S i)
theorem move_4 (S : XS) : sm4 S.move S := by
  unfold XS.move
  simp only
  exact (iter_4 movR_4 _ _ _).trans ((iter_4 movB_4 _ _ _).trans ((refR_4 _).trans ((refW_4 _).trans ((iter_4 movD_4 _ _ _).trans ((iter_4 (fun S t => movA_4 S 3 t) _ _ _).trans (iter_4 (fun S t => movA_4 S 0 t) _ _ _))))))
theorem goA_4 (S : XS) : sm4 S.goA S := iter_4 (fun S j => go1_fr S j) _ _ _
/-- what ticks need of a state, and keep -/
def StI (J : XS → Prop) (I : Nat → XS → Prop) (M : XS → Prop) : Prop := (∀ S, J S → ShI S ∧ I 0 S.sh) ∧ (GoI I) ∧ (∀ S, I 40 S → M S) ∧ (MvI M)
theorem StI.sh {J : XS → Prop} {I : Nat → XS → Prop} {M : XS → Prop} (h : StI J I M) : ∀ S, J S → ShI S ∧ I 0 S.sh := h.1
theorem StI.go {J : XS → Prop} {I : Nat → XS → Prop} {M : XS → Prop} (h : StI J I M) : GoI I := h.2.1
theorem StI.gm {J : XS → Prop} {I : Nat → XS → Prop} {M : XS → Prop} (h : StI J I M) : ∀ S, I 40 S → M S := h.2.2.1
theorem StI.mv {J : XS → Prop} {I : Nat → XS → Prop} {M : XS → Prop} (h : StI J I M) : MvI M := h.2.2.2
theorem hdP_4 {T S : XS} (h : sm4 T S) : T.hdP = S.hdP := by
  funext j
  unfold XS.hdP XS.isP
  rw [h.1, h.2.1, h.2.2.1]
theorem r_timeUp {Γ : gm_T} {φ : ph_T} {r : Nat} {T : XS} (h : RV Γ φ r T) (t : Nat) : RV Γ (uI φ r 6 (nI t)) r (T.w_time t) ∧ RFr r [0] φ (uI φ r 6 (nI t)) := by
  have f6 : RFr r [0] φ (uI φ r 6 (nI t)) := by repeat (first | exact RFr.refl _ _ _ | refine RFr.uI ?_ (by decide) _ _ | refine RFr.uL ?_ (by decide) _ _ | refine rfr_uO ?_ (by decide) _ _)
  refine ⟨?_, f6⟩
  exact ⟨(RL.up h.rl (congrFun f6.1 r)), (by
      rw [uI_s]
      exact ⟨h.sc.nm, h.sc.ns, h.sc.lim, h.sc.pol, h.sc.whole, vz_same _ _ _, h.sc.tk, h.sc.wm, h.sc.rm, h.sc.db, h.sc.er⟩), (by rw [f6.i 1 (by decide)]; exact h.pg), (by rw [f6.i 2 (by decide)]; exact h.mp), (by rw [f6.i 3 (by decide)]; exact h.sp), (by rw [f6.i 4 (by decide)]; exact h.ea), (by rw [f6.i 5 (by decide)]; exact h.de), (by rw [f6.i 6 (by decide)]; exact h.wa), (by rw [f6.i 7 (by decide), f6.i 8 (by decide)]; exact h.me), (by rw [f6.i 9 (by decide), f6.i 10 (by decide), f6.i 11 (by decide), f6.i 12 (by decide), f6.i 13 (by decide), f6.i 14 (by decide), f6.i 15 (by decide), f6.i 16 (by decide), f6.i 17 (by decide), f6.i 18 (by decide), f6.i 20 (by decide), f6.i 21 (by decide), f6.i 22 (by decide), f6.i 23 (by decide), f6.i 24 (by decide), f6.l 19 (by decide), f6.l 25 (by decide)]; exact h.tk), (by rw [f6.i 26 (by decide), f6.i 27 (by decide), f6.l 28 (by decide), f6.i 29 (by decide)]; exact h.wi), (by rw [f6.i 31 (by decide)]; exact h.tr), (by rw [f6.l 32 (by decide), f6.i 33 (by decide), f6.i 34 (by decide), f6.i 35 (by decide)]; exact h.row), (by rw [f6.i 36 (by decide), f6.i 37 (by decide), f6.i 38 (by decide), f6.i 39 (by decide)]; exact h.uw), (by rw [f6.i 40 (by decide), f6.i 41 (by decide), f6.i 42 (by decide)]; exact h.ur), (by rw [f6.i 43 (by decide), f6.i 44 (by decide), f6.i 45 (by decide), f6.i 46 (by decide), f6.i 47 (by decide)]; exact ⟨h.la.haw, h.la.har, h.la.hb, h.la.hg, h.la.hinn⟩), (by rw [f6.i 48 (by decide), f6.i 49 (by decide), f6.i 50 (by decide), f6.l 51 (by decide), f6.i 52 (by decide), f6.i 53 (by decide), f6.i 54 (by decide), f6.l 55 (by decide), f6.i 56 (by decide)]; exact h.sw), (by rw [f6.i 57 (by decide), f6.i 58 (by decide), f6.i 59 (by decide), f6.l 60 (by decide), f6.i 61 (by decide), f6.i 62 (by decide), f6.i 63 (by decide), f6.l 64 (by decide), f6.i 65 (by decide)]; exact h.sr), (by rw [f6.i 66 (by decide), f6.i 67 (by decide), f6.i 68 (by decide), f6.i 69 (by decide)]; exact ⟨h.ch.hnums, h.ch.hlat, h.ch.hchb, h.ch.hchr⟩), (by rw [f6.i 70 (by decide), f6.i 71 (by decide)]; exact h.rg), (by unfold maOf; rw [f6.i 72 (by decide), f6.l 73 (by decide), f6.i 74 (by decide), f6.i 75 (by decide), f6.i 76 (by decide), f6.i 77 (by decide), f6.i 78 (by decide), f6.i 79 (by decide), f6.i 80 (by decide), f6.i 81 (by decide), f6.l 82 (by decide), f6.i 83 (by decide), f6.i 84 (by decide), f6.i 85 (by decide), f6.l 86 (by decide), f6.i 87 (by decide)]; exact h.mo), (by rw [f6.i 88 (by decide), f6.i 89 (by decide), f6.l 90 (by decide), f6.i 91 (by decide)]; exact h.wt)⟩
theorem hdP_time (T : XS) (t : Nat) : (T.w_time t).hdP = T.hdP := rfl
theorem r_step {Γ : gm_T} {φ : ph_T} {r : Nat} {S : XS} {J : XS → Prop} {I : Nat → XS → Prop} {M : XS → Prop} (hI : StI J I M) (h : RV Γ φ r S) (hh : He φ r S) (hJ : J S) :
    ∃ φ', f_Ref_step Γ φ r = some (nI S.moves, φ') ∧ RV Γ φ' r S.tk1 ∧ He φ' r S.tk1 ∧ RFr r kAl φ φ' := by
  obtain ⟨hS, hI0⟩ := hI.sh S hJ
  have hB := hS.bd
  have hnm := hB.nm
  have hns := hB.ns
  have h0 : S.shA 0 = S := by
    unfold XS.shA
    have : (fun p => if p < 0 then S.showM p else S.wi p) = S.wi := by
      funext p
      rw [if_neg (by omega)]
    rw [this, XS.w_wi_self]
  have hA : RV Γ φ r (S.shA 0) := by rw [h0]; exact h
  obtain ⟨φ1, a1, a2, a3⟩ := r_st2 hS S.nm 0 jF φ (Nat.zero_add _) (by unfold jF; omega) hA hh
  rw [← shB_0] at a2
  have hh1 : He φ1 r S := fun j hj => by rw [a3.i 30 (by decide)]; exact hh j hj
  obtain ⟨φ2, b1, b2, b3⟩ := r_st23 hS S.ns 0 jF φ1 (Nat.zero_add _) (by unfold jF; omega) a2 hh1
  rw [← shC_0] at b2
  obtain ⟨φ3, c1, c2, c3⟩ := r_st44 hS 8 0 jF φ2 (Nat.zero_add _) (by unfold jF; omega) b2
  obtain ⟨φ4, d1, d2, d3, d4, d5⟩ := r_st77 hI.go (q := S.sh.mvP) (g := S.sh.hdP) 40 0 0 jF φ3 S.sh rfl (by unfold jF; omega) c2 hI0 hnm.2 hns.2 rfl rfl (fun i hi => by omega)
  have hM : M S.sh.goA := hI.gm _ d3
  obtain ⟨φ5, e1, e2, e3, e4⟩ := r_move hI.mv d2 hM
  have hm4 := move_4 S.sh.goA
  have hg4 := goA_4 S.sh
  have ht : S.sh.goA.move.time = S.time := hm4.2.2.2.trans hg4.2.2.2
  obtain ⟨t6, f6⟩ := r_timeUp e2 (S.time + 1)
  have f5 : RFr r kAl φ φ5 := (a3.mono (by decide)).trans ((b3.mono (by decide)).trans ((c3.mono (by decide)).trans ((d5.mono (by decide)).trans (e4.mono (by decide)))))
  refine ⟨uI φ5 r 6 (nI (S.time + 1)), ?_, ?_, ?_, f5.trans (f6.mono (by decide))⟩
  · unfold f_Ref_step
    rw [zI_0, a1, b1, c1, d1, f_Ref_step_L77, show (40 : Int32) = nI 40 from rfl, if_pos (Int32.le_refl _), if_pos d2.rl.o]
    have e1' : f_Ref_move Γ φ4 r = some ((), φ5) := e1
    rw [e1', Option.bind_some]
    have e6 : φ5.1 r 6 = nI S.time := by
      have := e2.sc.time
      rw [this]
      exact congrArg nI ht
    rw [e6, zI_1, zI_add]
    rfl
  · exact t6
  · have hf : sm4 S.sh.goA.move S.sh := hm4.trans hg4
    have hd : S.tk1.hdP = S.sh.hdP := by
      unfold XS.tk1
      rw [hdP_time]
      exact hdP_4 hf
    refine He.mk (fun i hi => ?_) hd
    rw [f6.i 30 (by decide), e4.i 30 (by decide)]
    exact d4 i hi
