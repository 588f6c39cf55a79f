/-! ALL IS CLEARED: the reference -/
theorem VMo.cg {A : MA} {mon mon' : Nat → MO} (h : VMo A mon) (e : ∀ p, p < 10 → mon' p = mon p) : VMo A mon' := fun p hp => by rw [e p hp]; exact h p hp
def kCl : List Nat := [0, 1, 2, 3, 4, 5, 6, 7, 8, 26, 27, 28, 29, 30, 31, 35, 43, 44, 45, 46, 47, 48, 50, 57, 59, 66, 67, 70, 72, 73, 74, 75, 76, 77, 78, 79, 80, 81, 82, 83, 84, 85, 86, 87, 88, 89, 90, 91]
def kCe : List Nat := [72, 73, 74, 75, 76, 77, 78, 79, 80, 81, 82, 83, 84, 85, 86, 87, 88, 89, 90, 91]
theorem r_clL354 {Γ : gm_T} {r : Nat} : ∀ (d i fu : Nat) (φ : ph_T) (T : XS), i + d = 10 → d < fu → RV Γ φ r T →
    ∃ φ', f_Ref_clear_L354 Γ fu φ r (nI i) = some ((), φ') ∧ RV Γ φ' r ((T.w_mon (fun p => if i ≤ p then (T.mon p).beg else T.mon p)).w_wi (va_up (va_up T.wi 8 WI0) 9 WI0)) ∧ RFr r kCe φ φ' := by
  intro d
  induction d with
  | zero =>
    intro i fu φ T hd hfu h
    match fu, hfu with
    | fu + 1, _ =>
      obtain ⟨φ1, a1, a2, a3⟩ := r_blank (w := 0) (by omega) h
      obtain ⟨φ2, b1, b2, b3⟩ := r_blank (w := 1) (by omega) a2
      refine ⟨φ2, ?_, ?_, (a3.mono (by decide)).trans (b3.mono (by decide))⟩
      · rw [f_Ref_clear_L354, if_pos (by rw [show (10 : Int32) = nI 10 from rfl, zI_le (by omega) (by omega)]; omega), if_pos h.rl.o, zI_0, a1, Option.bind_some]
        show (Option.bind (f_Ref_blank Γ φ1 r (nI 1)) _) = _
        rw [b1]
        rfl
      · have f0 : RFr r [] φ2 φ2 := RFr.refl _ _ _
        refine ⟨(RL.up b2.rl (congrFun f0.1 r)), (by rw [f0.o (by decide)]; exact ⟨b2.sc.nm, b2.sc.ns, b2.sc.lim, b2.sc.pol, b2.sc.whole, b2.sc.time, b2.sc.tk, b2.sc.wm, b2.sc.rm, b2.sc.db, b2.sc.er⟩), (by rw [f0.i 1 (by decide)]; exact b2.pg), (by rw [f0.i 2 (by decide)]; exact b2.mp), (by rw [f0.i 3 (by decide)]; exact b2.sp), (by rw [f0.i 4 (by decide)]; exact b2.ea), (by rw [f0.i 5 (by decide)]; exact b2.de), (by rw [f0.i 6 (by decide)]; exact b2.wa), (by rw [f0.i 7 (by decide), f0.i 8 (by decide)]; exact b2.me), (by rw [f0.i 9 (by decide), f0.i 10 (by decide), f0.i 11 (by decide), f0.i 12 (by decide), f0.i 13 (by decide), f0.i 14 (by decide), f0.i 15 (by decide), f0.i 16 (by decide), f0.i 17 (by decide), f0.i 18 (by decide), f0.i 20 (by decide), f0.i 21 (by decide), f0.i 22 (by decide), f0.i 23 (by decide), f0.i 24 (by decide), f0.l 19 (by decide), f0.l 25 (by decide)]; exact b2.tk), (by rw [f0.i 26 (by decide), f0.i 27 (by decide), f0.l 28 (by decide), f0.i 29 (by decide)]; exact b2.wi), (by rw [f0.i 31 (by decide)]; exact b2.tr), (by rw [f0.l 32 (by decide), f0.i 33 (by decide), f0.i 34 (by decide), f0.i 35 (by decide)]; exact b2.row), (by rw [f0.i 36 (by decide), f0.i 37 (by decide), f0.i 38 (by decide), f0.i 39 (by decide)]; exact b2.uw), (by rw [f0.i 40 (by decide), f0.i 41 (by decide), f0.i 42 (by decide)]; exact b2.ur), (by rw [f0.i 43 (by decide), f0.i 44 (by decide), f0.i 45 (by decide), f0.i 46 (by decide), f0.i 47 (by decide)]; exact ⟨b2.la.haw, b2.la.har, b2.la.hb, b2.la.hg, b2.la.hinn⟩), (by rw [f0.i 48 (by decide), f0.i 49 (by decide), f0.i 50 (by decide), f0.l 51 (by decide), f0.i 52 (by decide), f0.i 53 (by decide), f0.i 54 (by decide), f0.l 55 (by decide), f0.i 56 (by decide)]; exact b2.sw), (by rw [f0.i 57 (by decide), f0.i 58 (by decide), f0.i 59 (by decide), f0.l 60 (by decide), f0.i 61 (by decide), f0.i 62 (by decide), f0.i 63 (by decide), f0.l 64 (by decide), f0.i 65 (by decide)]; exact b2.sr), (by rw [f0.i 66 (by decide), f0.i 67 (by decide), f0.i 68 (by decide), f0.i 69 (by decide)]; exact ⟨b2.ch.hnums, b2.ch.hlat, b2.ch.hchb, b2.ch.hchr⟩), (by rw [f0.i 70 (by decide), f0.i 71 (by decide)]; exact b2.rg), ?_, (by rw [f0.i 88 (by decide), f0.i 89 (by decide), f0.l 90 (by decide), f0.i 91 (by decide)]; exact b2.wt)⟩
        exact VMo.cg b2.mo (fun p hp => if_neg (by omega))
  | succ d ih =>
    intro i fu φ T hd hfu h
    match fu, hfu with
    | fu + 1, hfu =>
      obtain ⟨φ1, a1, a2, a3⟩ := r_beginMon (show i < 10 by omega) h
      obtain ⟨φ', b1, b2, b3⟩ := ih (i + 1) fu φ1 _ (by omega) (by omega) a2
      refine ⟨φ', ?_, ?_, (a3.mono (by decide)).trans b3⟩
      · rw [f_Ref_clear_L354, if_neg (by rw [show (10 : Int32) = nI 10 from rfl, zI_le (by omega) (by omega)]; omega), if_pos h.rl.o, a1, Option.bind_some, show nI i + (1 : Int32) = nI (i + 1) from by rw [zI_1, zI_add]]
        exact b1
      · have f0 : RFr r [] φ' φ' := RFr.refl _ _ _
        refine ⟨(RL.up b2.rl (congrFun f0.1 r)), (by rw [f0.o (by decide)]; exact ⟨b2.sc.nm, b2.sc.ns, b2.sc.lim, b2.sc.pol, b2.sc.whole, b2.sc.time, b2.sc.tk, b2.sc.wm, b2.sc.rm, b2.sc.db, b2.sc.er⟩), (by rw [f0.i 1 (by decide)]; exact b2.pg), (by rw [f0.i 2 (by decide)]; exact b2.mp), (by rw [f0.i 3 (by decide)]; exact b2.sp), (by rw [f0.i 4 (by decide)]; exact b2.ea), (by rw [f0.i 5 (by decide)]; exact b2.de), (by rw [f0.i 6 (by decide)]; exact b2.wa), (by rw [f0.i 7 (by decide), f0.i 8 (by decide)]; exact b2.me), (by rw [f0.i 9 (by decide), f0.i 10 (by decide), f0.i 11 (by decide), f0.i 12 (by decide), f0.i 13 (by decide), f0.i 14 (by decide), f0.i 15 (by decide), f0.i 16 (by decide), f0.i 17 (by decide), f0.i 18 (by decide), f0.i 20 (by decide), f0.i 21 (by decide), f0.i 22 (by decide), f0.i 23 (by decide), f0.i 24 (by decide), f0.l 19 (by decide), f0.l 25 (by decide)]; exact b2.tk), (by rw [f0.i 26 (by decide), f0.i 27 (by decide), f0.l 28 (by decide), f0.i 29 (by decide)]; exact b2.wi), (by rw [f0.i 31 (by decide)]; exact b2.tr), (by rw [f0.l 32 (by decide), f0.i 33 (by decide), f0.i 34 (by decide), f0.i 35 (by decide)]; exact b2.row), (by rw [f0.i 36 (by decide), f0.i 37 (by decide), f0.i 38 (by decide), f0.i 39 (by decide)]; exact b2.uw), (by rw [f0.i 40 (by decide), f0.i 41 (by decide), f0.i 42 (by decide)]; exact b2.ur), (by rw [f0.i 43 (by decide), f0.i 44 (by decide), f0.i 45 (by decide), f0.i 46 (by decide), f0.i 47 (by decide)]; exact ⟨b2.la.haw, b2.la.har, b2.la.hb, b2.la.hg, b2.la.hinn⟩), (by rw [f0.i 48 (by decide), f0.i 49 (by decide), f0.i 50 (by decide), f0.l 51 (by decide), f0.i 52 (by decide), f0.i 53 (by decide), f0.i 54 (by decide), f0.l 55 (by decide), f0.i 56 (by decide)]; exact b2.sw), (by rw [f0.i 57 (by decide), f0.i 58 (by decide), f0.i 59 (by decide), f0.l 60 (by decide), f0.i 61 (by decide), f0.i 62 (by decide), f0.i 63 (by decide), f0.l 64 (by decide), f0.i 65 (by decide)]; exact b2.sr), (by rw [f0.i 66 (by decide), f0.i 67 (by decide), f0.i 68 (by decide), f0.i 69 (by decide)]; exact ⟨b2.ch.hnums, b2.ch.hlat, b2.ch.hchb, b2.ch.hchr⟩), (by rw [f0.i 70 (by decide), f0.i 71 (by decide)]; exact b2.rg), ?_, (by rw [f0.i 88 (by decide), f0.i 89 (by decide), f0.l 90 (by decide), f0.i 91 (by decide)]; exact b2.wt)⟩
        refine VMo.cg b2.mo (fun p hp => ?_)
        show (if i ≤ p then (T.mon p).beg else T.mon p) = (if i + 1 ≤ p then (va_up T.mon i (T.mon i).beg p).beg else va_up T.mon i (T.mon i).beg p)
        by_cases e : p = i
        · subst e
          rw [if_pos (Nat.le_refl _), if_neg (by omega), vz_same]
        · rw [vz_ne _ e]
          by_cases g : i ≤ p
          · rw [if_pos g, if_pos (by omega)]
          · rw [if_neg g, if_neg (by omega)]
theorem r_clear {Γ : gm_T} {φ : ph_T} {r : Nat} {S : XS} (h : RL Γ φ r) (n4 : 1 ≤ S.nm ∧ S.nm ≤ 4) (n5 : 1 ≤ S.ns ∧ S.ns ≤ 4) (s1 : φ.1 r 1 = nI S.nm) (s2 : φ.1 r 2 = nI S.ns) (s3 : φ.1 r 3 = nI S.lim) (hmo : VMo (maOf φ r) S.mon) (hwt : VWi (φ.1 (r + 88)) (φ.1 (r + 89)) (φ.2.1 (r + 90)) (φ.1 (r + 91)) 2 (fun p => S.wi (8 + p))) :
    ∃ φ', f_Ref_clear Γ φ r = some ((), φ') ∧ RV Γ φ' r S.clr ∧ He φ' r S.clr ∧ RFr r kCl φ φ' := by
  obtain ⟨φ0, hφ0⟩ : ∃ φ0, φ0 = uI (uI (uI (uI (uI (uI (uI (uI φ r 0 (0 : Int32)) r 4 (1 : Int32)) r 5 (0 : Int32)) r 6 (0 : Int32)) r 15 (0 : Int32)) r 47 (0 : Int32)) r 51 (0 : Int32)) r 57 (0 : Int32) := ⟨_, rfl⟩
  have f0 : RFr r [0] φ φ0 := by subst hφ0; exact rfr_uO (rfr_uO (rfr_uO (rfr_uO (rfr_uO (rfr_uO (rfr_uO (rfr_uO (RFr.refl _ _ _) (by decide) _ _) (by decide) _ _) (by decide) _ _) (by decide) _ _) (by decide) _ _) (by decide) _ _) (by decide) _ _) (by decide) _ _
  have q0 : φ0.1 r = va_up (va_up (va_up (va_up (va_up (va_up (va_up (va_up (φ.1 r) 0 (0 : Int32)) 4 (1 : Int32)) 5 (0 : Int32)) 6 (0 : Int32)) 15 (0 : Int32)) 47 (0 : Int32)) 51 (0 : Int32)) 57 (0 : Int32) := by
    subst hφ0
    rw [uI_s, uI_s, uI_s, uI_s, uI_s, uI_s, uI_s, uI_s]
  have p1 : φ0.1 r 1 = nI S.nm := by rw [q0, vz_ne _ (by decide), vz_ne _ (by decide), vz_ne _ (by decide), vz_ne _ (by decide), vz_ne _ (by decide), vz_ne _ (by decide), vz_ne _ (by decide), vz_ne _ (by decide)]; exact s1
  have p2 : φ0.1 r 2 = nI S.ns := by rw [q0, vz_ne _ (by decide), vz_ne _ (by decide), vz_ne _ (by decide), vz_ne _ (by decide), vz_ne _ (by decide), vz_ne _ (by decide), vz_ne _ (by decide), vz_ne _ (by decide)]; exact s2
  obtain ⟨φ1, a1, a2, a3⟩ := r_clL42 (Γ := Γ) (r := r) (nm := S.nm) n5 16 0 jF φ0 rfl (by unfold jF; omega) (h.up (congrFun f0.1 r)) p2 (fun j hj => by omega)
  obtain ⟨φ2, b1, b2, b3⟩ := r_clL82 (Γ := Γ) (r := r) (nm := S.nm) (ns := S.ns) 20 0 jF φ1 rfl (by unfold jF; omega) (h.up (congrFun (f0.1 ▸ a2.1) r)) (fun j hj => by omega)
  have l2 : RL Γ φ2 r := h.up (by rw [b2.1, a2.1, f0.1])
  obtain ⟨φ3, c1, c2, c3⟩ := r_clL114 (Γ := Γ) (r := r) 40 0 jF φ2 rfl (by unfold jF; omega) l2 (fun j hj => by omega)
  have l3 : RL Γ φ3 r := l2.up (by rw [c2.1])
  obtain ⟨φ4, d1, d2, d3⟩ := r_clL157 (Γ := Γ) (r := r) (nm := S.nm) (ns := S.ns) 45 0 jF φ3 rfl (by unfold jF; omega) l3 (fun j hj => by omega)
  have l4 : RL Γ φ4 r := l3.up (by rw [d2.1])
  have o4 : φ4.1 r = φ0.1 r := by rw [d2.o (by decide), c2.o (by decide), b2.o (by decide), a2.o (by decide)]
  obtain ⟨φ5, e1, e2, e3⟩ := r_clL178 (Γ := Γ) (r := r) (ns := S.ns) n4 5 0 jF φ4 rfl (by unfold jF; omega) l4 (by rw [o4]; exact p1) (fun j hj => by omega)
  have l5 : RL Γ φ5 r := l4.up (by rw [e2.1])
  have o5 : φ5.1 r = φ0.1 r := by rw [e2.o (by decide), o4]
  obtain ⟨φ6, g1, g2, g3⟩ := r_clL215 (Γ := Γ) (r := r) (nm := S.nm) (ns := S.ns) 4 0 jF φ5 rfl (by unfold jF; omega) l5 (by rw [o5]; exact p2) (fun j hj => by omega)
  have l6 : RL Γ φ6 r := l5.up (by rw [g2.1])
  obtain ⟨φ7, i1, i2, i3⟩ := r_clL304 (Γ := Γ) (r := r) (nm := S.nm) (ns := S.ns) 256 0 jF φ6 rfl (by unfold jF; omega) l6 (fun j hj => by omega)
  have l7 : RL Γ φ7 r := l6.up (by rw [i2.1])
  obtain ⟨φ8, j1, j2, j3⟩ := r_clL326 (Γ := Γ) (r := r) (nm := S.nm) (ns := S.ns) 65536 0 jF φ7 rfl (by unfold jF; omega) l7 (fun j hj => by omega)
  have l8 : RL Γ φ8 r := l7.up (by rw [j2.1])
  have o8 : φ8.1 r = φ0.1 r := by rw [j2.o (by decide), i2.o (by decide), g2.o (by decide), o5]
  -- what later loops leave alone
  have F78 : RFr r [7, 8] φ7 φ8 := j2
  have F68 : RFr r [7, 8, 70] φ6 φ8 := (i2.mono (by decide)).trans (j2.mono (by decide))
  have F58 : RFr r [4, 5, 6, 45, 46, 47, 48, 57, 66, 67, 7, 8, 70] φ5 φ8 := (g2.mono (by decide)).trans (F68.mono (by decide))
  have F48 : RFr r [43, 44, 4, 5, 6, 45, 46, 47, 48, 57, 66, 67, 7, 8, 70] φ4 φ8 := (e2.mono (by decide)).trans (F58.mono (by decide))
  have F38 : RFr r [35, 43, 44, 4, 5, 6, 45, 46, 47, 48, 57, 66, 67, 7, 8, 70] φ3 φ8 := (d2.mono (by decide)).trans (F48.mono (by decide))
  have F28 : RFr r [26, 27, 28, 29, 30, 31, 35, 43, 44, 4, 5, 6, 45, 46, 47, 48, 57, 66, 67, 7, 8, 70] φ2 φ8 := (c2.mono (by decide)).trans (F38.mono (by decide))
  have F18 : RFr r [2, 3, 26, 27, 28, 29, 30, 31, 35, 43, 44, 4, 5, 6, 45, 46, 47, 48, 57, 66, 67, 7, 8, 70] φ1 φ8 := (b2.mono (by decide)).trans (F28.mono (by decide))
  have F08 : RFr r [0, 1, 50, 59, 2, 3, 26, 27, 28, 29, 30, 31, 35, 43, 44, 4, 5, 6, 45, 46, 47, 48, 57, 66, 67, 7, 8, 70] φ φ8 := (f0.mono (by decide)).trans ((a2.mono (by decide)).trans (F18.mono (by decide)))
  obtain ⟨T, hT⟩ : ∃ T, T = (S.clr.w_mon S.mon).w_wi (fun p => if p < 8 then WI0 else S.wi p) := ⟨_, rfl⟩
  have hV : RV Γ φ8 r T := by
    subst hT
    refine ⟨l8, ⟨?_, ?_, ?_, ?_, ?_, ?_, ?_, ?_, ?_, ?_, ?_⟩, ?_, ?_, ?_, ?_, ?_, ?_, ?_, VTk_nil, ?_, ?_, ⟨?_, ?_, ?_⟩, ⟨Nat.zero_le _, (fun k e he => by cases he)⟩, ⟨Nat.zero_le _, (fun k e he => by cases he)⟩, ⟨?_, ?_, ?_, ?_, ?_⟩, ⟨?_, ?_, ?_, ?_, ?_, ?_, ?_⟩, ⟨?_, ?_, ?_, ?_, ?_, ?_, ?_⟩, ⟨?_, ?_, ?_, ?_⟩, ?_, ?_, ?_⟩
    · rw [o8]; exact p1
    · rw [o8]; exact p2
    · rw [o8, q0, vz_ne _ (by decide), vz_ne _ (by decide), vz_ne _ (by decide), vz_ne _ (by decide), vz_ne _ (by decide), vz_ne _ (by decide), vz_ne _ (by decide), vz_ne _ (by decide)]; exact s3
    · rw [o8, q0, vz_ne _ (by decide), vz_ne _ (by decide), vz_ne _ (by decide), vz_ne _ (by decide), vz_ne _ (by decide), vz_ne _ (by decide), vz_same]; rfl
    · rw [o8, q0, vz_ne _ (by decide), vz_ne _ (by decide), vz_ne _ (by decide), vz_ne _ (by decide), vz_ne _ (by decide), vz_same]; rfl
    · rw [o8, q0, vz_ne _ (by decide), vz_ne _ (by decide), vz_ne _ (by decide), vz_ne _ (by decide), vz_same]; rfl
    · rw [o8, q0, vz_ne _ (by decide), vz_ne _ (by decide), vz_ne _ (by decide), vz_same]; rfl
    · rw [o8, q0, vz_ne _ (by decide), vz_ne _ (by decide), vz_same]; rfl
    · rw [o8, q0, vz_ne _ (by decide), vz_same]; rfl
    · rw [o8, q0, vz_same]; rfl
    · rw [o8, q0, vz_ne _ (by decide), vz_ne _ (by decide), vz_ne _ (by decide), vz_ne _ (by decide), vz_ne _ (by decide), vz_ne _ (by decide), vz_ne _ (by decide), vz_same]; rfl
    · intro p hp
      have := (a3 p hp).1
      rw [F18.i 1 (by decide), this]
      show nI (p % S.ns) = if p % S.ns = S.ns then m1 else nI (p % S.ns)
      rw [if_neg (by have := Nat.mod_lt p (show 0 < S.ns by omega); omega)]
    · intro m c hm hc
      rw [F28.i 2 (by decide)]; exact (b3 (5 * m + c) (by omega)).1
    · intro m c hm hc
      rw [F28.i 3 (by decide)]; exact (b3 (5 * m + c) (by omega)).2
    · intro m hm
      rw [F68.i 4 (by decide)]; exact (g3 m hm).1
    · intro m hm
      rw [F68.i 5 (by decide)]; exact (g3 m hm).2.1
    · intro m hm
      rw [F68.i 6 (by decide)]; exact (g3 m hm).2.2.1
    · intro y hy
      exact j3 y hy
    · intro p k hp hk
      have := c3 (5 * p + k) (by omega)
      rw [F38.i 26 (by decide), F38.i 27 (by decide), F38.l 28 (by decide), F38.i 29 (by decide)]
      show φ3.1 (r + 26) (5 * p + k) = bI ((if p < 8 then WI0 else S.wi p).w k).v ∧ φ3.1 (r + 27) (5 * p + k) = bI ((if p < 8 then WI0 else S.wi p).rd k) ∧ φ3.2.1 (r + 28) (5 * p + k) = ((if p < 8 then WI0 else S.wi p).w k).c ∧ φ3.1 (r + 29) (5 * p + k) = ((if p < 8 then WI0 else S.wi p).w k).r
      rw [if_pos hp]
      exact ⟨this.1, this.2.1, this.2.2.1, this.2.2.2.1⟩
    · intro p k hp hk
      rw [F38.i 31 (by decide)]; exact (c3 (5 * p + k) (by omega)).2.2.2.2.2
    · intro i hi
      rw [F48.i 35 (by decide)]; exact d3 i hi
    · intro i hi; exact Nat.zero_le _
    · intro i k e hi he; cases he
    · intro t ht
      rw [F58.i 43 (by decide)]; exact (e3 t ht).1
    · intro t ht
      rw [F58.i 44 (by decide)]; exact (e3 t ht).2
    · intro t ht
      rw [F68.i 45 (by decide)]; exact (g3 t ht).2.2.2.1
    · intro t ht
      rw [F68.i 46 (by decide)]; exact (g3 t ht).2.2.2.2.1
    · intro t ht
      rw [F68.i 47 (by decide)]; exact (g3 t ht).2.2.2.2.2.1
    · intro s hs; exact Nat.zero_le _
    · intro s hs
      rw [F68.i 48 (by decide)]; exact (g3 s hs).2.2.2.2.2.2.1
    · intro s k e hs he; cases he
    · intro s p hs h1 h2
      rw [F18.i 50 (by decide)]; exact (a3 p (by omega)).2.1
    · intro s hs; exact List.nodup_nil
    · intro s k e hs he; cases he
    · intro s k e hs he; cases he
    · intro s hs; exact Nat.zero_le _
    · intro s hs
      rw [F68.i 57 (by decide)]; exact (g3 s hs).2.2.2.2.2.2.2.1
    · intro s k e hs he; cases he
    · intro s p hs h1 h2
      rw [F18.i 59 (by decide)]; exact (a3 p (by omega)).2.2
    · intro s hs; exact List.nodup_nil
    · intro s k e hs he; cases he
    · intro s k e hs he; cases he
    · intro s hs
      rw [F68.i 66 (by decide)]; exact (g3 s hs).2.2.2.2.2.2.2.2.1
    · intro s hs
      rw [F68.i 67 (by decide)]; exact (g3 s hs).2.2.2.2.2.2.2.2.2
    · intro s i hs hi; cases hi
    · intro s i hs hi; cases hi
    · intro s j hs hj
      rw [F78.i 70 (by decide)]; exact ⟨i3 (64 * s + j) (by omega), (fun q hq => by cases hq)⟩
    · unfold maOf
      rw [F08.i 72 (by decide), F08.l 73 (by decide), F08.i 74 (by decide), F08.i 75 (by decide), F08.i 76 (by decide), F08.i 77 (by decide), F08.i 78 (by decide), F08.i 79 (by decide), F08.i 80 (by decide), F08.i 81 (by decide), F08.l 82 (by decide), F08.i 83 (by decide), F08.i 84 (by decide), F08.i 85 (by decide), F08.l 86 (by decide), F08.i 87 (by decide)]
      exact hmo
    · rw [F08.i 88 (by decide), F08.i 89 (by decide), F08.l 90 (by decide), F08.i 91 (by decide)]
      intro p k hp hk
      have := hwt p k hp hk
      have e : ((fun p => if p < 8 then WI0 else S.wi p) (8 + p)) = S.wi (8 + p) := if_neg (by omega)
      show φ.1 (r + 88) (5 * p + k) = bI (((fun p => if p < 8 then WI0 else S.wi p) (8 + p)).w k).v ∧ φ.1 (r + 89) (5 * p + k) = bI (((fun p => if p < 8 then WI0 else S.wi p) (8 + p)).rd k) ∧ φ.2.1 (r + 90) (5 * p + k) = (((fun p => if p < 8 then WI0 else S.wi p) (8 + p)).w k).c ∧ φ.1 (r + 91) (5 * p + k) = (((fun p => if p < 8 then WI0 else S.wi p) (8 + p)).w k).r
      rw [e]
      exact this
  obtain ⟨φ9, k1, k2, k3⟩ := r_clL354 10 0 jF φ8 T rfl (by unfold jF; omega) hV
  refine ⟨φ9, ?_, ?_, ?_, (F08.mono (by decide)).trans (k3.mono (by decide))⟩
  · unfold f_Ref_clear
    rw [if_pos h.o, if_pos (by decide), ← hφ0, zI_0]
    show f_Ref_clear_L42 Γ jF φ0 r (nI 0) = _
    rw [a1, b1, c1, d1, e1, g1, i1, j1, k1]
  · subst hT
    have ff : RFr r [] φ9 φ9 := RFr.refl _ _ _
    refine ⟨(RL.up k2.rl (congrFun ff.1 r)), (by rw [ff.o (by decide)]; exact ⟨k2.sc.nm, k2.sc.ns, k2.sc.lim, k2.sc.pol, k2.sc.whole, k2.sc.time, k2.sc.tk, k2.sc.wm, k2.sc.rm, k2.sc.db, k2.sc.er⟩), (by rw [ff.i 1 (by decide)]; exact k2.pg), (by rw [ff.i 2 (by decide)]; exact k2.mp), (by rw [ff.i 3 (by decide)]; exact k2.sp), (by rw [ff.i 4 (by decide)]; exact k2.ea), (by rw [ff.i 5 (by decide)]; exact k2.de), (by rw [ff.i 6 (by decide)]; exact k2.wa), (by rw [ff.i 7 (by decide), ff.i 8 (by decide)]; exact k2.me), (by rw [ff.i 9 (by decide), ff.i 10 (by decide), ff.i 11 (by decide), ff.i 12 (by decide), ff.i 13 (by decide), ff.i 14 (by decide), ff.i 15 (by decide), ff.i 16 (by decide), ff.i 17 (by decide), ff.i 18 (by decide), ff.i 20 (by decide), ff.i 21 (by decide), ff.i 22 (by decide), ff.i 23 (by decide), ff.i 24 (by decide), ff.l 19 (by decide), ff.l 25 (by decide)]; exact k2.tk), ?_, (by rw [ff.i 31 (by decide)]; exact k2.tr), (by rw [ff.l 32 (by decide), ff.i 33 (by decide), ff.i 34 (by decide), ff.i 35 (by decide)]; exact k2.row), (by rw [ff.i 36 (by decide), ff.i 37 (by decide), ff.i 38 (by decide), ff.i 39 (by decide)]; exact k2.uw), (by rw [ff.i 40 (by decide), ff.i 41 (by decide), ff.i 42 (by decide)]; exact k2.ur), (by rw [ff.i 43 (by decide), ff.i 44 (by decide), ff.i 45 (by decide), ff.i 46 (by decide), ff.i 47 (by decide)]; exact ⟨k2.la.haw, k2.la.har, k2.la.hb, k2.la.hg, k2.la.hinn⟩), (by rw [ff.i 48 (by decide), ff.i 49 (by decide), ff.i 50 (by decide), ff.l 51 (by decide), ff.i 52 (by decide), ff.i 53 (by decide), ff.i 54 (by decide), ff.l 55 (by decide), ff.i 56 (by decide)]; exact k2.sw), (by rw [ff.i 57 (by decide), ff.i 58 (by decide), ff.i 59 (by decide), ff.l 60 (by decide), ff.i 61 (by decide), ff.i 62 (by decide), ff.i 63 (by decide), ff.l 64 (by decide), ff.i 65 (by decide)]; exact k2.sr), (by rw [ff.i 66 (by decide), ff.i 67 (by decide), ff.i 68 (by decide), ff.i 69 (by decide)]; exact ⟨k2.ch.hnums, k2.ch.hlat, k2.ch.hchb, k2.ch.hchr⟩), (by rw [ff.i 70 (by decide), ff.i 71 (by decide)]; exact k2.rg), ?_, ?_⟩
    · intro p k hp hk
      have := k2.wi p k hp hk
      have e : (va_up (va_up (fun p => if p < 8 then WI0 else S.wi p) 8 WI0) 9 WI0) p = WI0 := by
        rw [vz_ne _ (by omega), vz_ne _ (by omega)]; exact if_pos hp
      have t : φ9.1 (r + 26) (5 * p + k) = bI (((va_up (va_up (fun p => if p < 8 then WI0 else S.wi p) 8 WI0) 9 WI0) p).w k).v ∧ φ9.1 (r + 27) (5 * p + k) = bI (((va_up (va_up (fun p => if p < 8 then WI0 else S.wi p) 8 WI0) 9 WI0) p).rd k) ∧ φ9.2.1 (r + 28) (5 * p + k) = (((va_up (va_up (fun p => if p < 8 then WI0 else S.wi p) 8 WI0) 9 WI0) p).w k).c ∧ φ9.1 (r + 29) (5 * p + k) = (((va_up (va_up (fun p => if p < 8 then WI0 else S.wi p) 8 WI0) 9 WI0) p).w k).r := this
      rw [e] at t
      exact t
    · exact VMo.cg k2.mo (fun p hp => rfl)
    · intro p k hp hk
      have := k2.wt p k hp hk
      have e : (va_up (va_up (fun p => if p < 8 then WI0 else S.wi p) 8 WI0) 9 WI0) (8 + p) = WI0 := by
        by_cases g : p = 0
        · subst g; rfl
        · have : p = 1 := by omega
          subst this; rfl
      have t : φ9.1 (r + 88) (5 * p + k) = bI (((va_up (va_up (fun p => if p < 8 then WI0 else S.wi p) 8 WI0) 9 WI0) (8 + p)).w k).v ∧ φ9.1 (r + 89) (5 * p + k) = bI (((va_up (va_up (fun p => if p < 8 then WI0 else S.wi p) 8 WI0) 9 WI0) (8 + p)).rd k) ∧ φ9.2.1 (r + 90) (5 * p + k) = (((va_up (va_up (fun p => if p < 8 then WI0 else S.wi p) 8 WI0) 9 WI0) (8 + p)).w k).c ∧ φ9.1 (r + 91) (5 * p + k) = (((va_up (va_up (fun p => if p < 8 then WI0 else S.wi p) 8 WI0) 9 WI0) (8 + p)).w k).r := this
      rw [e] at t
      exact t
  · intro j hj
    rw [k3.i 30 (by decide), F38.i 30 (by decide), (c3 j hj).2.2.2.2.1]
    unfold XS.hdP
    rw [show hdW (S.clr.wi (j / 5)) (j % 5) = false from rfl, Bool.and_false]
    rfl
