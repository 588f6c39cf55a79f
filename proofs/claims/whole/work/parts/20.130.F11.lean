/-! THE FACE: ticks -/
theorem JI.lows {k S} : ∀ d, JI (k + d) S → JI k S := by
  intro d
  induction d with
  | zero => exact id
  | succ d ih => exact fun h => ih (JI.low h)
theorem tkN_fr : ∀ (n : Nat) (S : XS), (S.tkN n).nm = S.nm ∧ (S.tkN n).ns = S.ns ∧ (S.tkN n).err = S.err := by
  intro n
  induction n with
  | zero => intro S; exact ⟨rfl, rfl, rfl⟩
  | succ n ih =>
    intro S
    obtain ⟨h1, h2, h3⟩ := ih S.tk1
    exact ⟨h1.trans (tk1_nm S), h2.trans (tk1_ns S), h3.trans (tk1_er S)⟩
theorem drS_fr : ∀ (n : Nat) (S : XS), (S.drS n).nm = S.nm ∧ (S.drS n).ns = S.ns ∧ (S.drS n).err = S.err := by
  intro n
  induction n with
  | zero => intro S; exact ⟨rfl, rfl, rfl⟩
  | succ n ih =>
    intro S
    unfold XS.drS
    split
    · exact ⟨rfl, rfl, rfl⟩
    · obtain ⟨h1, h2, h3⟩ := ih S.tk1
      exact ⟨h1.trans (tk1_nm S), h2.trans (tk1_ns S), h3.trans (tk1_er S)⟩
theorem RV.er0 {Γ : gm_T} {φ : ph_T} {r : Nat} {S : XS} (h : RV Γ φ r S) {e : Nat} (he : S.err = e) : RV Γ φ r (S.w_err e) := by
  have f0 : RFr r [] φ φ := RFr.refl _ _ _
  have hsc := h.sc
  refine ⟨(RL.up h.rl (congrFun f0.1 r)), ?_, (by rw [f0.i 1 (by decide)]; exact h.pg), (by rw [f0.i 2 (by decide)]; exact h.mp), (by rw [f0.i 3 (by decide)]; exact h.sp), (by rw [f0.i 4 (by decide)]; exact h.ea), (by rw [f0.i 5 (by decide)]; exact h.de), (by rw [f0.i 6 (by decide)]; exact h.wa), (by rw [f0.i 7 (by decide), f0.i 8 (by decide)]; exact h.me), (by rw [f0.i 9 (by decide), f0.i 10 (by decide), f0.i 11 (by decide), f0.i 12 (by decide), f0.i 13 (by decide), f0.i 14 (by decide), f0.i 15 (by decide), f0.i 16 (by decide), f0.i 17 (by decide), f0.i 18 (by decide), f0.i 20 (by decide), f0.i 21 (by decide), f0.i 22 (by decide), f0.i 23 (by decide), f0.i 24 (by decide), f0.l 19 (by decide), f0.l 25 (by decide)]; exact h.tk), (by rw [f0.i 26 (by decide), f0.i 27 (by decide), f0.l 28 (by decide), f0.i 29 (by decide)]; exact h.wi), (by rw [f0.i 31 (by decide)]; exact h.tr), (by rw [f0.l 32 (by decide), f0.i 33 (by decide), f0.i 34 (by decide), f0.i 35 (by decide)]; exact h.row), (by rw [f0.i 36 (by decide), f0.i 37 (by decide), f0.i 38 (by decide), f0.i 39 (by decide)]; exact h.uw), (by rw [f0.i 40 (by decide), f0.i 41 (by decide), f0.i 42 (by decide)]; exact h.ur), (by rw [f0.i 43 (by decide), f0.i 44 (by decide), f0.i 45 (by decide), f0.i 46 (by decide), f0.i 47 (by decide)]; exact ⟨h.la.haw, h.la.har, h.la.hb, h.la.hg, h.la.hinn⟩), (by rw [f0.i 48 (by decide), f0.i 49 (by decide), f0.i 50 (by decide), f0.l 51 (by decide), f0.i 52 (by decide), f0.i 53 (by decide), f0.i 54 (by decide), f0.l 55 (by decide), f0.i 56 (by decide)]; exact h.sw), (by rw [f0.i 57 (by decide), f0.i 58 (by decide), f0.i 59 (by decide), f0.l 60 (by decide), f0.i 61 (by decide), f0.i 62 (by decide), f0.i 63 (by decide), f0.l 64 (by decide), f0.i 65 (by decide)]; exact h.sr), (by rw [f0.i 66 (by decide), f0.i 67 (by decide), f0.i 68 (by decide), f0.i 69 (by decide)]; exact ⟨h.ch.hnums, h.ch.hlat, h.ch.hchb, h.ch.hchr⟩), (by rw [f0.i 70 (by decide), f0.i 71 (by decide)]; exact h.rg), (by unfold maOf; rw [f0.i 72 (by decide), f0.l 73 (by decide), f0.i 74 (by decide), f0.i 75 (by decide), f0.i 76 (by decide), f0.i 77 (by decide), f0.i 78 (by decide), f0.i 79 (by decide), f0.i 80 (by decide), f0.i 81 (by decide), f0.l 82 (by decide), f0.i 83 (by decide), f0.i 84 (by decide), f0.i 85 (by decide), f0.l 86 (by decide), f0.i 87 (by decide)]; exact h.mo), (by rw [f0.i 88 (by decide), f0.i 89 (by decide), f0.l 90 (by decide), f0.i 91 (by decide)]; exact h.wt)⟩
  exact ⟨hsc.nm, hsc.ns, hsc.lim, hsc.pol, hsc.whole, hsc.time, hsc.tk, hsc.wm, hsc.rm, hsc.db, by rw [hsc.er, he]; rfl⟩
theorem q_tick {Γ : gm_T} {φ : ph_T} {b : Nat} {S : XS} {k : Nat} (h : CV Γ φ b S) (hJ : JI (k + 1000) S) (x : Int32) : Face Γ φ b S k (f_Bus_tick Γ φ b x) (fun φ1 r => f_Ref_tick Γ φ1 r x) IAE IAE IAE := by
  cases hx : inN x 1 100 with
  | false =>
    refine ⟨1, 0, φ, S, by decide, ?_, h, Fr.refl _ _ _, hJ.lows, rfl, rfl, ?_⟩
    · exact c_tickX hx
    · intro φ1 r hr hh
      obtain ⟨φ2, a1, a2, a3, a4⟩ := r_tickX hr hh hx
      exact ⟨_, φ2, a1, fun e => (by cases e), a2, a3, a4.fr (by decide)⟩
  | true =>
    obtain ⟨n, h1, h2, rfl, _⟩ := inN_t (by decide) (by decide) hx
    have hJ0 : JI (k + n) (S.w_err 0) := by
      refine JI.lows (1000 - n) ?_
      rw [show k + n + (1000 - n) = k + 1000 by omega]
      exact hJ.err 0
    obtain ⟨φ', a1, a2, a3⟩ := c_tick (J := JI) (I := GI) (M := MI) st_C (fun k S h => h.tick) (fun k S h => h.low) (h.err 0) hJ0 h1 h2
    obtain ⟨e1, e2, e3⟩ := tkN_fr n (S.w_err 0)
    have hJ1 : JI (k + n) S := by
      refine JI.lows (1000 - n) ?_
      rw [show k + n + (1000 - n) = k + 1000 by omega]
      exact hJ
    have hJn : ∀ d T, JI (k + d) T → JI k (T.tkN d) := by
      intro d
      induction d with
      | zero => intro T hT; exact hT
      | succ d ih => intro T hT; exact ih T.tk1 (JI.tick hT)
    refine ⟨0, nI ((S.w_err 0).mvN n), φ', (S.w_err 0).tkN n, by decide, a1, a2, a3, hJn n _ hJ0, e1, e2, ?_⟩
    intro φ1 r hr hh
    obtain ⟨φ2, b1, b2, b3, b4, b5⟩ := r_tick (J := JI) (I := GI) (M := MI) st_I (fun k S h => h.tick) (fun k S h => h.low) (fun k S e h => h.err e) hr hh hJ1 h1 h2
    exact ⟨_, φ2, b1, fun _ => rfl, b2.er0 e3, b3, b5.fr (by decide)⟩
theorem q_drain {Γ : gm_T} {φ : ph_T} {b : Nat} {S : XS} {k : Nat} (h : CV Γ φ b S) (hJ : JI (k + 1000) S) (x : Int32) : Face Γ φ b S k (f_Bus_drain Γ φ b x) (fun φ1 r => f_Ref_drain Γ φ1 r x) IAE IAE IAE := by
  cases hx : inN x 1 1000 with
  | false =>
    refine ⟨1, 0, φ, S, by decide, ?_, h, Fr.refl _ _ _, hJ.lows, rfl, rfl, ?_⟩
    · exact c_drainX hx
    · intro φ1 r hr hh
      obtain ⟨φ2, a1, a2, a3, a4⟩ := r_drainX hr hh hx
      exact ⟨_, φ2, a1, fun e => (by cases e), a2, a3, a4.fr (by decide)⟩
  | true =>
    obtain ⟨n, h1, h2, rfl, _⟩ := inN_t (by decide) (by decide) hx
    have hJ0 : JI (k + n) (S.w_err 0) := by
      refine JI.lows (1000 - n) ?_
      rw [show k + n + (1000 - n) = k + 1000 by omega]
      exact hJ.err 0
    obtain ⟨φ', a1, a2, a3⟩ := c_drain (J := JI) (I := GI) (M := MI) st_C (fun k S h => h.tick) (fun k S h => h.low) (fun k S h => h.tkm) (h.err 0) hJ0 h1 h2
    obtain ⟨e1, e2, e3⟩ := drS_fr n (S.w_err 0)
    have hJ1 : JI (k + n) S := by
      refine JI.lows (1000 - n) ?_
      rw [show k + n + (1000 - n) = k + 1000 by omega]
      exact hJ
    have hJn : ∀ d T, JI (k + d) T → JI k (T.drS d) := by
      intro d
      induction d with
      | zero => intro T hT; exact hT
      | succ d ih =>
        intro T hT
        unfold XS.drS
        split
        · exact hT.lows (d + 1)
        · exact ih T.tk1 (JI.tick hT)
    refine ⟨0, _, φ', (S.w_err 0).drS n, by decide, a1, a2, a3, hJn n _ hJ0, e1, e2, ?_⟩
    intro φ1 r hr hh
    obtain ⟨φ2, b1, b2, b3, b4, b5⟩ := r_drain (J := JI) (I := GI) (M := MI) st_I (fun k S h => h.tick) (fun k S h => h.low) (fun k S e h => h.err e) hr hh hJ1 h1 h2
    exact ⟨_, φ2, b1, fun _ => rfl, b2.er0 e3, b3, b5.fr (by decide)⟩
