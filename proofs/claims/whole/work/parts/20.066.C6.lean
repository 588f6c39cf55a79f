/-! THE CLASS: monitors, the rest -/
theorem badB_lt (e : MW) (k : Nat) : badB e k < 13 := by unfold badB; repeat' split <;> try omega
theorem badAll_lt (e : MW) : ∀ d k, badAll e d k < 13 := by
  intro d
  induction d with
  | zero => intro k; unfold badAll; omega
  | succ d ih => intro k; unfold badAll; split; exact badB_lt e k; exact ih (k + 1)
theorem c_tWA28 {Γ : gm_T} {φ : ph_T} {y : Nat} {e : MW} (hb : CBl Γ φ y) (hE : EMw φ y e) (c : Int64) :
    ∃ φ', f_Monitor_takeWriteAddress_L28 Γ φ c (some y) = some (nI (badAll ((e.w_has (true)).w_con (c)) e.n 0), φ') ∧ Fr y (y + 3) φ φ' ∧ φ'.2.2 = φ.2.2 ∧ EMw φ' y ((e.w_has (true)).w_con (c)) := by
  obtain ⟨e1, e2, e3, e4, e5, e6⟩ := hE
  have f : Fr y (y + 3) φ (uI (uL φ y 0 c) y 1 (nI 1)) := by repeat (first | exact Fr.refl _ _ _ | refine fr_uI ?_ (by omega) _ _ | refine fr_uL ?_ (by omega) _ _)
  have hE' : EMw (uI (uL φ y 0 c) y 1 (nI 1)) y ((e.w_has (true)).w_con (c)) := by
    refine ⟨?_, ?_, ?_, ?_, e5, ?_⟩
    · simp (disch := first | assumption | omega) only [uI_s, vz_at, MW.has_w_has, MW.has_w_con, MW.has_w_n, MW.has_w_rst, MW.has_w_last, MW.has_mk, if_true]; rfl
    · intro _; simp (disch := first | assumption | omega) only [uI_1, uI_2, uI_3, uL_1, uL_2, uL_3, vz_at, MW.con_w_has, MW.con_w_con, MW.con_w_n, MW.con_w_rst, MW.con_w_last, MW.con_mk, if_true]
    · simp (disch := first | assumption | omega) only [uI_1, uI_2, uI_3, uL_1, uL_2, uL_3, vz_at, MW.last_w_has, MW.last_w_con, MW.last_w_n, MW.last_w_rst, MW.last_w_last, MW.last_mk, if_true]; simp only [show ¬ ((2 : Nat) = 1) by decide, if_false]; exact e3
    · simp (disch := first | assumption | omega) only [uI_1, uI_2, uI_3, uL_1, uL_2, uL_3, vz_at, MW.n_w_has, MW.n_w_con, MW.n_w_n, MW.n_w_rst, MW.n_w_last, MW.n_mk, if_true]; simp only [show ¬ ((3 : Nat) = 1) by decide, if_false]; exact e4
    · intro i hi
      simp (disch := first | assumption | omega) only [uI_1, uI_2, uI_3, uL_1, uL_2, uL_3, vz_at, Nat.add_left_cancel_iff, Nat.reduceEqDiff, if_false, zr1, zr2, MW.rst_w_has, MW.rst_w_con, MW.rst_w_n, MW.rst_w_rst, MW.rst_w_last, MW.rst_mk]
      exact e6 i hi
  refine ⟨_, ?_, f, rfl, hE'⟩
  unfold f_Monitor_takeWriteAddress_L28
  rw [if_neg (by simp), Option.bind_some, if_pos hb.o, if_pos (by decide), zI_0]
  exact c_tWA_L (φ := uI (uL φ y 0 c) y 1 (nI 1)) (hb.up rfl) hE' rfl e.n 0 jF (by show 0 + e.n = e.n; omega) (by unfold jF; omega)
theorem c_takeWA {Γ : gm_T} {φ : ph_T} {b : Nat} {o : MO} (h : CMo Γ φ b o) (c : Int64) :
    ∃ v o1 φ', f_Monitor_takeWriteAddress Γ φ b c = some (nI v, φ') ∧ v < 13 ∧ CMo Γ φ' b o1 ∧ o1.rule = o.rule ∧ o.goAw c = o1.note v 0 ∧ Fr b (b + 104) φ φ' := by
  obtain ⟨l, hl⟩ := h.ws
  have ha := c_LunA hl MW.has (fun x e he => he.1)
  unfold f_Monitor_takeWriteAddress MO.goAw
  simp only [h.o, h.f0, hl.c.o, if_true, Option.bind_some, ha]
  cases hf : o.ws.findIdx? (fun e => !e.has) with
  | none =>
    simp only [oI, c_Lat_m, Option.bind_some, if_true, h.f0, hl.c.o]
    by_cases hr : o.ws.length < 16
    · obtain ⟨x, φ1, s1, s2, s3, s4, s5, s6, s7, s8, s9, s10, s11, s12, s13, s14⟩ := c_Ladd hl hr c
      have hE0 : EMw φ1 x mw0 := ⟨s9, (fun hh => absurd hh (by decide)), s10, s11, Nat.zero_le 16, (fun i hi => absurd hi (Nat.not_lt_zero _))⟩
      obtain ⟨φ2, t1, t2, t3, t4⟩ := c_tWA28 s3 hE0 c
      have hl1 := s14 mw0 hE0
      have hl2 := hl1.upd (i := o.ws.length) s2 t2 (s3.up (by rw [t3])) t4
      have hset : (o.ws ++ [mw0]).set o.ws.length ((mw0.w_has (true)).w_con (c)) = o.ws ++ [((mw0.w_has (true)).w_con (c))] := by simp
      rw [hset] at hl2
      have hfr : Fr (b + 1) (b + 51) φ φ2 := (s4.mono (by omega) (by omega)).trans (t2.mono (by omega) (by omega))
      refine ⟨0, _, φ2, ?_, by omega, h.setW hfr hl2, rfl, ?_, hfr.mono (by omega) (by omega)⟩
      · rw [s1, Option.bind_some]
        exact t1
      · rw [if_neg (by omega), note0]
    · refine ⟨12, o, φ, ?_, by omega, h, rfl, ?_, Fr.refl _ _ _⟩
      · rw [c_Ladd_full hl hr, Option.bind_some]
        rfl
      · have := hl.c.le
        rw [if_pos (by omega)]
  | some i =>
    obtain ⟨e, he, _, _⟩ := fi_some hf
    obtain ⟨y, hy, hE, hb, u1, u2, _⟩ := hl.get he
    obtain ⟨φ2, t1, t2, t3, t4⟩ := c_tWA28 hb hE c
    have hl2 := hl.upd (i := i) hy t2 (hb.up (by rw [t3])) t4
    have hfr : Fr (b + 1) (b + 51) φ φ2 := t2.mono (by omega) (by omega)
    refine ⟨badAll ((e.w_has (true)).w_con (c)) e.n 0, _, φ2, ?_, badAll_lt _ _ _, h.setW hfr hl2, rfl, ?_, hfr.mono (by omega) (by omega)⟩
    · simp only [oI, c_Lat hl he hy, Option.bind_some, reduceCtorEq, if_false, t1]
    · simp only [he]
theorem c_takeBeat {Γ : gm_T} {φ : ph_T} {y n : Nat} (hb : CBl Γ φ y) (hn : φ.1 y 3 = nI n) (h16 : n < 16) (d : Int64) (r : Int32) :
    f_Burst_takeBeat Γ φ y d r = some ((), uI (uI (uL φ (y + 1) n d) (y + 2) n r) y 3 (nI (n + 1))) := by
  unfold f_Burst_takeBeat f_Burst_takeBeat_L39
  simp (disch := first | assumption | omega) only [hb.o, hb.f6, hb.f7, hb.g6, hb.g7, if_true, Option.bind_some, hn, ↓zm1, zI_ne_m, zI_m_ne, zI_lit, zI_le, zI_eq, zI_mul, zI_lt, zI_modn, zI_div, zI_sub, zI_add, zN_mod, zix, uI_1, uI_2, uI_3, uL_1, uL_2, uL_3, vz_at, Nat.add_left_cancel_iff, Nat.reduceEqDiff, if_false, zr1, zr2]
  rw [if_neg (by omega)]
theorem c_tWB28 {Γ : gm_T} {φ : ph_T} {y : Nat} {e : MW} (hb : CBl Γ φ y) (hE : EMw φ y e) (hn : e.n < 16) (r : Int32) :
    ∃ φ', f_Monitor_takeWriteBeat_L28 Γ φ r (some y) = some (nI (if e.has = true then badB (e.beat r) e.n else 0), φ') ∧ Fr y (y + 3) φ φ' ∧ φ'.2.2 = φ.2.2 ∧ EMw φ' y (e.beat r) := by
  obtain ⟨e1, e2, e3, e4, e5, e6⟩ := hE
  have f : Fr y (y + 3) φ (uI (uI (uI (uL φ (y + 1) e.n 0) (y + 2) e.n r) y 3 (nI (e.n + 1))) y 2 (bI (rLa r))) := by repeat (first | exact Fr.refl _ _ _ | refine fr_uI ?_ (by omega) _ _ | refine fr_uL ?_ (by omega) _ _)
  have hy1 : (uI (uI (uI (uL φ (y + 1) e.n 0) (y + 2) e.n r) y 3 (nI (e.n + 1))) y 2 (bI (rLa r))).1 y 1 = bI e.has := by
    simp (disch := first | assumption | omega) only [uI_1, uI_2, uI_3, uL_1, uL_2, uL_3, vz_at, Nat.add_left_cancel_iff, Nat.reduceEqDiff, if_false, zr1, zr2, if_true]; exact e1
  have hy3 : (uI (uI (uI (uL φ (y + 1) e.n 0) (y + 2) e.n r) y 3 (nI (e.n + 1))) y 2 (bI (rLa r))).1 y 3 = nI (e.n + 1) := by
    simp (disch := first | assumption | omega) only [uI_1, uI_2, uI_3, uL_1, uL_2, uL_3, vz_at, Nat.add_left_cancel_iff, Nat.reduceEqDiff, if_false, zr1, zr2, if_true]
  have hE' : EMw (uI (uI (uI (uL φ (y + 1) e.n 0) (y + 2) e.n r) y 3 (nI (e.n + 1))) y 2 (bI (rLa r))) y (e.beat r) := by
    refine ⟨hy1, ?_, ?_, hy3, by show e.n + 1 ≤ 16; omega, ?_⟩
    · intro hh; simp (disch := first | assumption | omega) only [uI_1, uI_2, uI_3, uL_1, uL_2, uL_3, vz_at, Nat.add_left_cancel_iff, Nat.reduceEqDiff, if_false, zr1, zr2]; exact e2 hh
    · simp (disch := first | assumption | omega) only [uI_s, vz_at, if_true]; rfl
    · intro i hi
      have hi : i < e.n + 1 := hi
      simp (disch := first | assumption | omega) only [uI_1, uI_2, uI_3, uL_1, uL_2, uL_3, vz_at, Nat.add_left_cancel_iff, Nat.reduceEqDiff, if_false, zr1, zr2, if_true]
      show (if i = e.n then r else φ.1 (y + 2) i) = va_up e.rst e.n r i
      rw [vz_at]
      by_cases hie : i = e.n
      · rw [if_pos hie, if_pos hie]
      · rw [if_neg hie, if_neg hie]; exact e6 i (by omega)
  refine ⟨_, ?_, f, rfl, hE'⟩
  unfold f_Monitor_takeWriteBeat_L28 f_Monitor_takeWriteBeat_L82
  rw [if_neg (by simp), Option.bind_some, if_pos hb.o, e4]
  rw [if_pos (show nI e.n < (16 : Int32) from by rw [show (16 : Int32) = nI 16 from rfl, zI_lt (by omega) (by omega)]; exact hn)]
  rw [c_takeBeat hb e4 hn, Option.bind_some]
  simp only [e_restLast, Option.bind_some]
  have hbo : (bI (rLa r) = 0 ∨ bI (rLa r) = 1) := (bI_ok (rLa r)).mpr trivial
  rw [if_pos hbo, hy1, hy3]
  cases hh : e.has with
  | false => rw [if_pos (by decide)]; rfl
  | true =>
    rw [if_neg (by decide)]
    have hsub : nI (e.n + 1) - 1 = nI e.n := by rw [zI_1, zI_sub (by omega)]; congr 1
    have hw := c_brokenWB (Γ := Γ) (φ := uI (uI (uI (uL φ (y + 1) e.n 0) (y + 2) e.n r) y 3 (nI (e.n + 1))) y 2 (bI (rLa r))) (k := e.n) (hb.up rfl) hE' hh (by show e.n < e.n + 1; omega)
    rw [hsub, hw]
    rfl
theorem c_takeWB {Γ : gm_T} {φ : ph_T} {b : Nat} {o : MO} (h : CMo Γ φ b o) (r : Int32) :
    ∃ v o1 φ', f_Monitor_takeWriteBeat Γ φ b r = some (nI v, φ') ∧ v < 13 ∧ CMo Γ φ' b o1 ∧ o1.rule = o.rule ∧ o.goW r = o1.note v 1 ∧ Fr b (b + 104) φ φ' := by
  obtain ⟨l, hl⟩ := h.ws
  have ha := c_LunE hl MW.last (fun x e he => he.2.2.1)
  unfold f_Monitor_takeWriteBeat MO.goW
  simp only [h.o, h.f0, hl.c.o, if_true, Option.bind_some, ha]
  cases hf : o.ws.findIdx? (fun e => !e.last) with
  | none =>
    simp only [oI, c_Lat_m, Option.bind_some, if_true, h.f0, hl.c.o]
    by_cases hr : o.ws.length < 16
    · obtain ⟨x, φ1, s1, s2, s3, s4, s5, s6, s7, s8, s9, s10, s11, s12, s13, s14⟩ := c_Ladd hl hr (0 : Int64)
      have hE0 : EMw φ1 x mw0 := ⟨s9, (fun hh => absurd hh (by decide)), s10, s11, Nat.zero_le 16, (fun i hi => absurd hi (Nat.not_lt_zero _))⟩
      obtain ⟨φ2, t1, t2, t3, t4⟩ := c_tWB28 s3 hE0 (by show 0 < 16; omega) r
      have hl1 := s14 mw0 hE0
      have hl2 := hl1.upd (i := o.ws.length) s2 t2 (s3.up (by rw [t3])) t4
      have hset : (o.ws ++ [mw0]).set o.ws.length (mw0.beat r) = o.ws ++ [mw0.beat r] := by simp
      rw [hset] at hl2
      have hfr : Fr (b + 1) (b + 51) φ φ2 := (s4.mono (by omega) (by omega)).trans (t2.mono (by omega) (by omega))
      refine ⟨0, _, φ2, ?_, by omega, h.setW hfr hl2, rfl, ?_, hfr.mono (by omega) (by omega)⟩
      · rw [s1, Option.bind_some]
        exact t1
      · rw [if_neg (by omega), note0]
    · refine ⟨12, o, φ, ?_, by omega, h, rfl, ?_, Fr.refl _ _ _⟩
      · rw [c_Ladd_full hl hr, Option.bind_some]
        rfl
      · have := hl.c.le
        rw [if_pos (by omega)]
  | some i =>
    obtain ⟨e, he, _, _⟩ := fi_some hf
    obtain ⟨y, hy, hE, hb, u1, u2, _⟩ := hl.get he
    have h16 := hE.2.2.2.2.1
    simp only [oI, c_Lat hl he hy, Option.bind_some, reduceCtorEq, if_false, he]
    by_cases hn : e.n = 16
    · refine ⟨7, o, φ, ?_, by omega, h, rfl, ?_, Fr.refl _ _ _⟩
      · unfold f_Monitor_takeWriteBeat_L28
        rw [if_neg (by simp), Option.bind_some, if_pos hb.o, hE.2.2.2.1, hn, if_neg (by decide)]
        rfl
      · rw [if_pos hn]
    · obtain ⟨φ2, t1, t2, t3, t4⟩ := c_tWB28 hb hE (by omega) r
      have hl2 := hl.upd (i := i) hy t2 (hb.up (by rw [t3])) t4
      have hfr : Fr (b + 1) (b + 51) φ φ2 := t2.mono (by omega) (by omega)
      refine ⟨_, _, φ2, t1, ?_, h.setW hfr hl2, rfl, ?_, hfr.mono (by omega) (by omega)⟩
      · split
        · exact badB_lt _ _
        · omega
      · rw [if_neg hn]
        rfl
/-- remember -/
theorem c_remember_L {Γ : gm_T} {a b : Nat} {x : WI} {hd : Nat → Bool} {tr : Nat → Int32} (hab : a + 7 ≤ b) : ∀ (d i fu : Nat) (φ : ph_T) (o : MO), i + d = 5 → d < fu → CMo Γ φ b o → CPt Γ φ a x hd tr →
    ∃ φ', f_Monitor_remember_L2 Γ fu φ b (some a) (nI i) = some ((), φ') ∧ CMo Γ φ' b (((o.w_held (fun c => if i ≤ c then hdW x c else o.held c)).w_hc (fun c => if i ≤ c then (x.w c).c else o.hc c)).w_hr (fun c => if i ≤ c then (x.w c).r else o.hr c)) ∧ Fr b (b + 104) φ φ' := by
  intro d
  induction d with
  | zero =>
    intro i fu φ o hi hfu h hp
    match fu, hfu with
    | fu + 1, _ =>
      unfold f_Monitor_remember_L2
      simp (disch := first | assumption | omega) only [↓zm1, zI_ne_m, zI_m_ne, zI_lit, zI_le, zI_eq, zI_mul, zI_lt, zI_modn, zI_div, zI_sub, zI_add, zN_mod]
      rw [if_pos (by omega)]
      refine ⟨φ, rfl, ?_, Fr.refl _ _ _⟩
      refine ⟨h.o, h.f0, h.f1, h.f2, h.f3, h.f4, h.g2, h.g3, h.g4, h.ws, h.rs, ?_, h.rul, h.cha, h.tic, h.tks, h.rl⟩
      intro c hc
      simp only [MO.held_w_ws, MO.held_w_rs, MO.held_w_held, MO.held_w_hc, MO.held_w_hr, MO.held_w_rule, MO.held_w_chan, MO.held_w_tick, MO.held_w_ticks, MO.hc_w_ws, MO.hc_w_rs, MO.hc_w_held, MO.hc_w_hc, MO.hc_w_hr, MO.hc_w_rule, MO.hc_w_chan, MO.hc_w_tick, MO.hc_w_ticks, MO.hr_w_ws, MO.hr_w_rs, MO.hr_w_held, MO.hr_w_hc, MO.hr_w_hr, MO.hr_w_rule, MO.hr_w_chan, MO.hr_w_tick, MO.hr_w_ticks, MO.held_mk, MO.hc_mk, MO.hr_mk]
      rw [if_neg (by omega), if_neg (by omega), if_neg (by omega)]
      exact h.hel c hc
  | succ d ih =>
    intro i fu φ o hi hfu h hp
    match fu, hfu with
    | fu + 1, hfu =>
      obtain ⟨w1, w2, w3, w4⟩ := hp.w i (by omega)
      have f1 : Fr (b + 101) (b + 104) φ (uI (uL (uI φ (b + 101) i (bI (hdW x i))) (b + 102) i (x.w i).c) (b + 103) i (x.w i).r) := by repeat (first | exact Fr.refl _ _ _ | refine fr_uI ?_ (by omega) _ _ | refine fr_uL ?_ (by omega) _ _)
      have h1 : CMo Γ (uI (uL (uI φ (b + 101) i (bI (hdW x i))) (b + 102) i (x.w i).c) (b + 103) i (x.w i).r) b (((o.w_held (va_up o.held i (hdW x i))).w_hc (va_up o.hc i (x.w i).c)).w_hr (va_up o.hr i (x.w i).r)) := by
        refine ⟨h.o, h.f0, h.f1, h.f2, h.f3, h.f4, h.g2, h.g3, h.g4, ?_, ?_, ?_, ?_, ?_, ?_, ?_, h.rl⟩
        · obtain ⟨l, hl⟩ := h.ws; exact ⟨l, hl.sm (f1.sm (by omega))⟩
        · obtain ⟨l, hl⟩ := h.rs; exact ⟨l, hl.sm (f1.sm (by omega))⟩
        · intro c hc
          simp (disch := first | assumption | omega) only [uI_1, uI_2, uI_3, uL_1, uL_2, uL_3, vz_at, Nat.add_left_cancel_iff, Nat.reduceEqDiff, if_false, zr1, zr2, if_true, MO.held_w_ws, MO.held_w_rs, MO.held_w_held, MO.held_w_hc, MO.held_w_hr, MO.held_w_rule, MO.held_w_chan, MO.held_w_tick, MO.held_w_ticks, MO.hc_w_ws, MO.hc_w_rs, MO.hc_w_held, MO.hc_w_hc, MO.hc_w_hr, MO.hc_w_rule, MO.hc_w_chan, MO.hc_w_tick, MO.hc_w_ticks, MO.hr_w_ws, MO.hr_w_rs, MO.hr_w_held, MO.hr_w_hc, MO.hr_w_hr, MO.hr_w_rule, MO.hr_w_chan, MO.hr_w_tick, MO.hr_w_ticks, MO.held_mk, MO.hc_mk, MO.hr_mk]
          by_cases e : c = i
          · simp only [if_pos e]
            simp
          · simp only [if_neg e]
            exact h.hel c hc
        · rw [f1.i (by omega)]; exact h.rul
        · rw [f1.i (by omega)]; exact h.cha
        · rw [f1.i (by omega)]; exact h.tic
        · rw [f1.i (by omega)]; exact h.tks
      obtain ⟨φ2, b1, b2, b3⟩ := ih (i + 1) fu _ _ (by omega) (by omega) h1 (hp.sm (f1.sm (by omega)))
      refine ⟨φ2, ?_, ?_, (f1.mono (by omega) (by omega)).trans b3⟩
      · unfold f_Monitor_remember_L2 f_Monitor_remember_L34 f_Monitor_remember_L35
        have hba1 : b + 101 ≠ a + 5 := by omega
        have hba2 : a + 5 ≠ b + 101 := by omega
        have q5 : ∀ v, (uI φ (b + 101) i v).1 (a + 5) i = (x.w i).r := fun v => by rw [uI_d hba2]; exact w4
        cases hv : (x.w i).v with
        | false =>
          have hw : hdW x i = false := by unfold hdW; rw [hv]; rfl
          rw [hw] at b1
          simp (disch := first | assumption | omega) only [h.o, hp.o, hp.f0, hp.f3, hp.f4, hp.g0, hp.g3, hp.g4, h.f2, h.f3, h.f4, h.g2, h.g3, h.g4, if_true, Option.bind_some, zix, w1, w3, hv, bI_f, q5, ↓zm1, zI_ne_m, zI_m_ne, zI_lit, zI_le, zI_eq, zI_mul, zI_lt, zI_modn, zI_div, zI_sub, zI_add, zN_mod]
          rw [if_neg (by omega), if_pos (by decide)]
          exact b1
        | true =>
          cases hr : x.rd i with
          | false =>
            have hw : hdW x i = true := by unfold hdW; rw [hv, hr]; rfl
            rw [hw] at b1
            simp (disch := first | assumption | omega) only [h.o, hp.o, hp.f0, hp.f1, hp.f3, hp.f4, hp.g0, hp.g1, hp.g3, hp.g4, h.f2, h.f3, h.f4, h.g2, h.g3, h.g4, if_true, Option.bind_some, zix, w1, w2, w3, hv, hr, bI_t, bI_f, q5, ↓zm1, zI_ne_m, zI_m_ne, zI_lit, zI_le, zI_eq, zI_mul, zI_lt, zI_modn, zI_div, zI_sub, zI_add, zN_mod]
            rw [if_neg (by omega), if_neg (by decide), if_pos (by decide)]
            exact b1
          | true =>
            have hw : hdW x i = false := by unfold hdW; rw [hv, hr]; rfl
            rw [hw] at b1
            simp (disch := first | assumption | omega) only [h.o, hp.o, hp.f0, hp.f1, hp.f3, hp.f4, hp.g0, hp.g1, hp.g3, hp.g4, h.f2, h.f3, h.f4, h.g2, h.g3, h.g4, if_true, Option.bind_some, zix, w1, w2, w3, hv, hr, bI_t, bI_f, q5, ↓zm1, zI_ne_m, zI_m_ne, zI_lit, zI_le, zI_eq, zI_mul, zI_lt, zI_modn, zI_div, zI_sub, zI_add, zN_mod]
            rw [if_neg (by omega), if_neg (by decide), if_neg (by decide), if_pos (by decide)]
            exact b1
      · refine ⟨b2.o, b2.f0, b2.f1, b2.f2, b2.f3, b2.f4, b2.g2, b2.g3, b2.g4, b2.ws, b2.rs, ?_, b2.rul, b2.cha, b2.tic, b2.tks, b2.rl⟩
        intro c hc
        have := b2.hel c hc
        simp only [MO.held_w_ws, MO.held_w_rs, MO.held_w_held, MO.held_w_hc, MO.held_w_hr, MO.held_w_rule, MO.held_w_chan, MO.held_w_tick, MO.held_w_ticks, MO.hc_w_ws, MO.hc_w_rs, MO.hc_w_held, MO.hc_w_hc, MO.hc_w_hr, MO.hc_w_rule, MO.hc_w_chan, MO.hc_w_tick, MO.hc_w_ticks, MO.hr_w_ws, MO.hr_w_rs, MO.hr_w_held, MO.hr_w_hc, MO.hr_w_hr, MO.hr_w_rule, MO.hr_w_chan, MO.hr_w_tick, MO.hr_w_ticks, MO.held_mk, MO.hc_mk, MO.hr_mk, vz_at] at this ⊢
        by_cases e : c = i
        · subst e
          simp only [show ¬ (c + 1 ≤ c) by omega, if_false, if_true, Nat.le_refl] at this ⊢
          exact this
        · by_cases e2 : i ≤ c
          · simp only [e2, show i + 1 ≤ c by omega, if_true] at this ⊢; exact this
          · simp only [e2, show ¬ i + 1 ≤ c by omega, if_false, e] at this ⊢; exact this
