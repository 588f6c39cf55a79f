/-! THE CLASS: monitors look -/
theorem c_lk145 {Γ : gm_T} {φ : ph_T} {a b : Nat} {o : MO} {x : WI} {hd : Nat → Bool} {tr : Nat → Int32} (hab : a + 7 ≤ b) (h : CMo Γ φ b o) (hp : CPt Γ φ a x hd tr) :
    ∃ φ', f_Monitor_look_L145 Γ φ b (some a) = some ((), φ') ∧ CMo Γ φ' b (o.rem x) ∧ Fr b (b + 104) φ φ' := by
  obtain ⟨φ1, a1, a2, a3⟩ := c_remember_L hab 5 0 jF φ o (by omega) (by unfold jF; omega) h hp
  have f1 : Fr b (b + 1) φ1 (uI φ1 b 8 (φ1.1 b 8 + (1 : Int32))) := fr_uI (Fr.refl _ _ _) (by omega) _ _
  refine ⟨uI φ1 b 8 (φ1.1 b 8 + (1 : Int32)), ?_, ?_, a3.trans (f1.mono (by omega) (by omega))⟩
  · unfold f_Monitor_look_L145 f_Monitor_remember
    rw [if_pos h.o, zI_0, a1, Option.bind_some]
  · refine a2.obj f1 rfl rfl rfl (fun c hc => ?_) ?_ ?_ ?_ ?_ a2.rl
    · unfold MO.rem
      simp only [MO.held_w_ws, MO.held_w_rs, MO.held_w_held, MO.held_w_hc, MO.held_w_hr, MO.held_w_rule, MO.held_w_chan, MO.held_w_tick, MO.held_w_ticks, MO.hc_w_ws, MO.hc_w_rs, MO.hc_w_held, MO.hc_w_hc, MO.hc_w_hr, MO.hc_w_rule, MO.hc_w_chan, MO.hc_w_tick, MO.hc_w_ticks, MO.hr_w_ws, MO.hr_w_rs, MO.hr_w_held, MO.hr_w_hc, MO.hr_w_hr, MO.hr_w_rule, MO.hr_w_chan, MO.hr_w_tick, MO.hr_w_ticks, MO.held_mk, MO.hc_mk, MO.hr_mk]
      rw [if_pos (by omega), if_pos (by omega), if_pos (by omega)]
      exact ⟨rfl, rfl, rfl⟩
    · rw [uI_s, vz_ne _ (by decide)]; exact a2.rul
    · rw [uI_s, vz_ne _ (by decide)]; exact a2.cha
    · rw [uI_s, vz_ne _ (by decide)]; exact a2.tic
    · rw [uI_s, vz_same, a2.tks]; rfl
theorem c_lk115 {Γ : gm_T} {φ : ph_T} {a b : Nat} {o : MO} {x : WI} {hd : Nat → Bool} {tr : Nat → Int32} (hab : a + 7 ≤ b) (h : CMo Γ φ b o) (hp : CPt Γ φ a x hd tr) :
    ∃ φ', f_Monitor_look_L115 Γ φ b (some a) = some ((), φ') ∧ CMo Γ φ' b ((o.go5 x).rem x) ∧ Fr b (b + 104) φ φ' := by
  have h13 := h.rl
  obtain ⟨w1, w2, w3, w4⟩ := hp.w 1 (by omega)
  have hm := c_moves hp (c := 1) (by omega)
  unfold f_Monitor_look_L115 MO.go5
  simp (disch := first | assumption | omega) only [h.o, h.rul, hp.o, hp.f4, hp.g4, if_true, Option.bind_some, zI_lit, zI_eq, zix, w4, hm, bI_eq0]
  by_cases h0 : o.rule = 0
  · rw [if_pos h0]
    cases hmv : mvW x 1 with
    | false =>
      rw [if_neg (show ¬ (o.rule = 0 ∧ false = true) from fun hh => by cases hh.2)]
      exact c_lk145 hab h hp
    | true =>
      rw [if_pos (show o.rule = 0 ∧ true = true from ⟨h0, rfl⟩)]
      obtain ⟨v, o1, φ1, t1, t2, t3, t4, t5, t6⟩ := c_takeWB h (x.w 1).r
      obtain ⟨φ2, n1, n2, n3⟩ := c_note t3 (t4.trans h0) t2 1
      obtain ⟨φ3, s1, s2, s3⟩ := c_lk145 hab n2 (hp.sm ((t6.trans n3).sm (by omega)))
      refine ⟨φ3, ?_, ?_, t6.trans (n3.trans s3)⟩
      · simp only [Bool.true_eq_false, if_false, t1, n1, Option.bind_some, s1]
      · rw [t5]; exact s2
  · rw [if_neg h0, if_neg (fun hh => h0 hh.1)]
    exact c_lk145 hab h hp
theorem c_lk85 {Γ : gm_T} {φ : ph_T} {a b : Nat} {o : MO} {x : WI} {hd : Nat → Bool} {tr : Nat → Int32} (hab : a + 7 ≤ b) (h : CMo Γ φ b o) (hp : CPt Γ φ a x hd tr) :
    ∃ φ', f_Monitor_look_L85 Γ φ b (some a) = some ((), φ') ∧ CMo Γ φ' b (((o.go4 x).go5 x).rem x) ∧ Fr b (b + 104) φ φ' := by
  have h13 := h.rl
  obtain ⟨w1, w2, w3, w4⟩ := hp.w 0 (by omega)
  have hm := c_moves hp (c := 0) (by omega)
  unfold f_Monitor_look_L85 MO.go4
  simp (disch := first | assumption | omega) only [h.o, h.rul, hp.o, hp.f3, hp.g3, if_true, Option.bind_some, zI_lit, zI_eq, zix, w3, hm, bI_eq0]
  by_cases h0 : o.rule = 0
  · rw [if_pos h0]
    cases hmv : mvW x 0 with
    | false =>
      rw [if_neg (show ¬ (o.rule = 0 ∧ false = true) from fun hh => by cases hh.2)]
      exact c_lk115 hab h hp
    | true =>
      rw [if_pos (show o.rule = 0 ∧ true = true from ⟨h0, rfl⟩)]
      obtain ⟨v, o1, φ1, t1, t2, t3, t4, t5, t6⟩ := c_takeWA h (x.w 0).c
      obtain ⟨φ2, n1, n2, n3⟩ := c_note t3 (t4.trans h0) t2 0
      obtain ⟨φ3, s1, s2, s3⟩ := c_lk115 hab n2 (hp.sm ((t6.trans n3).sm (by omega)))
      refine ⟨φ3, ?_, ?_, t6.trans (n3.trans s3)⟩
      · simp only [Bool.true_eq_false, if_false, t1, n1, Option.bind_some, s1]
      · rw [t5]; exact s2
  · rw [if_neg h0, if_neg (fun hh => h0 hh.1)]
    exact c_lk115 hab h hp
theorem go45_r {o : MO} {x : WI} (h : o.rule ≠ 0) : (o.go4 x).go5 x = o := by
  have e : o.go4 x = o := by unfold MO.go4; rw [if_neg (fun hh => h hh.1)]
  rw [e]
  unfold MO.go5
  rw [if_neg (fun hh => h hh.1)]
theorem c_lk43 {Γ : gm_T} {φ : ph_T} {a b : Nat} {o : MO} {x : WI} {hd : Nat → Bool} {tr : Nat → Int32} (hab : a + 7 ≤ b) (h : CMo Γ φ b o) (hp : CPt Γ φ a x hd tr) :
    ∃ φ', f_Monitor_look_L43 Γ φ b (some a) = some ((), φ') ∧ CMo Γ φ' b ((if o.rule = 0 then ((o.go3 x).go4 x).go5 x else o).rem x) ∧ Fr b (b + 104) φ φ' := by
  have h13 := h.rl
  obtain ⟨l, hl⟩ := h.rs
  obtain ⟨w1, w2, w3, w4⟩ := hp.w 3 (by omega)
  have hm := c_moves hp (c := 3) (by omega)
  unfold f_Monitor_look_L43 f_Monitor_look_L81
  simp (disch := first | assumption | omega) only [h.o, h.rul, h.f1, hl.c.o, hp.o, hp.f3, hp.g3, if_true, Option.bind_some, zI_lit, zI_eq, zix, w3, hm, bI_eq0]
  by_cases h0 : o.rule = 0
  · rw [if_pos h0, if_pos h0]
    unfold MO.go3
    cases hmv : mvW x 3 with
    | false =>
      rw [if_neg (show ¬ (false = true) from fun hh => by cases hh)]
      exact c_lk85 hab h hp
    | true =>
      rw [if_pos rfl]
      unfold MO.goAr
      by_cases hr : o.rs.length < 16
      · obtain ⟨y, φ1, s1, s2, s3, s4, s5, s6, s7, s8, s9, s10, s11, s12, s13, s14⟩ := c_Ladd hl hr (x.w 3).c
        have hE0 : EMr φ1 y ⟨(x.w 3).c, 0⟩ := ⟨s8, s11, Nat.zero_le 16⟩
        have hfr : Fr (b + 51) (b + 101) φ φ1 := s4.mono (by omega) (by omega)
        have hm1 := h.setR hfr (s14 _ hE0)
        obtain ⟨φ2, n1, n2, n3⟩ := c_note hm1 (show _ = 0 from h0) (x := 0) (by omega) 3
        rw [note0] at n2
        obtain ⟨φ3, q1, q2, q3⟩ := c_lk85 hab n2 (hp.sm (((hfr.mono (lo' := b) (hi' := b + 104) (by omega) (by omega)).trans n3).sm (by omega)))
        refine ⟨φ3, ?_, ?_, (hfr.mono (by omega) (by omega)).trans (n3.trans q3)⟩
        · simp only [Bool.true_eq_false, if_false, s1, Option.bind_some, reduceCtorEq, n1, q1]
        · rw [if_neg (by omega)]; exact q2
      · have hle := hl.c.le
        obtain ⟨φ2, n1, n2, n3⟩ := c_note h h0 (x := 12) (by omega) 3
        obtain ⟨φ3, q1, q2, q3⟩ := c_lk85 hab n2 (hp.sm (n3.sm (by omega)))
        refine ⟨φ3, ?_, ?_, n3.trans q3⟩
        · simp only [Bool.true_eq_false, if_false, c_Ladd_full hl hr, Option.bind_some, if_true, n1, q1]
        · rw [if_pos (by omega)]; exact q2
  · rw [if_neg h0, if_neg h0]
    obtain ⟨φ3, q1, q2, q3⟩ := c_lk85 hab h hp
    rw [go45_r h0] at q2
    exact ⟨φ3, q1, q2, q3⟩
theorem go12_rule (o : MO) (x : WI) : ((o.go1 x).go2 x).rule = o.rule := by
  unfold MO.go2 MO.go1 MO.goR MO.goB
  repeat' split
  all_goals rfl
theorem c_lk31 {Γ : gm_T} {φ : ph_T} {a b : Nat} {o : MO} {x : WI} {hd : Nat → Bool} {tr : Nat → Int32} (hab : a + 7 ≤ b) (h : CMo Γ φ b o) (hp : CPt Γ φ a x hd tr) (hi : ∀ e ∈ o.rs, e.n < leN e.con) :
    ∃ φ', f_Monitor_look_L31 Γ φ b (some a) = some ((), φ') ∧ CMo Γ φ' b ((o.go x).rem x) ∧ Fr b (b + 104) φ φ' := by
  have h13 := h.rl
  unfold f_Monitor_look_L31 MO.go
  simp (disch := first | assumption | omega) only [h.o, h.rul, if_true, zI_lit, zI_eq]
  by_cases h0 : o.rule = 0
  · rw [if_pos h0, if_pos h0]
    obtain ⟨φ1, t1, t2, t3⟩ := c_takeAnswers h hp hab hi
    obtain ⟨φ3, q1, q2, q3⟩ := c_lk43 hab t2 (hp.sm (t3.sm (by omega)))
    rw [if_pos ((go12_rule o x).trans h0)] at q2
    refine ⟨φ3, ?_, q2, t3.trans q3⟩
    rw [t1, Option.bind_some]
    exact q1
  · rw [if_neg h0, if_neg h0]
    obtain ⟨φ3, q1, q2, q3⟩ := c_lk43 hab h hp
    rw [if_neg h0] at q2
    exact ⟨φ3, q1, q2, q3⟩
theorem c_lk2 {Γ : gm_T} {a b : Nat} {x : WI} {hd : Nat → Bool} {tr : Nat → Int32} (hab : a + 7 ≤ b) : ∀ (d c fu : Nat) (φ : ph_T) (o : MO), c + d = 5 → d < fu → CMo Γ φ b o → CPt Γ φ a x hd tr → (∀ e ∈ o.rs, e.n < leN e.con) →
    ∃ φ', f_Monitor_look_L2 Γ fu φ b (some a) (nI c) = some ((), φ') ∧ CMo Γ φ' b (((o.lookF x.w d c).go x).rem x) ∧ Fr b (b + 104) φ φ' := by
  intro d
  induction d with
  | zero =>
    intro c fu φ o hd' hfu h hp hi
    match fu, hfu with
    | fu + 1, _ =>
      unfold f_Monitor_look_L2 MO.lookF
      rw [if_pos (by rw [show (5 : Int32) = nI 5 from rfl, zI_le (by omega) (by omega)]; omega)]
      exact c_lk31 hab h hp hi
  | succ d ih =>
    intro c fu φ o hd' hfu h hp hi
    match fu, hfu with
    | fu + 1, hfu =>
      have h13 := h.rl
      unfold f_Monitor_look_L2
      rw [if_neg (by rw [show (5 : Int32) = nI 5 from rfl, zI_le (by omega) (by omega)]; omega), if_pos h.o, h.rul]
      by_cases h0 : o.rule = 0
      · obtain ⟨φ1, n1, n2, n3⟩ := c_note h h0 (look1_lt o c (x.w c)) c
        obtain ⟨φ2, q1, q2, q3⟩ := ih (c + 1) fu φ1 _ (by omega) (by omega) n2 (hp.sm (n3.sm (by omega))) (by rw [note_rs]; exact hi)
        refine ⟨φ2, ?_, ?_, n3.trans q3⟩
        · rw [h0, if_pos (by rfl), c_brokenOn h hp (by omega), Option.bind_some, n1, Option.bind_some, zI_1, zI_add]
          exact q1
        · unfold MO.lookF
          rw [if_pos h0]
          exact q2
      · obtain ⟨φ2, q1, q2, q3⟩ := c_lk31 hab h hp hi
        refine ⟨φ2, ?_, ?_, q3⟩
        · rw [if_neg (show ¬ nI o.rule = 0 from by rw [zI_0, zI_eq (by omega) (by omega)]; exact h0)]
          exact q1
        · rw [lookF_r _ _ _ _ h0]
          exact q2
theorem c_look {Γ : gm_T} {φ : ph_T} {a b : Nat} {o : MO} {x : WI} {hd : Nat → Bool} {tr : Nat → Int32} (hab : a + 7 ≤ b) (h : CMo Γ φ b o) (hp : CPt Γ φ a x hd tr) (hi : ∀ e ∈ o.rs, e.n < leN e.con) :
    ∃ φ', f_Monitor_look Γ φ b (some a) = some ((), φ') ∧ CMo Γ φ' b (o.look x) ∧ Fr b (b + 104) φ φ' := c_lk2 hab 5 0 jF φ o (by omega) (by unfold jF; omega) h hp hi
theorem c_faultPart {Γ : gm_T} {φ : ph_T} {b : Nat} {o : MO} (h : CMo Γ φ b o) {k : Nat} (hk : k < 3) : f_Monitor_faultPart Γ φ b (nI k) = some (if k = 0 then nI o.rule else if k = 1 then o.chan else o.tick, φ) := by
  unfold f_Monitor_faultPart f_Monitor_faultPart_L25
  match k, hk with
  | 0, _ => rw [if_pos (by decide), if_pos h.o, h.rul]; rfl
  | 1, _ => rw [if_neg (by decide), if_pos (by decide), if_pos h.o, h.cha]; rfl
  | 2, _ => rw [if_neg (by decide), if_neg (by decide), if_pos h.o, h.tic]; rfl
theorem CL.zero {α : Type} {Γ : gm_T} {φ : ph_T} {a room : Nat} {E : ph_T → Nat → α → Prop} {l : List Nat} {L : List α} (h : CL Γ φ a room E l L) : CL Γ (uI φ a 1 (nI 0)) a room E l [] := by
  refine ⟨⟨h.c.o, h.c.f, h.c.g, h.c.rm, ?_, Nat.zero_le _, h.c.ll, h.c.nd, h.c.hl, h.c.at_, fun x hx => (h.c.lay x hx).up rfl⟩, ?_, h.loc⟩
  · rw [uI_s, vz_same]; rfl
  · intro k e x hk
    simp at hk
theorem c_mreset_L {Γ : gm_T} {b : Nat} : ∀ (d i fu : Nat) (φ : ph_T) (o : MO), i + d = 5 → d < fu → CMo Γ φ b o → (∀ c, c < i → φ.1 (b + 101) c = nI 0) →
    ∃ φ', f_Monitor_reset_L18 Γ fu φ b (nI i) = some ((), φ') ∧ Fr b (b + 104) φ φ' ∧ CMo Γ φ' b (((((o.w_held (fun _ => false)).w_rule (0)).w_chan (m1)).w_tick (m1)).w_ticks (0)) := by
  intro d
  induction d with
  | zero =>
    intro i fu φ o hi hfu h hc0
    match fu, hfu with
    | fu + 1, _ =>
      unfold f_Monitor_reset_L18
      rw [if_pos (by rw [show (5 : Int32) = nI 5 from rfl, zI_le (by omega) (by omega)]; omega), if_pos h.o]
      have f1 : Fr b (b + 1) φ (uI (uI (uI (uI φ b 5 (0 : Int32)) b 6 (-1 : Int32)) b 7 (-1 : Int32)) b 8 (0 : Int32)) := by repeat (first | exact Fr.refl _ _ _ | refine fr_uI ?_ (by omega) _ _)
      refine ⟨_, rfl, f1.mono (by omega) (by omega), ?_⟩
      have h' : CMo Γ φ b (o.w_held (fun _ => false)) := ⟨h.o, h.f0, h.f1, h.f2, h.f3, h.f4, h.g2, h.g3, h.g4, h.ws, h.rs, (fun c hc => ⟨hc0 c (by omega), (fun hh => absurd hh (by simp [MO.held_w_held]))⟩), h.rul, h.cha, h.tic, h.tks, h.rl⟩
      refine h'.obj f1 rfl rfl rfl (fun c hc => ⟨rfl, rfl, rfl⟩) ?_ ?_ ?_ ?_ (by show (0 : Nat) < 13; omega)
      · simp only [uI_s, vz_at]; rfl
      · simp only [uI_s, vz_at]; rfl
      · simp only [uI_s, vz_at]; rfl
      · simp only [uI_s, vz_at]; rfl
  | succ d ih =>
    intro i fu φ o hi hfu h hc0
    match fu, hfu with
    | fu + 1, hfu =>
      have f1 : Fr (b + 101) (b + 102) φ (uI φ (b + 101) i (nI 0)) := fr_uI (Fr.refl _ _ _) (by omega) _ _
      obtain ⟨φ2, q1, q2, q3⟩ := ih (i + 1) fu (uI φ (b + 101) i (nI 0)) (o.w_held (va_up o.held i false)) (by omega) (by omega) (by
        refine ⟨h.o, h.f0, h.f1, h.f2, h.f3, h.f4, h.g2, h.g3, h.g4, ?_, ?_, ?_, ?_, ?_, ?_, ?_, h.rl⟩
        · obtain ⟨l, hl⟩ := h.ws; exact ⟨l, hl.sm (f1.sm (by omega))⟩
        · obtain ⟨l, hl⟩ := h.rs; exact ⟨l, hl.sm (f1.sm (by omega))⟩
        · intro c hc
          obtain ⟨u1, u2⟩ := h.hel c hc
          simp (disch := first | assumption | omega) only [uI_1, uI_2, uI_3, uL_1, uL_2, uL_3, vz_at, Nat.add_left_cancel_iff, Nat.reduceEqDiff, if_false, zr1, zr2, if_true, MO.held_w_ws, MO.held_w_rs, MO.held_w_held, MO.held_w_hc, MO.held_w_hr, MO.held_w_rule, MO.held_w_chan, MO.held_w_tick, MO.held_w_ticks, MO.hc_w_ws, MO.hc_w_rs, MO.hc_w_held, MO.hc_w_hc, MO.hc_w_hr, MO.hc_w_rule, MO.hc_w_chan, MO.hc_w_tick, MO.hc_w_ticks, MO.hr_w_ws, MO.hr_w_rs, MO.hr_w_held, MO.hr_w_hc, MO.hr_w_hr, MO.hr_w_rule, MO.hr_w_chan, MO.hr_w_tick, MO.hr_w_ticks, MO.held_mk, MO.hc_mk, MO.hr_mk]
          by_cases e : c = i
          · simp only [if_pos e]
            exact ⟨rfl, fun hh => absurd hh (by decide)⟩
          · simp only [if_neg e]
            exact ⟨u1, u2⟩
        · rw [f1.i (by omega)]; exact h.rul
        · rw [f1.i (by omega)]; exact h.cha
        · rw [f1.i (by omega)]; exact h.tic
        · rw [f1.i (by omega)]; exact h.tks) (by
        intro c hc
        rw [uI_s, vz_at]
        split
        · rfl
        · exact hc0 c (by omega))
      refine ⟨φ2, ?_, (f1.mono (by omega) (by omega)).trans q2, q3⟩
      unfold f_Monitor_reset_L18
      rw [if_neg (by rw [show (5 : Int32) = nI 5 from rfl, zI_le (by omega) (by omega)]; omega), if_pos h.o]
      simp (disch := first | assumption | omega) only [h.f2, h.g2, Option.bind_some, zix, ↓zm1, zI_ne_m, zI_m_ne, zI_lit, zI_le, zI_eq, zI_mul, zI_lt, zI_modn, zI_div, zI_sub, zI_add, zN_mod]
      rw [if_pos (by decide)]
      exact q1
theorem c_mreset {Γ : gm_T} {φ : ph_T} {b : Nat} {o : MO} (h : CMo Γ φ b o) : ∃ φ', f_Monitor_reset Γ φ b = some ((), φ') ∧ CMo Γ φ' b MO0 ∧ Fr b (b + 104) φ φ' := by
  obtain ⟨l1, hl1⟩ := h.ws
  obtain ⟨l2, hl2⟩ := h.rs
  have f1 : Fr (b + 1) (b + 2) φ (uI φ (b + 1) 1 (nI 0)) := fr_uI (Fr.refl _ _ _) (by omega) _ _
  have h1 := h.setW (f1.mono (by omega) (by omega)) hl1.zero
  have f2 : Fr (b + 51) (b + 52) (uI φ (b + 1) 1 (nI 0)) (uI (uI φ (b + 1) 1 (nI 0)) (b + 51) 1 (nI 0)) := fr_uI (Fr.refl _ _ _) (by omega) _ _
  have hl2' : CL Γ (uI φ (b + 1) 1 (nI 0)) (b + 51) 16 EMr l2 o.rs := hl2.sm (f1.sm (by omega))
  have h2 := h1.setR (f2.mono (by omega) (by omega)) hl2'.zero
  obtain ⟨φ', q1, q2, q3⟩ := c_mreset_L 5 0 jF _ _ (by omega) (by unfold jF; omega) h2 (fun c hc => absurd hc (Nat.not_lt_zero _))
  refine ⟨φ', ?_, ?_, ((f1.mono (by omega) (by omega)).trans (f2.mono (by omega) (by omega))).trans q2⟩
  · unfold f_Monitor_reset
    rw [if_pos h.o, h.f0, Option.bind_some, if_pos hl1.c.o, h.f1, Option.bind_some, if_pos hl2.c.o, zI_0]
    exact q1
  · refine ⟨q3.o, q3.f0, q3.f1, q3.f2, q3.f3, q3.f4, q3.g2, q3.g3, q3.g4, q3.ws, q3.rs, ?_, q3.rul, q3.cha, q3.tic, q3.tks, q3.rl⟩
    intro c hc
    exact ⟨(q3.hel c hc).1, fun hh => absurd hh (show ¬ (false = true) by decide)⟩
