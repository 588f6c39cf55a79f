/-! THE CLASS: monitors -/
def EMw (φ : ph_T) (x : Nat) (e : MW) : Prop := φ.1 x 1 = bI e.has ∧ (e.has = true → φ.2.1 x 0 = e.con) ∧ φ.1 x 2 = bI e.last ∧ φ.1 x 3 = nI e.n ∧ e.n ≤ 16 ∧ ∀ i, i < e.n → φ.1 (x + 2) i = e.rst i
def EMr (φ : ph_T) (x : Nat) (e : MR) : Prop := φ.2.1 x 0 = e.con ∧ φ.1 x 3 = nI e.n ∧ e.n ≤ 16
theorem EMw_loc : Loc EMw := by
  intro φ φ' x e s h
  unfold EMw
  rw [s.i (by omega) (by omega), s.l (by omega) (by omega), s.i (by omega) (by omega)]
  exact h
theorem EMr_loc : Loc EMr := by
  intro φ φ' x e s h
  unfold EMr
  rw [s.i (by omega) (by omega), s.l (by omega) (by omega)]
  exact h
def CMo (Γ : gm_T) (φ : ph_T) (b : Nat) (o : MO) : Prop := (Γ b = .inr 4) ∧ (φ.2.2 b 0 = some (b + 1)) ∧ (φ.2.2 b 1 = some (b + 51)) ∧ (φ.2.2 b 2 = some (b + 101)) ∧ (φ.2.2 b 3 = some (b + 102)) ∧ (φ.2.2 b 4 = some (b + 103)) ∧ (gA Γ (b + 101) 2 = some 5) ∧ (gA Γ (b + 102) 1 = some 5) ∧ (gA Γ (b + 103) 0 = some 5) ∧ (∃ l, CL Γ φ (b + 1) 16 EMw l o.ws) ∧ (∃ l, CL Γ φ (b + 51) 16 EMr l o.rs) ∧ (∀ c, c < 5 → φ.1 (b + 101) c = bI (o.held c) ∧ (o.held c = true → φ.2.1 (b + 102) c = o.hc c ∧ φ.1 (b + 103) c = o.hr c)) ∧ (φ.1 b 5 = nI o.rule) ∧ (φ.1 b 6 = o.chan) ∧ (φ.1 b 7 = o.tick) ∧ (φ.1 b 8 = o.ticks) ∧ (o.rule < 13)
theorem CMo.o {Γ : gm_T} {φ : ph_T} {b : Nat} {o : MO} (h : CMo Γ φ b o) : Γ b = .inr 4 := h.1
theorem CMo.f0 {Γ : gm_T} {φ : ph_T} {b : Nat} {o : MO} (h : CMo Γ φ b o) : φ.2.2 b 0 = some (b + 1) := h.2.1
theorem CMo.f1 {Γ : gm_T} {φ : ph_T} {b : Nat} {o : MO} (h : CMo Γ φ b o) : φ.2.2 b 1 = some (b + 51) := h.2.2.1
theorem CMo.f2 {Γ : gm_T} {φ : ph_T} {b : Nat} {o : MO} (h : CMo Γ φ b o) : φ.2.2 b 2 = some (b + 101) := h.2.2.2.1
theorem CMo.f3 {Γ : gm_T} {φ : ph_T} {b : Nat} {o : MO} (h : CMo Γ φ b o) : φ.2.2 b 3 = some (b + 102) := h.2.2.2.2.1
theorem CMo.f4 {Γ : gm_T} {φ : ph_T} {b : Nat} {o : MO} (h : CMo Γ φ b o) : φ.2.2 b 4 = some (b + 103) := h.2.2.2.2.2.1
theorem CMo.g2 {Γ : gm_T} {φ : ph_T} {b : Nat} {o : MO} (h : CMo Γ φ b o) : gA Γ (b + 101) 2 = some 5 := h.2.2.2.2.2.2.1
theorem CMo.g3 {Γ : gm_T} {φ : ph_T} {b : Nat} {o : MO} (h : CMo Γ φ b o) : gA Γ (b + 102) 1 = some 5 := h.2.2.2.2.2.2.2.1
theorem CMo.g4 {Γ : gm_T} {φ : ph_T} {b : Nat} {o : MO} (h : CMo Γ φ b o) : gA Γ (b + 103) 0 = some 5 := h.2.2.2.2.2.2.2.2.1
theorem CMo.ws {Γ : gm_T} {φ : ph_T} {b : Nat} {o : MO} (h : CMo Γ φ b o) : ∃ l, CL Γ φ (b + 1) 16 EMw l o.ws := h.2.2.2.2.2.2.2.2.2.1
theorem CMo.rs {Γ : gm_T} {φ : ph_T} {b : Nat} {o : MO} (h : CMo Γ φ b o) : ∃ l, CL Γ φ (b + 51) 16 EMr l o.rs := h.2.2.2.2.2.2.2.2.2.2.1
theorem CMo.hel {Γ : gm_T} {φ : ph_T} {b : Nat} {o : MO} (h : CMo Γ φ b o) : ∀ c, c < 5 → φ.1 (b + 101) c = bI (o.held c) ∧ (o.held c = true → φ.2.1 (b + 102) c = o.hc c ∧ φ.1 (b + 103) c = o.hr c) := h.2.2.2.2.2.2.2.2.2.2.2.1
theorem CMo.rul {Γ : gm_T} {φ : ph_T} {b : Nat} {o : MO} (h : CMo Γ φ b o) : φ.1 b 5 = nI o.rule := h.2.2.2.2.2.2.2.2.2.2.2.2.1
theorem CMo.cha {Γ : gm_T} {φ : ph_T} {b : Nat} {o : MO} (h : CMo Γ φ b o) : φ.1 b 6 = o.chan := h.2.2.2.2.2.2.2.2.2.2.2.2.2.1
theorem CMo.tic {Γ : gm_T} {φ : ph_T} {b : Nat} {o : MO} (h : CMo Γ φ b o) : φ.1 b 7 = o.tick := h.2.2.2.2.2.2.2.2.2.2.2.2.2.2.1
theorem CMo.tks {Γ : gm_T} {φ : ph_T} {b : Nat} {o : MO} (h : CMo Γ φ b o) : φ.1 b 8 = o.ticks := h.2.2.2.2.2.2.2.2.2.2.2.2.2.2.2.1
theorem CMo.rl {Γ : gm_T} {φ : ph_T} {b : Nat} {o : MO} (h : CMo Γ φ b o) : o.rule < 13 := h.2.2.2.2.2.2.2.2.2.2.2.2.2.2.2.2
theorem CMo.sm {Γ : gm_T} {φ φ' : ph_T} {b : Nat} {o : MO} (h : CMo Γ φ b o) (s : Sm b (b + 104) φ φ') : CMo Γ φ' b o := by
  refine ⟨h.o, ?_, ?_, ?_, ?_, ?_, h.g2, h.g3, h.g4, ?_, ?_, ?_, ?_, ?_, ?_, ?_, h.rl⟩
  · rw [s.r (by omega) (by omega)]; exact h.f0
  · rw [s.r (by omega) (by omega)]; exact h.f1
  · rw [s.r (by omega) (by omega)]; exact h.f2
  · rw [s.r (by omega) (by omega)]; exact h.f3
  · rw [s.r (by omega) (by omega)]; exact h.f4
  · obtain ⟨l, hl⟩ := h.ws; exact ⟨l, hl.sm (s.mono (by omega) (by omega))⟩
  · obtain ⟨l, hl⟩ := h.rs; exact ⟨l, hl.sm (s.mono (by omega) (by omega))⟩
  · rw [s.i (by omega) (by omega), s.l (by omega) (by omega), s.i (by omega) (by omega)]; exact h.hel
  · rw [s.i (by omega) (by omega)]; exact h.rul
  · rw [s.i (by omega) (by omega)]; exact h.cha
  · rw [s.i (by omega) (by omega)]; exact h.tic
  · rw [s.i (by omega) (by omega)]; exact h.tks
/-- only the object's own cell has changed -/
theorem CMo.obj {Γ : gm_T} {φ φ' : ph_T} {b : Nat} {o o' : MO} (h : CMo Γ φ b o) (f : Fr b (b + 1) φ φ') (e : φ'.2.2 b = φ.2.2 b) (e1 : o'.ws = o.ws) (e2 : o'.rs = o.rs) (e3 : ∀ c, c < 5 → o'.held c = o.held c ∧ o'.hc c = o.hc c ∧ o'.hr c = o.hr c)
    (h5 : φ'.1 b 5 = nI o'.rule) (h6 : φ'.1 b 6 = o'.chan) (h7 : φ'.1 b 7 = o'.tick) (h8 : φ'.1 b 8 = o'.ticks) (h9 : o'.rule < 13) : CMo Γ φ' b o' := by
  refine ⟨h.o, by rw [e]; exact h.f0, by rw [e]; exact h.f1, by rw [e]; exact h.f2, by rw [e]; exact h.f3, by rw [e]; exact h.f4, h.g2, h.g3, h.g4, ?_, ?_, ?_, h5, h6, h7, h8, h9⟩
  · rw [e1]; obtain ⟨l, hl⟩ := h.ws; exact ⟨l, hl.sm (f.sm (by omega))⟩
  · rw [e2]; obtain ⟨l, hl⟩ := h.rs; exact ⟨l, hl.sm (f.sm (by omega))⟩
  · intro c hc
    obtain ⟨u1, u2, u3⟩ := e3 c hc
    rw [f.i (by omega), f.l (by omega), f.i (by omega), u1, u2, u3]
    exact h.hel c hc
/-- only the writes have changed -/
theorem CMo.setW {Γ : gm_T} {φ φ' : ph_T} {b : Nat} {o : MO} (h : CMo Γ φ b o) (f : Fr (b + 1) (b + 51) φ φ') {L : List MW} {l : List Nat} (hl : CL Γ φ' (b + 1) 16 EMw l L) : CMo Γ φ' b (o.w_ws (L)) := by
  refine ⟨h.o, ?_, ?_, ?_, ?_, ?_, h.g2, h.g3, h.g4, ⟨l, hl⟩, ?_, ?_, ?_, ?_, ?_, ?_, h.rl⟩
  · rw [f.r (by omega)]; exact h.f0
  · rw [f.r (by omega)]; exact h.f1
  · rw [f.r (by omega)]; exact h.f2
  · rw [f.r (by omega)]; exact h.f3
  · rw [f.r (by omega)]; exact h.f4
  · obtain ⟨l, hl⟩ := h.rs; exact ⟨l, hl.sm (f.sm (by omega))⟩
  · rw [f.i (by omega), f.l (by omega), f.i (by omega)]; exact h.hel
  · rw [f.i (by omega)]; exact h.rul
  · rw [f.i (by omega)]; exact h.cha
  · rw [f.i (by omega)]; exact h.tic
  · rw [f.i (by omega)]; exact h.tks
theorem CMo.setR {Γ : gm_T} {φ φ' : ph_T} {b : Nat} {o : MO} (h : CMo Γ φ b o) (f : Fr (b + 51) (b + 101) φ φ') {L : List MR} {l : List Nat} (hl : CL Γ φ' (b + 51) 16 EMr l L) : CMo Γ φ' b (o.w_rs (L)) := by
  refine ⟨h.o, ?_, ?_, ?_, ?_, ?_, h.g2, h.g3, h.g4, ?_, ⟨l, hl⟩, ?_, ?_, ?_, ?_, ?_, h.rl⟩
  · rw [f.r (by omega)]; exact h.f0
  · rw [f.r (by omega)]; exact h.f1
  · rw [f.r (by omega)]; exact h.f2
  · rw [f.r (by omega)]; exact h.f3
  · rw [f.r (by omega)]; exact h.f4
  · obtain ⟨l, hl⟩ := h.ws; exact ⟨l, hl.sm (f.sm (by omega))⟩
  · rw [f.i (by omega), f.l (by omega), f.i (by omega)]; exact h.hel
  · rw [f.i (by omega)]; exact h.rul
  · rw [f.i (by omega)]; exact h.cha
  · rw [f.i (by omega)]; exact h.tic
  · rw [f.i (by omega)]; exact h.tks
theorem c_note {Γ : gm_T} {φ : ph_T} {b : Nat} {o : MO} (h : CMo Γ φ b o) (h0 : o.rule = 0) {x : Nat} (hx : x < 13) (c : Nat) :
    ∃ φ', f_Monitor_note Γ φ b (nI x) (nI c) = some ((), φ') ∧ CMo Γ φ' b (o.note x c) ∧ Fr b (b + 104) φ φ' := by
  unfold f_Monitor_note f_Monitor_note_L22
  simp (disch := first | assumption | omega) only [↓zm1, zI_ne_m, zI_m_ne, zI_lit, zI_le, zI_eq, zI_mul, zI_lt, zI_modn, zI_div, zI_sub, zI_add, zN_mod]
  by_cases e : x = 0
  · rw [if_pos e]
    refine ⟨φ, rfl, ?_, Fr.refl _ _ _⟩
    subst e
    rw [note0]
    exact h
  · rw [if_neg e, if_pos h.o]
    have hf : Fr b (b + 1) φ (uI (uI (uI φ b 5 (nI x)) b 6 (nI c)) b 7 ((uI (uI φ b 5 (nI x)) b 6 (nI c)).1 b 8)) := by repeat (first | exact Fr.refl _ _ _ | refine fr_uI ?_ (by omega) _ _)
    have hn : o.note x c = (((o.w_rule (x)).w_chan (nI c)).w_tick (o.ticks)) := by unfold MO.note; rw [if_pos ⟨h0, e⟩]
    refine ⟨_, rfl, ?_, hf.mono (by omega) (by omega)⟩
    rw [hn]
    refine h.obj hf rfl rfl rfl (fun c hc => ⟨rfl, rfl, rfl⟩) ?_ ?_ ?_ ?_ hx
    · simp only [uI_s, vz_at, MO.rule_w_ws, MO.rule_w_rs, MO.rule_w_held, MO.rule_w_hc, MO.rule_w_hr, MO.rule_w_rule, MO.rule_w_chan, MO.rule_w_tick, MO.rule_w_ticks, MO.rule_mk]; simp
    · simp only [uI_s, vz_at, MO.chan_w_ws, MO.chan_w_rs, MO.chan_w_held, MO.chan_w_hc, MO.chan_w_hr, MO.chan_w_rule, MO.chan_w_chan, MO.chan_w_tick, MO.chan_w_ticks, MO.chan_mk]; simp
    · simp only [uI_s, vz_at, MO.tick_w_ws, MO.tick_w_rs, MO.tick_w_held, MO.tick_w_hc, MO.tick_w_hr, MO.tick_w_rule, MO.tick_w_chan, MO.tick_w_tick, MO.tick_w_ticks, MO.tick_mk]; simp [h.tks]
    · simp only [uI_s, vz_at, MO.ticks_w_ws, MO.ticks_w_rs, MO.ticks_w_held, MO.ticks_w_hc, MO.ticks_w_hr, MO.ticks_w_rule, MO.ticks_w_chan, MO.ticks_w_tick, MO.ticks_w_ticks, MO.ticks_mk]; simp [h.tks]
theorem e_restId (Γ : gm_T) (φ : ph_T) (x : Int32) : f_Bus_restId Γ φ x = some (nI (rId x), φ) := by
  unfold f_Bus_restId
  rw [show (63 : Int32) = nI 63 from rfl, rId_eq]
theorem e_restResponse (Γ : gm_T) (φ : ph_T) (x : Int32) : f_Bus_restResponse Γ φ x = some (nI (rRe x), φ) := by
  unfold f_Bus_restResponse
  rw [show (6 : Int32) = nI 6 from rfl, show (3 : Int32) = nI 3 from rfl, show (31 : Int32) = nI 31 from rfl, rRe_eq]
theorem e_restLast (Γ : gm_T) (φ : ph_T) (x : Int32) : f_Bus_restLast Γ φ x = some (bI (rLa x), φ) := by
  unfold f_Bus_restLast f_Bus_restLast_L13
  rw [show (256 : Int32) = nI 256 from rfl, zI_0]
  by_cases h : rLa x = false
  · rw [if_pos ((rLa_eq x).mpr h), if_pos (by decide), h]; rfl
  · rw [if_neg (fun e => h ((rLa_eq x).mp e)), if_pos (by decide)]
    have : rLa x = true := by simpa using h
    rw [this]; rfl
theorem lg_eq (x y : Int64) : (lg_cmp x y = 0) = (x = y) := by
  unfold lg_cmp
  apply propext
  split
  · rename_i h
    refine ⟨fun e => absurd e (by decide), fun e => ?_⟩
    subst e
    exact absurd h Int64.lt_irrefl
  · split
    · rename_i h; exact ⟨fun _ => h, fun _ => rfl⟩
    · rename_i h; exact ⟨fun e => absurd e (by decide), fun e => absurd e h⟩
theorem lg_eqn (x y : Int64) : (lg_cmp x y = nI 0) = (x = y) := lg_eq x y
theorem c_brokenResponse {Γ : gm_T} {φ : ph_T} {a : Nat} (h : Γ a = .inr 0) (x : Int32) : f_Monitor_brokenResponse Γ φ x (some a) = some (nI (if rRe x = 1 ∧ exN (φ.2.1 a 0) = 0 then 11 else 0), φ) := by
  have h1 := rRe_lt x
  have h2 := exN_lt (φ.2.1 a 0)
  unfold f_Monitor_brokenResponse f_Monitor_brokenResponse_L22 f_Monitor_brokenResponse_L23 f_Monitor_brokenResponse_L34
  simp (disch := first | assumption | omega) only [e_restResponse, Option.bind_some, h, if_true, e_Burst_isExclusive, ↓zm1, zI_ne_m, zI_m_ne, zI_lit, zI_le, zI_eq, zI_mul, zI_lt, zI_modn, zI_div, zI_sub, zI_add, zN_mod]
  by_cases c1 : rRe x = 1
  · by_cases c2 : exN (φ.2.1 a 0) = 0
    · simp [c1, c2]
    · simp [c1, c2]
  · simp [c1]
theorem c_brokenAnswer {Γ : gm_T} {φ : ph_T} {b : Nat} {o : MO} (h : CMo Γ φ b o) (x : Int32) : f_Monitor_brokenAnswer Γ φ b x = some (nI (match o.ws.find? (isMwA (rId x)) with
    | none => 9
    | some e => if rRe x = 1 ∧ exN e.con = 0 then 11 else 0), φ) := by
  obtain ⟨l, hl⟩ := h.ws
  have ha := c_Lans hl (fun x e he => ⟨he.1, he.2.2.1, he.2.1⟩) (id := rId x) (rId_lt x)
  unfold f_Monitor_brokenAnswer
  simp only [h.o, h.f0, hl.c.o, if_true, e_restId, Option.bind_some, ha]
  cases hf : o.ws.findIdx? (isMwA (rId x)) with
  | none =>
    rw [fi_none hf]
    simp only [oI, c_Lat_m, Option.bind_some, if_true]
    rfl
  | some i =>
    obtain ⟨e, he, hfe, hp⟩ := fi_some hf
    obtain ⟨y, hy, hE, hb, _, _, _⟩ := hl.get he
    have hhas : e.has = true := by unfold isMwA at hp; simp at hp; exact hp.1.1
    rw [hfe]
    simp only [oI, c_Lat hl he hy, Option.bind_some, reduceCtorEq, if_false, c_brokenResponse hb.o, hE.2.1 hhas]
theorem c_brokenReadBeat {Γ : gm_T} {φ : ph_T} {b : Nat} {o : MO} (h : CMo Γ φ b o) (x : Int32) : f_Monitor_brokenReadBeat Γ φ b x = some (nI (match o.rs.find? (isMr (rId x)) with
    | none => 10
    | some e => if decide (e.n = leN e.con - 1) ≠ rLa x then 7 else if rRe x = 1 ∧ exN e.con = 0 then 11 else 0), φ) := by
  obtain ⟨l, hl⟩ := h.rs
  have ha := c_LwithId hl (fun e => idN e.con) (fun x e he => by rw [he.1]) (id := rId x) (rId_lt x)
  have ha' : f_Line_firstWithId Γ φ (b + 51) (nI (rId x)) = some (oI (o.rs.findIdx? (isMr (rId x))) m1, φ) := ha
  unfold f_Monitor_brokenReadBeat f_Monitor_brokenReadBeat_L47
  simp only [h.o, h.f1, hl.c.o, if_true, e_restId, Option.bind_some, ha']
  cases hf : o.rs.findIdx? (isMr (rId x)) with
  | none =>
    rw [fi_none hf]
    simp only [oI, c_Lat_m, Option.bind_some, if_true]
    rfl
  | some i =>
    obtain ⟨e, he, hfe, hp⟩ := fi_some hf
    obtain ⟨y, hy, hE, hb, _, _, _⟩ := hl.get he
    have l1 := leN_pos e.con
    have l2 := leN_le e.con
    have l3 := hE.2.2
    rw [hfe]
    simp (disch := first | assumption | omega) only [oI, c_Lat hl he hy, Option.bind_some, reduceCtorEq, if_false, c_brokenResponse hb.o, hE.1, hE.2.1, hb.o, if_true, e_Burst_lengthOf, e_restLast, ↓zm1, zI_ne_m, zI_m_ne, zI_lit, zI_le, zI_eq, zI_mul, zI_lt, zI_modn, zI_div, zI_sub, zI_add, zN_mod]
    by_cases c1 : e.n = leN e.con - 1
    · rw [if_pos c1]
      cases c2 : rLa x
      · rw [if_neg (by decide)]; simp [c1]
      · rw [if_pos (by decide)]; simp [c1]
    · rw [if_neg c1]
      cases c2 : rLa x
      · rw [if_pos (by decide)]; simp [c1]
      · rw [if_neg (by decide)]; simp [c1]
theorem c_brokenOn {Γ : gm_T} {φ : ph_T} {a b : Nat} {o : MO} {x : WI} {hd : Nat → Bool} {tr : Nat → Int32} (h : CMo Γ φ b o) (hp : CPt Γ φ a x hd tr) {c : Nat} (hc : c < 5) : f_Monitor_brokenOn Γ φ b (some a) (nI c) = some (nI (o.look1 c (x.w c)), φ) := by
  obtain ⟨w1, w2, w3, w4⟩ := hp.w c hc
  obtain ⟨k1, k2⟩ := h.hel c hc
  unfold f_Monitor_brokenOn MO.look1
  simp (disch := first | assumption | omega) only [h.o, h.f2, h.g2, if_true, Option.bind_some, zix, k1, zI_0, bI_eq0]
  cases ch : o.held c with
  | true =>
    obtain ⟨k3, k4⟩ := k2 ch
    simp only [Bool.true_eq_false, if_false, if_true]
    unfold f_Monitor_brokenHeld f_Monitor_brokenHeld_L46 f_Monitor_brokenHeld_L47 f_Monitor_brokenHeld_L57
    simp (disch := first | assumption | omega) only [hp.o, hp.f0, hp.f3, hp.f4, hp.g0, hp.g3, hp.g4, h.o, h.f3, h.f4, h.g3, h.g4, if_true, Option.bind_some, zix, w1, w3, w4, k3, k4, zI_0, bI_eq0, lg_eqn]
    cases cv : (x.w c).v with
    | false => simp; rfl
    | true =>
      simp only [Bool.true_eq_false, if_false]
      by_cases d1 : (x.w c).c = o.hc c
      · by_cases d2 : (x.w c).r = o.hr c
        · simp [d1, d2]; rfl
        · simp [d1, d2]; rfl
      · simp [d1]; rfl
  | false =>
    simp (disch := first | assumption | omega) only [hp.o, hp.f0, hp.g0, if_true, Option.bind_some, zix, w1, bI_eq0, Bool.false_eq_true, if_false]
    cases cv : (x.w c).v with
    | false => simp
    | true =>
      simp only [Bool.true_eq_false, if_false]
      unfold f_Monitor_brokenOn_L64 f_Monitor_brokenOn_L96
      match c, hc with
      | 0, _ =>
        simp (disch := first | assumption | omega) only [hp.o, hp.f3, hp.g3, if_true, Option.bind_some, zix, w3, e_Burst_brokenRule, ↓zm1, zI_ne_m, zI_m_ne, zI_lit, zI_le, zI_eq, zI_mul, zI_lt, zI_modn, zI_div, zI_sub, zI_add, zN_mod]
        simp
      | 1, _ => simp (disch := first | assumption | omega) only [↓zm1, zI_ne_m, zI_m_ne, zI_lit, zI_le, zI_eq, zI_mul, zI_lt, zI_modn, zI_div, zI_sub, zI_add, zN_mod]; simp
      | 2, _ =>
        simp (disch := first | assumption | omega) only [hp.o, hp.f4, hp.g4, if_true, Option.bind_some, zix, w4, c_brokenAnswer h, ↓zm1, zI_ne_m, zI_m_ne, zI_lit, zI_le, zI_eq, zI_mul, zI_lt, zI_modn, zI_div, zI_sub, zI_add, zN_mod]
        simp
        rfl
      | 3, _ =>
        simp (disch := first | assumption | omega) only [hp.o, hp.f3, hp.g3, if_true, Option.bind_some, zix, w3, e_Burst_brokenRule, ↓zm1, zI_ne_m, zI_m_ne, zI_lit, zI_le, zI_eq, zI_mul, zI_lt, zI_modn, zI_div, zI_sub, zI_add, zN_mod]
        simp
      | 4, _ =>
        simp (disch := first | assumption | omega) only [hp.o, hp.f4, hp.g4, if_true, Option.bind_some, zix, w4, c_brokenReadBeat h, ↓zm1, zI_ne_m, zI_m_ne, zI_lit, zI_le, zI_eq, zI_mul, zI_lt, zI_modn, zI_div, zI_sub, zI_add, zN_mod]
        simp
        rfl
theorem look1_lt (o : MO) (c : Nat) (w : WV) : o.look1 c w < 13 := by
  unfold MO.look1
  have := ruN_lt w.c
  repeat' split
  all_goals omega
