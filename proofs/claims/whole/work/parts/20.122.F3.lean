/-! THE FACE: more that is asked -/
theorem c_fPart {Γ : gm_T} {φ : ph_T} {m : Nat} {o : MO} (h : CMo Γ φ m o) {j : Nat} (hj : j < 3) : f_Monitor_faultPart Γ φ m (nI j) = some (if j = 0 then nI o.rule else if j = 1 then o.chan else o.tick, φ) := by
  unfold f_Monitor_faultPart f_Monitor_faultPart_L25
  have hj3 : j = 0 ∨ j = 1 ∨ j = 2 := by omega
  rcases hj3 with rfl | rfl | rfl
  · rw [if_pos (by decide), if_pos h.o, h.rul]; rfl
  · rw [if_neg (by decide), if_pos (by decide), if_pos h.o, h.cha]; rfl
  · rw [if_neg (by decide), if_neg (by decide), if_pos h.o, h.tic]; rfl
theorem q_port {Γ : gm_T} {φ : ph_T} {b : Nat} {S : XS} {k : Nat} (h : CV Γ φ b S) (hJ : JI k S) (sd kk x : Int32) : Face Γ φ b S k (f_Bus_port Γ φ b sd kk x) (fun φ1 r => f_Ref_port Γ φ1 r sd kk x) IOB IAE IAE := by
  have n4 := h.lay.nm4
  have s4 := h.lay.ns4
  have hm : f_Bus_needNumber Γ φ x (0 : Int32) (7 : Int32) = _ := nNum Γ φ x (lo := 0) (hi := 7) (by decide) (by decide)
  cases hS : okS S sd kk with
  | none =>
    refine Face.get h hJ 1 0 (by decide) ?_ (fun φ1 r hr => ⟨0, ?_, fun e => by cases e⟩)
    · unfold f_Bus_port
      rw [if_pos h.lay.o, c_portAt h, hS]; rfl
    · show f_Ref_port Γ φ1 r sd kk x = _
      unfold f_Ref_port f_Ref_port_L31
      rw [if_pos hr.rl.o, r_isSide hr n4 s4, hS, isS_n, Option.bind_some, if_pos (bf_eq _), if_pos hr.rl.o, if_pos hr.rl.o, if_neg (er_1 _ _)]
      rfl
  | some p =>
    obtain ⟨hp, hp8, a, d, rfl, rfl, hpe, ha, hd⟩ := okS_some n4 s4 hS
    cases hx : inN x 0 7 with
    | false =>
      refine Face.get h hJ 2 0 (by decide) ?_ (fun φ1 r hr => ⟨0, ?_, fun e => by cases e⟩)
      · unfold f_Bus_port
        rw [if_pos h.lay.o, c_portAt h, hS, bT_l, hm, hx]; rfl
      · show f_Ref_port Γ φ1 r _ _ x = _
        unfold f_Ref_port f_Ref_port_L31
        rw [if_pos hr.rl.o, r_isSide hr n4 s4, hS, isS_s, Option.bind_some, if_neg (bt_ne _), show f_Ref_in Γ φ1 x.toInt64 (0 : Int64) (7 : Int64) = _ from e_inN Γ φ1 x 0 7, hx, Option.bind_some, if_pos (bf_eq _), if_pos hr.rl.o, if_pos hr.rl.o, if_neg (er_2 _ _)]
        rfl
    | true =>
      obtain ⟨j, _, hj, rfl, _⟩ := inN_t (by decide) (by decide) hx
      have hB : f_Bus_port Γ φ b (nI a) (nI d) (nI j) = some (.inl (if j < 5 then S.tr p j else if j = 5 then nI (S.mon p).rule else if j = 6 then (S.mon p).chan else (S.mon p).tick), φ) := by
        obtain ⟨hdd, hP⟩ := h.po p hp
        have hM := h.mo p hp
        unfold f_Bus_port
        rw [if_pos h.lay.o, c_portAt h, hS, bT_l, hm, hx, if_pos rfl, bT_l]
        by_cases h5 : j < 5
        · rw [if_neg (by rw [show (5 : Int32) = nI 5 from rfl, zI_le (by omega) (by omega)]; omega), Option.bind_some, if_pos hP.o, hP.f5, Option.bind_some, hP.g5, Option.bind_some, zix (by omega), Option.bind_some, hP.tr j (by omega), if_pos h5]
        · rw [if_pos (by rw [show (5 : Int32) = nI 5 from rfl, zI_le (by omega) (by omega)]; omega), Option.bind_some, if_pos hP.o, hP.f6, Option.bind_some, if_pos hM.o, show nI j - (5 : Int32) = nI (j - 5) from zI_sub (b := 5) (by omega), c_fPart hM (by omega), if_neg h5]
          have hj3 : j = 5 ∨ j = 6 ∨ j = 7 := by omega
          rcases hj3 with rfl | rfl | rfl <;> rfl
      refine Face.get h hJ 0 _ (by decide) (hB.trans rfl) (fun φ1 r hr => ⟨_, ?_, fun _ => rfl⟩)
      obtain ⟨h1, _⟩ := r_errUp hr 0
      have hM := h1.mo p (by omega)
      show f_Ref_port Γ φ1 r _ _ _ = _
      unfold f_Ref_port f_Ref_port_L31 f_Ref_port_L107
      rw [if_pos hr.rl.o, r_isSide hr n4 s4, hS, isS_s, Option.bind_some, if_neg (bt_ne _), show f_Ref_in Γ φ1 (nI j).toInt64 (0 : Int64) (7 : Int64) = _ from e_inN Γ φ1 (nI j) 0 7, hx, Option.bind_some, if_neg (bt_ne _), if_pos hr.rl.o, if_pos hr.rl.o, if_pos (er_0 _ _), show (4 : Int32) * nI a + nI d = nI p from by rw [show (4 : Int32) = nI 4 from rfl, zI_mul, zI_add, ← hpe]]
      by_cases h5 : j < 5
      · rw [if_neg (by rw [show (5 : Int32) = nI 5 from rfl, zI_le (by omega) (by omega)]; omega), if_pos h5, rf_38 hr.rl, Option.bind_some, rg_38 hr.rl, Option.bind_some, show (5 : Int32) * nI p + nI j = nI (5 * p + j) from by rw [show (5 : Int32) = nI 5 from rfl, zI_mul, zI_add], zix (by omega), Option.bind_some, zI_0, h1.tr p j hp8 h5]
        rfl
      · rw [if_pos (by rw [show (5 : Int32) = nI 5 from rfl, zI_le (by omega) (by omega)]; omega), if_neg h5]
        have hj3 : j = 5 ∨ j = 6 ∨ j = 7 := by omega
        rcases hj3 with rfl | rfl | rfl
        · rw [if_pos (by decide), rf_86 hr.rl, Option.bind_some, rg_86 hr.rl, Option.bind_some, zix (by omega), Option.bind_some, zI_0, show (uI φ1 r 0 (nI 0)).1 (r + 76) p = _ from hM.rul]
          rfl
        · rw [if_neg (by decide), if_pos (by decide), rf_87 hr.rl, Option.bind_some, rg_87 hr.rl, Option.bind_some, zix (by omega), Option.bind_some, zI_0, show (uI φ1 r 0 (nI 0)).1 (r + 77) p = _ from hM.cha]
          rfl
        · rw [if_neg (by decide), if_neg (by decide), rf_88 hr.rl, Option.bind_some, rg_88 hr.rl, Option.bind_some, zix (by omega), Option.bind_some, zI_0, show (uI φ1 r 0 (nI 0)).1 (r + 78) p = _ from hM.tic]
          rfl
theorem r_isWatcher (Γ : gm_T) (φ : ph_T) (x : Int32) : f_Ref_isWatcher Γ φ x = some (bI (inN x 0 1), φ) := by
  unfold f_Ref_isWatcher
  rw [show f_Ref_in Γ φ x.toInt64 (0 : Int64) (1 : Int64) = _ from e_inN Γ φ x 0 1, Option.bind_some, if_pos (bI_or _)]
theorem q_watched {Γ : gm_T} {φ : ph_T} {b : Nat} {S : XS} {k : Nat} (h : CV Γ φ b S) (hJ : JI k S) (w x : Int32) : Face Γ φ b S k (f_Bus_watched Γ φ b w x) (fun φ1 r => f_Ref_watched Γ φ1 r w x) IOB IAE IAE := by
  have n4 := h.lay.nm4
  have s4 := h.lay.ns4
  have hn : f_Bus_needIndex Γ φ w (2 : Int32) = _ := nIdx Γ φ w (n := 2) (by decide) (by decide)
  have hm : f_Bus_needNumber Γ φ x (0 : Int32) (5 : Int32) = _ := nNum Γ φ x (lo := 0) (hi := 5) (by decide) (by decide)
  cases hw : inN w 0 1 with
  | false =>
    refine Face.get h hJ 1 0 (by decide) ?_ (fun φ1 r hr => ⟨0, ?_, fun e => by cases e⟩)
    · unfold f_Bus_watched
      rw [hn, show inN w 0 (2 - 1) = false from hw]; rfl
    · show f_Ref_watched Γ φ1 r w x = _
      unfold f_Ref_watched f_Ref_watched_L29
      rw [r_isWatcher, hw, Option.bind_some, if_pos (bf_eq _), if_pos hr.rl.o, if_pos hr.rl.o, if_neg (er_1 _ _)]
      rfl
  | true =>
    obtain ⟨i, _, hi, rfl, _⟩ := inN_t (by decide) (by decide) hw
    cases hx : inN x 0 5 with
    | false =>
      refine Face.get h hJ 2 0 (by decide) ?_ (fun φ1 r hr => ⟨0, ?_, fun e => by cases e⟩)
      · unfold f_Bus_watched
        rw [hn, show inN (nI i) 0 (2 - 1) = true from hw, if_pos rfl, bT_l, hm, hx]; rfl
      · show f_Ref_watched Γ φ1 r _ x = _
        unfold f_Ref_watched f_Ref_watched_L29
        rw [r_isWatcher, hw, Option.bind_some, if_neg (bt_ne _), show f_Ref_in Γ φ1 x.toInt64 (0 : Int64) (5 : Int64) = _ from e_inN Γ φ1 x 0 5, hx, Option.bind_some, if_pos (bf_eq _), if_pos hr.rl.o, if_pos hr.rl.o, if_neg (er_2 _ _)]
        rfl
    | true =>
      obtain ⟨j, _, hj, rfl, _⟩ := inN_t (by decide) (by decide) hx
      have hok : okP S.nm S.ns (8 + i) := Or.inr (Or.inr (by omega))
      have hB : f_Bus_watched Γ φ b (nI i) (nI j) = some (.inl (if j = 0 then nI (S.mon (8 + i)).rule else if j = 1 then (S.mon (8 + i)).chan else if j = 2 then (S.mon (8 + i)).tick else if j = 3 then (S.mon (8 + i)).ticks else if j = 4 then nI (S.mon (8 + i)).ws.length else nI (S.mon (8 + i)).rs.length), φ) := by
        obtain ⟨hdd, hP⟩ := h.po (8 + i) hok
        have hM := h.mo (8 + i) hok
        obtain ⟨lw, hW⟩ := hM.ws
        obtain ⟨lr, hR⟩ := hM.rs
        unfold f_Bus_watched
        rw [hn, show inN (nI i) 0 (2 - 1) = true from hw, if_pos rfl, bT_l, hm, hx, if_pos rfl, bT_l, if_pos h.lay.o, h.lay.f6, Option.bind_some, h.lay.g6, Option.bind_some, zix (by omega), Option.bind_some, h.lay.wp i (by omega), Option.bind_some, if_pos hP.o, hP.f6]
        simp only [Option.bind_some, hM.o, if_true, hM.f0, hM.f1, hW.c.o, hR.c.o, hW.c.n, hR.c.n, hM.tks]
        have hj3 : j = 0 ∨ j = 1 ∨ j = 2 ∨ j = 3 ∨ j = 4 ∨ j = 5 := by omega
        rcases hj3 with rfl | rfl | rfl | rfl | rfl | rfl
        · rw [if_neg (by decide), if_neg (by decide), if_neg (by decide), c_fPart hM (by decide)]; rfl
        · rw [if_neg (by decide), if_neg (by decide), if_neg (by decide), c_fPart hM (by decide)]; rfl
        · rw [if_neg (by decide), if_neg (by decide), if_neg (by decide), c_fPart hM (by decide)]; rfl
        · rw [if_pos (by decide)]; rfl
        · rw [if_neg (by decide), if_pos (by decide)]; rfl
        · rw [if_neg (by decide), if_neg (by decide), if_pos (by decide)]; rfl
      refine Face.get h hJ 0 _ (by decide) (hB.trans rfl) (fun φ1 r hr => ⟨_, ?_, fun _ => rfl⟩)
      obtain ⟨h1, _⟩ := r_errUp hr 0
      have hM := h1.mo (8 + i) (by omega)
      show f_Ref_watched Γ φ1 r _ _ = _
      unfold f_Ref_watched f_Ref_watched_L29 f_Ref_watched_L121
      rw [r_isWatcher, hw, Option.bind_some, if_neg (bt_ne _), show f_Ref_in Γ φ1 (nI j).toInt64 (0 : Int64) (5 : Int64) = _ from e_inN Γ φ1 (nI j) 0 5, hx, Option.bind_some, if_neg (bt_ne _), if_pos hr.rl.o, if_pos hr.rl.o, if_pos (er_0 _ _), show (8 : Int32) + nI i = nI (8 + i) from by rw [show (8 : Int32) = nI 8 from rfl, zI_add]]
      have hj3 : j = 0 ∨ j = 1 ∨ j = 2 ∨ j = 3 ∨ j = 4 ∨ j = 5 := by omega
      rcases hj3 with rfl | rfl | rfl | rfl | rfl | rfl
      · rw [if_pos (by decide), rf_86 hr.rl, Option.bind_some, rg_86 hr.rl, Option.bind_some, zix (by omega), Option.bind_some, zI_0, show (uI φ1 r 0 (nI 0)).1 (r + 76) (8 + i) = _ from hM.rul]
        rfl
      · rw [if_neg (by decide), if_pos (by decide), rf_87 hr.rl, Option.bind_some, rg_87 hr.rl, Option.bind_some, zix (by omega), Option.bind_some, zI_0, show (uI φ1 r 0 (nI 0)).1 (r + 77) (8 + i) = _ from hM.cha]
        rfl
      · rw [if_neg (by decide), if_neg (by decide), if_pos (by decide), rf_88 hr.rl, Option.bind_some, rg_88 hr.rl, Option.bind_some, zix (by omega), Option.bind_some, zI_0, show (uI φ1 r 0 (nI 0)).1 (r + 78) (8 + i) = _ from hM.tic]
        rfl
      · rw [if_neg (by decide), if_neg (by decide), if_neg (by decide), if_pos (by decide), rf_85 hr.rl, Option.bind_some, rg_85 hr.rl, Option.bind_some, zix (by omega), Option.bind_some, zI_0, show (uI φ1 r 0 (nI 0)).1 (r + 75) (8 + i) = _ from hM.tks]
        rfl
      · rw [if_neg (by decide), if_neg (by decide), if_neg (by decide), if_neg (by decide), if_pos (by decide), rf_89 hr.rl, Option.bind_some, rg_89 hr.rl, Option.bind_some, zix (by omega), Option.bind_some, zI_0, show (uI φ1 r 0 (nI 0)).1 (r + 79) (8 + i) = _ from hM.nw]
        rfl
      · rw [if_neg (by decide), if_neg (by decide), if_neg (by decide), if_neg (by decide), if_neg (by decide), rf_90 hr.rl, Option.bind_some, rg_90 hr.rl, Option.bind_some, zix (by omega), Option.bind_some, zI_0, show (uI φ1 r 0 (nI 0)).1 (r + 80) (8 + i) = _ from hM.nr]
        rfl
/-- an index below a count that may be none -/
def inC (x : Int32) (n : Nat) : Bool := if n = 0 then false else inN x 0 (n - 1)
theorem inC_t {x : Int32} {n : Nat} (hn : n < 2 ^ 31) (h : inC x n = true) : ∃ i, i < n ∧ x = nI i := by
  unfold inC at h
  split at h
  · cases h
  · obtain ⟨i, _, h2, h3, _⟩ := inN_t (by omega) (by omega) h
    exact ⟨i, by omega, h3⟩
theorem nIdxC (Γ : gm_T) (φ : ph_T) (x : Int32) {n : Nat} (h1 : n < 2 ^ 31) : f_Bus_needIndex Γ φ x (nI n) = some (if inC x n = true then .inl () else .inr IOB, φ) := by
  by_cases h0 : n = 0
  · subst h0
    unfold inC f_Bus_needIndex f_Bus_needIndex_L9
    rw [if_pos rfl]
    by_cases a : x < 0
    · rw [if_pos a]; rfl
    · rw [if_neg a]
      by_cases c : x < nI 0
      · exact absurd c a
      · rw [if_neg c]; rfl
  · rw [nIdx Γ φ x (by omega) h1]
    unfold inC
    rw [if_neg h0]
theorem e_inC (Γ : gm_T) (φ : ph_T) (x : Int32) {n : Nat} (h1 : n < 2 ^ 31) : f_Ref_in Γ φ x.toInt64 (0 : Int64) ((nI n).toInt64 - (1 : Int64)) = some (bI (inC x n), φ) := by
  by_cases h0 : n = 0
  · subst h0
    rw [e_in]
    have : inL x.toInt64 (0 : Int64) ((nI 0).toInt64 - (1 : Int64)) = false := by
      have e : (nI 0).toInt64 - (1 : Int64) = -1 := by decide
      rw [e]
      unfold inL
      by_cases a : x.toInt64 < 0
      · rw [decide_eq_false (by simpa using a)]; rfl
      · have : (-1 : Int64) < x.toInt64 := by
          rw [Int64.lt_iff_toInt_lt] at *
          rw [show (-1 : Int64).toInt = -1 from by decide]
          rw [show (0 : Int64).toInt = 0 from by decide] at a
          omega
        rw [decide_eq_false (show ¬ ¬ (-1 : Int64) < x.toInt64 by simpa using this), Bool.and_false]
    rw [this]
    rfl
  · rw [nI_64m1 (by omega) h1]
    unfold inC
    rw [if_neg h0]
    exact e_inN Γ φ x 0 (n - 1)
theorem r_isTicket {Γ : gm_T} {φ : ph_T} {r : Nat} {S : XS} (hr : RV Γ φ r S) (x : Int32) : f_Ref_isTicket Γ φ r x = some (bI (inC x S.tk.length), φ) := by
  have hle := hr.tk.hle
  unfold f_Ref_isTicket
  rw [if_pos hr.rl.o, hr.sc.tk, e_inC Γ φ x (by omega), Option.bind_some, if_pos (bI_or _)]
theorem q_data {Γ : gm_T} {φ : ph_T} {b : Nat} {S : XS} {k : Nat} (h : CV Γ φ b S) (hJ : JI k S) (hbb : ∀ e ∈ S.tk, e.beats ≤ 16) (t x : Int32) : Face Γ φ b S k (f_Bus_data Γ φ b t x) (fun φ1 r => f_Ref_data Γ φ1 r t x) IOB IOB IOB := by
  have hle := h.tk.le
  have bad : ∀ φ1 r, RV Γ φ1 r S → f_Ref_data_L31 Γ φ1 r t x r = some (0, uI φ1 r 0 (nI 1)) := by
    intro φ1 r hr
    unfold f_Ref_data_L31 f_Ref_data_L32 f_Ref_data_L57
    rw [if_pos hr.rl.o, if_pos hr.rl.o, if_neg (er_1 _ _)]
    rfl
  cases ht : inC t S.tk.length with
  | false =>
    refine Face.get h hJ 1 0 (by decide) ?_ (fun φ1 r hr => ⟨0, ?_, fun e => by cases e⟩)
    · unfold f_Bus_data
      rw [if_pos h.lay.o, h.tc, nIdxC Γ φ t (by omega), ht]; rfl
    · show f_Ref_data Γ φ1 r t x = _
      unfold f_Ref_data
      rw [if_pos hr.rl.o, r_isTicket hr, ht, Option.bind_some, if_pos (bf_eq _)]
      exact bad φ1 r hr
  | true =>
    obtain ⟨i, hi, rfl⟩ := inC_t (by omega) ht
    obtain ⟨e, he⟩ : ∃ e, S.tk[i]? = some e := ⟨S.tk[i], List.getElem?_eq_getElem hi⟩
    obtain ⟨o1, o2, o3⟩ := h.tk.o i (by omega)
    obtain ⟨t1, t2, t3, t4, t5, t6, t7, t8, t9⟩ := h.tk.e i e he
    have hIT := hJ.1.tk e (lmem he)
    have hl16 := leN_le e.con
    have hb16 := hbb e (lmem he)
    have hB : f_Bus_data Γ φ b (nI i) x = bT (some (if inC x e.beats = true then .inl () else .inr IOB, φ)) fun v14 φ15 => Option.bind (φ15.2.2 (tAd b S.nm S.ns + 4 * i + 1) 6) fun a17 => Option.bind (gA Γ a17 1) fun N18 => Option.bind (ix x N18) fun k19 => some (.inl ((φ15.2.1 a17 k19)), φ15) := by
      unfold f_Bus_data
      rw [if_pos h.lay.o, h.tc, nIdxC Γ φ (nI i) (by omega), ht, if_pos rfl, bT_l, h.lay.f7, Option.bind_some, h.lay.g7, Option.bind_some, zix (by omega), Option.bind_some, h.lay.tk i (by omega), Option.bind_some, if_pos o1, o2, Option.bind_some, if_pos o3.o, t7, nIdxC Γ φ x (by omega)]
    cases hx : inC x e.beats with
    | false =>
      refine Face.get h hJ 1 0 (by decide) ?_ (fun φ1 r hr => ⟨0, ?_, fun e => by cases e⟩)
      · rw [hB, hx]; rfl
      · show f_Ref_data Γ φ1 r _ x = _
        unfold f_Ref_data
        rw [if_pos hr.rl.o, r_isTicket hr, ht, Option.bind_some, if_neg (bt_ne _), rf_30 hr.rl, Option.bind_some, rg_30 hr.rl, Option.bind_some, zix (by omega), Option.bind_some, show φ1.1 (r + 23) i = nI e.beats from hr.tk.hbea i e he, e_inC Γ φ1 x (by omega), hx, Option.bind_some, if_pos (bf_eq _)]
        exact bad φ1 r hr
    | true =>
      obtain ⟨j, hj, rfl⟩ := inC_t (by omega) hx
      have hd : φ.2.1 (tAd b S.nm S.ns + 4 * i + 2) j = e.dat j := by
        cases hwr : e.wr with
        | true =>
          have := hIT.be hwr
          exact (t8 hwr j (by omega)).1
        | false => exact t9 hwr j hj
      refine Face.get h hJ 0 (e.dat j) (by decide) ?_ (fun φ1 r hr => ⟨e.dat j, ?_, fun _ => rfl⟩)
      · rw [hB, hx, if_pos rfl, bT_l, o3.f6, Option.bind_some, o3.g6, Option.bind_some, zix (by omega), Option.bind_some, show φ.2.1 (tAd b S.nm S.ns + 4 * i + 1 + 1) j = _ from hd]
        rfl
      · show f_Ref_data Γ φ1 r _ _ = _
        unfold f_Ref_data f_Ref_data_L32 f_Ref_data_L57
        rw [if_pos hr.rl.o, r_isTicket hr, ht, Option.bind_some, if_neg (bt_ne _), rf_30 hr.rl, Option.bind_some, rg_30 hr.rl, Option.bind_some, zix (by omega), Option.bind_some, show φ1.1 (r + 23) i = nI e.beats from hr.tk.hbea i e he, e_inC Γ φ1 (nI j) (by omega), hx, Option.bind_some, if_neg (bt_ne _), if_pos hr.rl.o, if_pos hr.rl.o, if_pos (er_0 _ _), rf_32 hr.rl, Option.bind_some, rg_32 hr.rl, Option.bind_some]
        rw [show (16 : Int32) * nI i + nI j = nI (16 * i + j) from by rw [show (16 : Int32) = nI 16 from rfl, zI_mul, zI_add], zix (by omega), Option.bind_some, show φ1.2.1 (r + 25) (16 * i + j) = _ from hr.tk.hdat i e he j hj (by omega)]
        rfl
theorem q_ticket {Γ : gm_T} {φ : ph_T} {b : Nat} {S : XS} {k : Nat} (h : CV Γ φ b S) (hJ : JI k S) (t x : Int32) : Face Γ φ b S k (f_Bus_ticket Γ φ b t x) (fun φ1 r => f_Ref_ticket Γ φ1 r t x) IOB IAE IAE := by
  have hle := h.tk.le
  have hm : f_Bus_needNumber Γ φ x (0 : Int32) (6 : Int32) = _ := nNum Γ φ x (lo := 0) (hi := 6) (by decide) (by decide)
  cases ht : inC t S.tk.length with
  | false =>
    refine Face.get h hJ 1 0 (by decide) ?_ (fun φ1 r hr => ⟨0, ?_, fun e => by cases e⟩)
    · unfold f_Bus_ticket
      rw [if_pos h.lay.o, h.tc, nIdxC Γ φ t (by omega), ht]; rfl
    · show f_Ref_ticket Γ φ1 r t x = _
      unfold f_Ref_ticket f_Ref_ticket_L30
      rw [if_pos hr.rl.o, r_isTicket hr, ht, Option.bind_some, if_pos (bf_eq _), if_pos hr.rl.o, if_pos hr.rl.o, if_neg (er_1 _ _)]
      rfl
  | true =>
    obtain ⟨i, hi, rfl⟩ := inC_t (by omega) ht
    obtain ⟨e, he⟩ : ∃ e, S.tk[i]? = some e := ⟨S.tk[i], List.getElem?_eq_getElem hi⟩
    obtain ⟨o1, o2, o3⟩ := h.tk.o i (by omega)
    obtain ⟨t1, t2, t3, t4, t5, t6, t7, t8, t9⟩ := h.tk.e i e he
    cases hx : inN x 0 6 with
    | false =>
      refine Face.get h hJ 2 0 (by decide) ?_ (fun φ1 r hr => ⟨0, ?_, fun e => by cases e⟩)
      · unfold f_Bus_ticket
        rw [if_pos h.lay.o, h.tc, nIdxC Γ φ (nI i) (by omega), ht, if_pos rfl, bT_l, hm, hx]; rfl
      · show f_Ref_ticket Γ φ1 r _ x = _
        unfold f_Ref_ticket f_Ref_ticket_L30
        rw [if_pos hr.rl.o, r_isTicket hr, ht, Option.bind_some, if_neg (bt_ne _), show f_Ref_in Γ φ1 x.toInt64 (0 : Int64) (6 : Int64) = _ from e_inN Γ φ1 x 0 6, hx, Option.bind_some, if_pos (bf_eq _), if_pos hr.rl.o, if_pos hr.rl.o, if_neg (er_2 _ _)]
        rfl
    | true =>
      obtain ⟨j, _, hj, rfl, _⟩ := inN_t (by decide) (by decide) hx
      have hpg : ∀ p, S.pages p ≤ 4 := fun p => by have := hJ.1.bd.pages p; have := hJ.1.bd.ns; omega
      have hB : f_Bus_ticket Γ φ b (nI i) (nI j) = some (.inl (if j = 0 then (if e.done = -1 then (if e.sent = -1 then 0 else 1) else 2) else if j = 1 then nI e.resp else if j = 2 then e.asked else if j = 3 then e.sent else if j = 4 then e.done else if j = 5 then nI e.beats else nI (S.tgt e.con)), φ) := by
        unfold f_Bus_ticket f_Request_stage f_Request_stage_L23
        rw [if_pos h.lay.o, h.tc, nIdxC Γ φ (nI i) (by omega), ht, if_pos rfl, bT_l, hm, hx, if_pos rfl, bT_l, h.lay.f7, Option.bind_some, h.lay.g7, Option.bind_some, zix (by omega), Option.bind_some]
        simp only [h.lay.tk i (by omega), Option.bind_some, o1, if_true, o2, o3.o, t2, t3, t4, t5, t6, t7, h.lay.f1, h.sw.lay.o, c_targetOf h.sw]
        have hj3 : j = 0 ∨ j = 1 ∨ j = 2 ∨ j = 3 ∨ j = 4 ∨ j = 5 ∨ j = 6 := by omega
        rcases hj3 with rfl | rfl | rfl | rfl | rfl | rfl | rfl
        · rw [if_pos (by decide), if_pos rfl]
          by_cases hd : e.done = -1
          · rw [if_pos hd, if_pos hd]
            by_cases hs : e.sent = -1
            · rw [if_pos hs, if_pos hs]; rfl
            · rw [if_neg hs, if_neg hs]; rfl
          · rw [if_neg hd, if_neg hd]; rfl
        · rfl
        · rfl
        · rfl
        · rfl
        · rfl
        · rfl
      refine Face.get h hJ 0 _ (by decide) (hB.trans rfl) (fun φ1 r hr => ⟨_, ?_, fun _ => rfl⟩)
      obtain ⟨h1, _⟩ := r_errUp hr 0
      have hT := h1.tk
      show f_Ref_ticket Γ φ1 r _ _ = _
      unfold f_Ref_ticket f_Ref_ticket_L30 f_Ref_ticket_L109
      rw [if_pos hr.rl.o, r_isTicket hr, ht, Option.bind_some, if_neg (bt_ne _), show f_Ref_in Γ φ1 (nI j).toInt64 (0 : Int64) (6 : Int64) = _ from e_inN Γ φ1 (nI j) 0 6, hx, Option.bind_some, if_neg (bt_ne _), if_pos hr.rl.o, if_pos hr.rl.o, if_pos (er_0 _ _), zI_0]
      have hj3 : j = 0 ∨ j = 1 ∨ j = 2 ∨ j = 3 ∨ j = 4 ∨ j = 5 ∨ j = 6 := by omega
      rcases hj3 with rfl | rfl | rfl | rfl | rfl | rfl | rfl
      · rw [if_pos rfl, rf_29 hr.rl, Option.bind_some, rg_29 hr.rl, Option.bind_some, zix (by omega), Option.bind_some, hT.hdon i e he, rf_28 hr.rl, Option.bind_some, rg_28 hr.rl, Option.bind_some, zix (by omega), Option.bind_some, hT.hsen i e he, if_pos rfl]
        by_cases hd : e.done = -1
        · rw [if_pos hd, if_pos hd]
          by_cases hs : e.sent = -1
          · rw [if_pos hs, if_pos hs]
          · rw [if_neg hs, if_neg hs]
        · rw [if_neg hd, if_neg hd]
      · rw [if_neg (by decide), if_pos (by decide), rf_31 hr.rl, Option.bind_some, rg_31 hr.rl, Option.bind_some, zix (by omega), Option.bind_some, hT.hres i e he]; rfl
      · rw [if_neg (by decide), if_neg (by decide), if_pos (by decide), rf_27 hr.rl, Option.bind_some, rg_27 hr.rl, Option.bind_some, zix (by omega), Option.bind_some, hT.hask i e he]; rfl
      · rw [if_neg (by decide), if_neg (by decide), if_neg (by decide), if_pos (by decide), rf_28 hr.rl, Option.bind_some, rg_28 hr.rl, Option.bind_some, zix (by omega), Option.bind_some, hT.hsen i e he]; rfl
      · rw [if_neg (by decide), if_neg (by decide), if_neg (by decide), if_neg (by decide), if_pos (by decide), rf_29 hr.rl, Option.bind_some, rg_29 hr.rl, Option.bind_some, zix (by omega), Option.bind_some, hT.hdon i e he]; rfl
      · rw [if_neg (by decide), if_neg (by decide), if_neg (by decide), if_neg (by decide), if_neg (by decide), if_pos (by decide), rf_30 hr.rl, Option.bind_some, rg_30 hr.rl, Option.bind_some, zix (by omega), Option.bind_some, hT.hbea i e he]; rfl
      · rw [if_neg (by decide), if_neg (by decide), if_neg (by decide), if_neg (by decide), if_neg (by decide), if_neg (by decide), rf_24 hr.rl, Option.bind_some, rg_24 hr.rl, Option.bind_some, zix (by omega), Option.bind_some, hT.hadr i e he, r_targetOf h1 (adN_lt _) hpg]; rfl
