/-! THE CLASS: tick and drain -/
theorem opn_sum {l : List TK} : ∀ (nm : Nat), (∀ e ∈ l, e.m < nm) → ((List.range nm).map (nOpn l)).sum = l.countP isOpn := by
  have key : ∀ (nm : Nat) (l : List TK), (∀ e ∈ l, e.m < nm) → ((List.range nm).map (nOpn l)).sum = l.countP isOpn := by
    intro nm l
    induction l with
    | nil =>
      intro _
      have z : ∀ n, ((List.range n).map (nOpn [])).sum = 0 := by
        intro n
        induction n with
        | zero => rfl
        | succ n ih => rw [List.range_succ, List.map_append, List.sum_append, ih]; rfl
      exact z nm
    | cons e l ih =>
      intro h
      have hstep : ∀ m, nOpn (e :: l) m = nOpn l m + (if e.m = m ∧ e.done = m1 then 1 else 0) := by
        intro m
        unfold nOpn
        rw [List.countP_cons]
        congr 1
        by_cases h1 : e.m = m <;> by_cases h2 : e.done = m1 <;> simp [h1, h2]
      have hsum : ∀ n, ((List.range n).map (nOpn (e :: l))).sum = ((List.range n).map (nOpn l)).sum + (if e.m < n ∧ e.done = m1 then 1 else 0) := by
        intro n
        induction n with
        | zero => simp
        | succ n ihn =>
          rw [List.range_succ, List.map_append, List.sum_append, List.map_append, List.sum_append, ihn]
          simp only [List.map_cons, List.map_nil, List.sum_cons, List.sum_nil, hstep n]
          by_cases h2 : e.done = m1
          · by_cases h1 : e.m = n
            · simp [h1, h2]; omega
            · by_cases h3 : e.m < n
              · have h4 : e.m < n + 1 := by omega
                simp [h1, h2, h3, h4]; omega
              · have h4 : ¬ e.m < n + 1 := by omega
                simp [h1, h2, h3, h4]
          · simp [h2]
      rw [hsum nm, ih (fun x hx => h x (List.mem_cons_of_mem _ hx)), List.countP_cons]
      congr 1
      have hm := h e (List.mem_cons_self ..)
      unfold isOpn
      by_cases h2 : e.done = m1 <;> simp [h2, hm]
  exact fun nm => key nm l
theorem c_open_L {Γ : gm_T} {φ : ph_T} {b : Nat} {S : XS} (h : CV Γ φ b S) : ∀ (d m fu n : Nat), m + d = S.nm → d < fu →
    f_Bus_openRequests_L4 Γ fu φ b (nI n) (nI m) = some (nI (n + ((List.range' m d).map (nOpn S.tk)).sum), φ) := by
  have n4 := h.lay.nm4
  intro d
  induction d with
  | zero =>
    intro m fu n hd hfu
    match fu, hfu with
    | fu + 1, _ =>
      rw [f_Bus_openRequests_L4, if_pos h.lay.o, h.lay.f2, Option.bind_some, h.lay.g2, Option.bind_some, if_pos (by rw [zI_le (by omega) (by omega)]; omega)]
      rfl
  | succ d ih =>
    intro m fu n hd hfu
    match fu, hfu with
    | fu + 1, hfu =>
      have hm : m < S.nm := by omega
      rw [f_Bus_openRequests_L4, if_pos h.lay.o, h.lay.f2, Option.bind_some, h.lay.g2, Option.bind_some, if_neg (by rw [zI_le (by omega) (by omega)]; omega), Option.bind_some, zix (by omega), Option.bind_some, h.lay.ma m hm, Option.bind_some, if_pos (h.ma m hm).o, (h.ma m hm).op, zI_add, zI_1, zI_add, ih (m + 1) fu _ (by omega) (by omega), List.range'_succ, List.map_cons, List.sum_cons, Nat.add_assoc]
theorem c_open {Γ : gm_T} {φ : ph_T} {b : Nat} {S : XS} (h : CV Γ φ b S) (hm : ∀ e ∈ S.tk, e.m < S.nm) : f_Bus_openRequests Γ φ b = some (nI S.opn, φ) := by
  have n4 := h.lay.nm4
  unfold f_Bus_openRequests
  rw [zI_0, c_open_L h S.nm 0 jF 0 (by omega) (by unfold jF; omega), ← List.range_eq_range', opn_sum S.nm hm, Nat.zero_add]
  rfl
theorem nm_time (T : XS) (t : Nat) : (T.w_time t).nm = T.nm := rfl
theorem ns_time (T : XS) (t : Nat) : (T.w_time t).ns = T.ns := rfl
theorem tk1_nm (S : XS) : S.tk1.nm = S.nm := by
  unfold XS.tk1
  rw [nm_time]
  exact (move_4 S.sh.goA).2.1.trans (goA_4 S.sh).2.1
theorem tk1_ns (S : XS) : S.tk1.ns = S.ns := by
  unfold XS.tk1
  rw [ns_time]
  exact (move_4 S.sh.goA).2.2.1.trans (goA_4 S.sh).2.2.1
theorem c_run0 {Γ : gm_T} {b : Nat} {J : Nat → XS → Prop} {I : Nat → XS → Prop} {M : XS → Prop} (hI : ∀ k, StC (J (k + 1)) I M) (hK : ∀ k S, J (k + 1) S → J k S.tk1) (hL : ∀ k S, J (k + 1) S → J k S) {n bb : Nat} (hn : n ≤ 1000) : ∀ (d i fu k : Nat) (φ : ph_T) (S : XS), i + d = n → d < fu → CV Γ φ b S → J (bb + d) S →
    ∃ φ', f_Bus_runTicks_L5 Γ fu φ b (nI n) (nI 0) (nI k) (nI i) = some (nI (k + S.mvN d), φ') ∧ CV Γ φ' b (S.tkN d) ∧ Fr b (tAd b S.nm S.ns + 256) φ φ' := by
  intro d
  induction d with
  | zero =>
    intro i fu k φ S hd hfu h hJ
    match fu, hfu with
    | fu + 1, _ =>
      refine ⟨φ, ?_, h, Fr.refl _ _ _⟩
      rw [f_Bus_runTicks_L5, if_pos (by rw [zI_le (by omega) (by omega)]; omega)]
      rfl
  | succ d ih =>
    intro i fu k φ S hd hfu h hJ
    match fu, hfu with
    | fu + 1, hfu =>
      obtain ⟨φ1, a1, a2, a3⟩ := c_tk (hI _) h hJ (f_Bus_runTicks_L5 Γ fu) (nI n) (nI 0) (nI k) (nI i)
      obtain ⟨φ2, b1, b2, b3⟩ := ih (i + 1) fu (k + S.moves) φ1 S.tk1 (by omega) (by omega) a2 (hK _ S hJ)
      rw [tk1_nm, tk1_ns] at b3
      refine ⟨φ2, ?_, b2, a3.trans b3⟩
      rw [f_Bus_runTicks_L5, if_neg (by rw [zI_le (by omega) (by omega)]; omega), if_pos (by rfl), a1, zI_add, zI_1, zI_add, b1]
      simp only [XS.mvN, Nat.add_assoc]
theorem c_run1 {Γ : gm_T} {b : Nat} {J : Nat → XS → Prop} {I : Nat → XS → Prop} {M : XS → Prop} (hI : ∀ k, StC (J (k + 1)) I M) (hK : ∀ k S, J (k + 1) S → J k S.tk1) (hL : ∀ k S, J (k + 1) S → J k S) (hm : ∀ k S, J k S → ∀ e ∈ S.tk, e.m < S.nm) {n bb : Nat} (hn : n ≤ 1000) : ∀ (d i fu k : Nat) (φ : ph_T) (S : XS), i + d = n → d < fu → CV Γ φ b S → J (bb + d) S →
    ∃ φ' v, f_Bus_runTicks_L5 Γ fu φ b (nI n) (nI 1) (nI k) (nI i) = some (v, φ') ∧ CV Γ φ' b (S.drS d) ∧ J bb (S.drS d) ∧ Fr b (tAd b S.nm S.ns + 256) φ φ' := by
  intro d
  induction d with
  | zero =>
    intro i fu k φ S hd hfu h hJ
    match fu, hfu with
    | fu + 1, _ =>
      refine ⟨φ, nI k, ?_, h, hJ, Fr.refl _ _ _⟩
      rw [f_Bus_runTicks_L5, if_pos (by rw [zI_le (by omega) (by omega)]; omega)]
      rfl
  | succ d ih =>
    intro i fu k φ S hd hfu h hJ
    have ho := c_open h (hm _ S hJ)
    have hle : S.opn ≤ 64 := Nat.le_trans (List.countP_le_length) h.tk.le
    match fu, hfu with
    | fu + 1, hfu =>
      by_cases hz : S.opn = 0
      · have e1 : S.drS (d + 1) = S := by unfold XS.drS; rw [if_pos hz]
        rw [e1]
        have hlow : ∀ d, J (bb + d) S → J bb S := fun d => by
          induction d with
          | zero => exact id
          | succ d ih => exact fun h => ih (hL _ S h)
        refine ⟨φ, nI k, ?_, h, hlow _ hJ, Fr.refl _ _ _⟩
        rw [f_Bus_runTicks_L5, if_neg (by rw [zI_le (by omega) (by omega)]; omega), if_neg (by decide), if_pos h.lay.o, ho, Option.bind_some]
        dsimp only
        rw [hz, if_pos (by rfl)]
        rfl
      · have e1 : S.drS (d + 1) = S.tk1.drS d := by rw [XS.drS, if_neg hz]
        rw [e1]
        obtain ⟨φ1, a1, a2, a3⟩ := c_tk (hI _) h hJ (f_Bus_runTicks_L5 Γ fu) (nI n) (nI 1) (nI k) (nI i)
        obtain ⟨φ2, v, b1, b2, b3, b4⟩ := ih (i + 1) fu (k + S.moves) φ1 S.tk1 (by omega) (by omega) a2 (hK _ S hJ)
        rw [tk1_nm, tk1_ns] at b4
        refine ⟨φ2, v, ?_, b2, b3, a3.trans b4⟩
        rw [f_Bus_runTicks_L5, if_neg (by rw [zI_le (by omega) (by omega)]; omega), if_neg (by decide), if_pos h.lay.o, ho, Option.bind_some]
        dsimp only
        rw [if_neg (by rw [zI_0, zI_eq (by omega) (by omega)]; exact hz), a1, zI_add, zI_1, zI_add]
        exact b1
theorem drS_time : ∀ (n : Nat) (S : XS), (S.drS n).time = S.time + S.drK n := by
  intro n
  induction n with
  | zero => intro S; rfl
  | succ n ih =>
    intro S
    unfold XS.drS XS.drK
    split
    · rfl
    · rw [ih]
      show S.time + 1 + S.tk1.drK n = S.time + (S.tk1.drK n + 1)
      omega
theorem in_lt {x : Int32} {lo : Nat} (h : lo < 2 ^ 31) : (x < nI lo) ↔ x.toInt64 < nL lo := by
  rw [Int32.lt_iff_toInt_lt, Int64.lt_iff_toInt_lt, Int32.toInt_toInt64, zI_toInt h, show (nL lo).toInt = lo from Int64.toInt_ofNat_of_lt (by omega)]
theorem in_le {x : Int32} {hi : Nat} (h : hi < 2 ^ 31) : (x ≤ nI hi) ↔ ¬ nL hi < x.toInt64 := by
  rw [Int32.le_iff_toInt_le, Int64.lt_iff_toInt_lt, Int32.toInt_toInt64, zI_toInt h, show (nL hi).toInt = hi from Int64.toInt_ofNat_of_lt (by omega)]
  omega
def IAE : String := "java/lang/IllegalArgumentException"
def IOB : String := "java/lang/IndexOutOfBoundsException"
theorem e_needN (Γ : gm_T) (φ : ph_T) (x : Int32) {lo hi : Nat} (h1 : lo < 2 ^ 31) (h2 : hi < 2 ^ 31) : f_Bus_needNumber Γ φ x (nI lo) (nI hi) = some (if inL x.toInt64 (nL lo) (nL hi) = true then .inl () else .inr IAE, φ) := by
  unfold f_Bus_needNumber f_Bus_needNumber_L10 inL
  by_cases a : x < nI lo
  · rw [if_pos a]
    simp [(in_lt h1).mp a, IAE]
  · rw [if_neg a]
    have a' : ¬ x.toInt64 < nL lo := fun hh => a ((in_lt h1).mpr hh)
    by_cases c : x ≤ nI hi
    · rw [if_pos c]
      simp [a', (in_le h2).mp c]
    · rw [if_neg c]
      have c' : nL hi < x.toInt64 := Classical.byContradiction (fun hh => c ((in_le h2).mpr hh))
      simp [c', IAE]
theorem e_needI (Γ : gm_T) (φ : ph_T) (x : Int32) {n : Nat} (h0 : 0 < n) (h1 : n < 2 ^ 31) : f_Bus_needIndex Γ φ x (nI n) = some (if inL x.toInt64 (nL 0) (nL (n - 1)) = true then .inl () else .inr IOB, φ) := by
  unfold f_Bus_needIndex f_Bus_needIndex_L9 inL
  rw [zI_0]
  by_cases a : x < nI 0
  · rw [if_pos a]
    simp [(in_lt (show 0 < 2 ^ 31 by omega)).mp a, IOB]
  · rw [if_neg a]
    have a' : ¬ x.toInt64 < nL 0 := fun hh => a ((in_lt (by omega)).mpr hh)
    have hc : (x < nI n) ↔ (x ≤ nI (n - 1)) := by
      rw [Int32.lt_iff_toInt_lt, Int32.le_iff_toInt_le, zI_toInt h1, zI_toInt (by omega)]
      omega
    by_cases c : x < nI n
    · rw [if_pos c]
      simp [a', (in_le (show n - 1 < 2 ^ 31 by omega)).mp (hc.mp c)]
    · rw [if_neg c]
      have c' : nL (n - 1) < x.toInt64 := Classical.byContradiction (fun hh => c (hc.mpr ((in_le (by omega)).mpr hh)))
      simp [c', IOB]
theorem c_tick {Γ : gm_T} {φ : ph_T} {b : Nat} {S : XS} {J : Nat → XS → Prop} {I : Nat → XS → Prop} {M : XS → Prop} (hI : ∀ k, StC (J (k + 1)) I M) (hK : ∀ k S, J (k + 1) S → J k S.tk1) (hL : ∀ k S, J (k + 1) S → J k S) (h : CV Γ φ b S) {n bb : Nat} (hJ : J (bb + n) S) (h1 : 1 ≤ n) (hn : n ≤ 100) :
    ∃ φ', f_Bus_tick Γ φ b (nI n) = some (.inl (nI (S.mvN n)), φ') ∧ CV Γ φ' b (S.tkN n) ∧ Fr b (tAd b S.nm S.ns + 256) φ φ' := by
  obtain ⟨φ1, a1, a2, a3⟩ := c_run0 hI hK hL (n := n) (by omega) n 0 jF 0 φ S (by omega) (by unfold jF; omega) h hJ
  refine ⟨φ1, ?_, a2, a3⟩
  unfold f_Bus_tick
  have e : inL (nI n).toInt64 (nL 1) (nL 100) = true := (in_iff (lo := 1) (hi := 100) (by omega) (by omega)).mpr ⟨n, h1, hn, rfl⟩
  rw [show (1 : Int32) = nI 1 from rfl, show (100 : Int32) = nI 100 from rfl, e_needN Γ φ (nI n) (by omega) (by omega), if_pos e]
  unfold bT
  dsimp only
  have a1' : f_Bus_runTicks Γ φ b (nI n) (0 : Int32) = some (nI (0 + S.mvN n), φ1) := a1
  rw [if_pos h.lay.o, a1', Option.bind_some, Nat.zero_add]
theorem c_tickX {Γ : gm_T} {φ : ph_T} {b : Nat} {x : Int32} (hx : inL x.toInt64 (1 : Int64) (100 : Int64) = false) : f_Bus_tick Γ φ b x = some (.inr IAE, φ) := by
  unfold f_Bus_tick
  have e : inL x.toInt64 (nL 1) (nL 100) = false := hx
  rw [show (1 : Int32) = nI 1 from rfl, show (100 : Int32) = nI 100 from rfl, e_needN Γ φ x (by omega) (by omega), if_neg (by rw [e]; decide)]
  rfl
theorem c_drain {Γ : gm_T} {φ : ph_T} {b : Nat} {S : XS} {J : Nat → XS → Prop} {I : Nat → XS → Prop} {M : XS → Prop} (hI : ∀ k, StC (J (k + 1)) I M) (hK : ∀ k S, J (k + 1) S → J k S.tk1) (hL : ∀ k S, J (k + 1) S → J k S) (hm : ∀ k S, J k S → ∀ e ∈ S.tk, e.m < S.nm) (h : CV Γ φ b S) {n bb : Nat} (hJ : J (bb + n) S) (h1 : 1 ≤ n) (hn : n ≤ 1000) :
    ∃ φ', f_Bus_drain Γ φ b (nI n) = some (.inl (drA (S.drS n) (S.drK n)), φ') ∧ CV Γ φ' b (S.drS n) ∧ Fr b (tAd b S.nm S.ns + 256) φ φ' := by
  obtain ⟨φ1, v, a1, a2, a3, a4⟩ := c_run1 hI hK hL hm (n := n) (by omega) n 0 jF 0 φ S (by omega) (by unfold jF; omega) h hJ
  refine ⟨φ1, ?_, a2, a4⟩
  unfold f_Bus_drain f_Bus_drain_L37
  have e : inL (nI n).toInt64 (nL 1) (nL 1000) = true := (in_iff (lo := 1) (hi := 1000) (by omega) (by omega)).mpr ⟨n, h1, hn, rfl⟩
  rw [show (1 : Int32) = nI 1 from rfl, show (1000 : Int32) = nI 1000 from rfl, e_needN Γ φ (nI n) (by omega) (by omega), if_pos e]
  unfold bT
  dsimp only
  have a1' : f_Bus_runTicks Γ φ b (nI n) (nI 1) = some (v, φ1) := a1
  have ho := c_open a2 (hm _ _ a3)
  have hle : (S.drS n).opn ≤ 64 := Nat.le_trans (List.countP_le_length) a2.tk.le
  rw [if_pos h.lay.o, a1', Option.bind_some]
  dsimp only
  rw [ho, Option.bind_some]
  dsimp only
  unfold drA
  by_cases hz : (S.drS n).opn = 0
  · rw [if_pos (by rw [zI_0, zI_le (by omega) (by omega)]; omega), if_pos hz, a2.ti, h.ti, drS_time, zI_sub (by omega), show S.time + S.drK n - S.time = S.drK n by omega]
  · rw [if_neg (by rw [zI_0, zI_le (by omega) (by omega)]; omega), if_neg hz]
    rfl
theorem c_drainX {Γ : gm_T} {φ : ph_T} {b : Nat} {x : Int32} (hx : inL x.toInt64 (1 : Int64) (1000 : Int64) = false) : f_Bus_drain Γ φ b x = some (.inr IAE, φ) := by
  unfold f_Bus_drain
  have e : inL x.toInt64 (nL 1) (nL 1000) = false := hx
  rw [show (1 : Int32) = nI 1 from rfl, show (1000 : Int32) = nI 1000 from rfl, e_needN Γ φ x (by omega) (by omega), if_neg (by rw [e]; decide)]
  rfl
