/-! THE FACE: targets, and what is told -/
theorem cnt_1 {p : UE → Bool} (n : Nat) : ∀ l : List UE, l.countP (fun u => p u && decide (u.m < n)) + l.countP (fun u => p u && isM n u) = l.countP (fun u => p u && decide (u.m < n + 1)) := by
  intro l
  induction l with
  | nil => rfl
  | cons u l ihl =>
    simp only [List.countP_cons]
    unfold isM at *
    cases hp : p u with
    | false => simp only [Bool.false_and, Bool.false_eq_true, if_false]; omega
    | true =>
      by_cases h1 : u.m < n
      · have h2 : u.m < n + 1 := by omega
        have h3 : ¬ u.m = n := by omega
        simp only [h1, h2, h3, decide_true, decide_false, Bool.and_true, Bool.and_false, if_true, Bool.false_eq_true, if_false]
        omega
      · by_cases h3 : u.m = n
        · have h2 : u.m < n + 1 := by omega
          simp only [h1, h2, decide_eq_true h3, decide_true, decide_false, Bool.and_true, Bool.and_false, if_true, Bool.false_eq_true, if_false]
          omega
        · have h2 : ¬ u.m < n + 1 := by omega
          simp only [h1, h2, h3, decide_true, decide_false, Bool.and_true, Bool.and_false, if_true, Bool.false_eq_true, if_false]
          omega
theorem cnt_sum {p : UE → Bool} {l : List UE} : ∀ n, ((List.range n).map fun m => (l.filter (isM m)).countP p).sum = l.countP (fun u => p u && decide (u.m < n)) := by
  intro n
  induction n with
  | zero =>
    have : l.countP (fun u => p u && decide (u.m < 0)) = 0 := by
      rw [List.countP_eq_zero]
      intro u _ hh
      simp at hh
    rw [this]; rfl
  | succ n ih =>
    rw [List.range_succ, List.map_append, List.sum_append, ih]
    show _ + ((l.filter (isM n)).countP p + 0) = _
    rw [List.countP_filter, Nat.add_zero]
    exact cnt_1 n l
theorem cnt_all {p : UE → Bool} {l : List UE} {n : Nat} (h : ∀ u ∈ l, u.m < n) : ((List.range n).map fun m => (l.filter (isM m)).countP p).sum = l.countP p := by
  rw [cnt_sum]
  apply List.countP_congr
  intro u hu
  rw [decide_eq_true (h u hu), Bool.and_true]
def isTg (t : Nat) (e : UE) : Bool := decide (e.tg = t)
theorem c_uwTo_L {Γ : gm_T} {φ : ph_T} {w t c : Nat} {S : XS} (h : CSw Γ φ w S) (ht : t < 8) (hc : c = 0 ∨ c = 3) : ∀ (d m fu n : Nat), m + d = S.nm → d < fu →
    f_Switch_underWayTo_L5 Γ fu φ w (nI t) (nI c) (nI n) (nI m) = some (nI (n + ((List.range' m d).map fun m => ((if c = 0 then S.uw else S.ur).filter (isM m)).countP (isTg t)).sum), φ) := by
  have n4 := h.lay.nm4
  intro d
  induction d with
  | zero =>
    intro m fu n hd hfu
    match fu, hfu with
    | fu + 1, _ =>
      unfold f_Switch_underWayTo_L5
      rw [if_pos h.lay.o, h.ob.nm, if_pos (by rw [zI_le (by omega) (by omega)]; omega)]
      rfl
  | succ d ih =>
    intro m fu n hd hfu
    match fu, hfu with
    | fu + 1, hfu =>
      have hu : ∃ a, f_Switch_underWay Γ φ w (nI m) (nI c) = some (some a, φ) ∧ CUw Γ φ a ((if c = 0 then S.uw else S.ur).filter (isM m)) := by
        refine ⟨_, c_underWay h (by omega) hc, ?_⟩
        rcases hc with rfl | rfl
        · exact h.uw m (by omega)
        · exact h.ur m (by omega)
      obtain ⟨a, a1, a2⟩ := hu
      rw [f_Switch_underWayTo_L5, if_pos h.lay.o, h.ob.nm, if_neg (by rw [zI_le (by omega) (by omega)]; omega), a1, Option.bind_some, Option.bind_some, if_pos a2.o, c_countTo a2 ht, Option.bind_some]
      rw [show nI m + (1 : Int32) = nI (m + 1) from by rw [zI_1, zI_add], zI_add, ih (m + 1) fu _ (by omega) (by omega), List.range'_succ, List.map_cons, List.sum_cons, Nat.add_assoc]
      rfl
theorem c_uwTo {Γ : gm_T} {φ : ph_T} {w t c : Nat} {S : XS} (h : CSw Γ φ w S) (ht : t < 8) (hc : c = 0 ∨ c = 3) (hm : ∀ u ∈ (if c = 0 then S.uw else S.ur), u.m < S.nm) : f_Switch_underWayTo Γ φ w (nI t) (nI c) = some (nI ((if c = 0 then S.uw else S.ur).countP (isTg t)), φ) := by
  have n4 := h.lay.nm4
  unfold f_Switch_underWayTo
  rw [zI_0, c_uwTo_L h ht hc S.nm 0 jF 0 (by omega) (by unfold jF; omega), Nat.zero_add, ← List.range_eq_range', cnt_all hm]
theorem r_tg53 {Γ : gm_T} {φ : ph_T} {r : Nat} {S : XS} (h : RV Γ φ r S) (hU : ∀ u ∈ S.uw, u.tg < 8) {t : Nat} (ht : t < 8) : ∀ (d i fu n : Nat), i + d = S.uw.length → d < fu →
    f_Ref_target_L53 Γ fu φ r (nI t) (nI 0) (nI n) (nI i) = f_Ref_target_L91 Γ φ r (nI t) (nI 0) (nI (n + (S.uw.drop i).countP (isTg t))) := by
  have hle := h.uw.hle
  intro d
  induction d with
  | zero =>
    intro i fu n hd hfu
    match fu, hfu with
    | fu + 1, _ =>
      rw [f_Ref_target_L53, if_pos h.rl.o, h.sc.wm, if_pos (by rw [zI_le (by omega) (by omega)]; omega), List.drop_of_length_le (by omega)]
      rfl
  | succ d ih =>
    intro i fu n hd hfu
    match fu, hfu with
    | fu + 1, hfu =>
      obtain ⟨e, he⟩ : ∃ e, S.uw[i]? = some e := ⟨S.uw[i]'(by omega), List.getElem?_eq_getElem _⟩
      have hx := h.uw.hent i e he
      have hdr : S.uw.drop i = e :: S.uw.drop (i + 1) := by
        rw [List.drop_eq_getElem_cons (by omega : i < S.uw.length)]
        congr 1
        rw [List.getElem?_eq_getElem (by omega)] at he
        exact Option.some.inj he
      have htg := hU e (lmem he)
      rw [f_Ref_target_L53, if_pos h.rl.o, h.sc.wm, if_neg (by rw [zI_le (by omega) (by omega)]; omega), if_pos (by rfl), rf_45 h.rl, Option.bind_some, rg_45 h.rl, Option.bind_some, zix (by omega), Option.bind_some, hx.2.2.1, hdr, List.countP_cons]
      unfold f_Ref_target_L83
      rw [show nI i + (1 : Int32) = nI (i + 1) from by rw [zI_1, zI_add]]
      by_cases hq : e.tg = t
      · rw [if_pos (by rw [hq]), zI_1, zI_add, ih (i + 1) fu _ (by omega) (by omega), show isTg t e = true from decide_eq_true hq, if_pos rfl, show n + 1 + (S.uw.drop (i + 1)).countP (isTg t) = n + ((S.uw.drop (i + 1)).countP (isTg t) + 1) by omega]
      · rw [if_neg (by rw [zI_eq (by omega) (by omega)]; exact hq), zI_0, zI_add, ih (i + 1) fu _ (by omega) (by omega), show isTg t e = false from decide_eq_false hq, if_neg (by decide)]
        rfl
theorem r_tg94 {Γ : gm_T} {φ : ph_T} {r : Nat} {S : XS} (h : RV Γ φ r S) (hU : ∀ u ∈ S.ur, u.tg < 8) {t : Nat} (ht : t < 8) : ∀ (d i fu n : Nat), i + d = S.ur.length → d < fu →
    f_Ref_target_L94 Γ fu φ r (nI t) (nI 1) (nI n) (nI i) = f_Ref_target_L133 Γ φ r (nI t) (nI 1) (nI (n + (S.ur.drop i).countP (isTg t))) := by
  have hle := h.ur.hle
  intro d
  induction d with
  | zero =>
    intro i fu n hd hfu
    match fu, hfu with
    | fu + 1, _ =>
      rw [f_Ref_target_L94, if_pos h.rl.o, h.sc.rm, if_pos (by rw [zI_le (by omega) (by omega)]; omega), List.drop_of_length_le (by omega)]
      rfl
  | succ d ih =>
    intro i fu n hd hfu
    match fu, hfu with
    | fu + 1, hfu =>
      obtain ⟨e, he⟩ : ∃ e, S.ur[i]? = some e := ⟨S.ur[i]'(by omega), List.getElem?_eq_getElem _⟩
      have hx := h.ur.hent i e he
      have hdr : S.ur.drop i = e :: S.ur.drop (i + 1) := by
        rw [List.drop_eq_getElem_cons (by omega : i < S.ur.length)]
        congr 1
        rw [List.getElem?_eq_getElem (by omega)] at he
        exact Option.some.inj he
      have htg := hU e (lmem he)
      rw [f_Ref_target_L94, if_pos h.rl.o, h.sc.rm, if_neg (by rw [zI_le (by omega) (by omega)]; omega), if_pos (by rfl), rf_50 h.rl, Option.bind_some, rg_50 h.rl, Option.bind_some, zix (by omega), Option.bind_some, hx.2.2, hdr, List.countP_cons]
      unfold f_Ref_target_L125
      rw [show nI i + (1 : Int32) = nI (i + 1) from by rw [zI_1, zI_add]]
      by_cases hq : e.tg = t
      · rw [if_pos (by rw [hq])]
        rw [show nI n + (1 : Int32) = nI (n + 1) from by rw [zI_1, zI_add], ih (i + 1) fu _ (by omega) (by omega), show isTg t e = true from decide_eq_true hq, if_pos rfl, show n + 1 + (S.ur.drop (i + 1)).countP (isTg t) = n + ((S.ur.drop (i + 1)).countP (isTg t) + 1) by omega]
      · rw [if_neg (by rw [zI_eq (by omega) (by omega)]; exact hq), zI_0, zI_add, ih (i + 1) fu _ (by omega) (by omega), show isTg t e = false from decide_eq_false hq, if_neg (by decide)]
        rfl
theorem q_target {Γ : gm_T} {φ : ph_T} {b : Nat} {S : XS} {k : Nat} (h : CV Γ φ b S) (hJ : JI k S) (t x : Int32) : Face Γ φ b S k (f_Bus_target Γ φ b t x) (fun φ1 r => f_Ref_target Γ φ1 r t x) IOB IAE IAE := by
  have n4 := h.lay.nm4
  have s4 := h.lay.ns4
  have hn : f_Bus_needIndex Γ φ t (nI (S.ns + 1)) = some (if inN t 0 S.ns = true then .inl () else .inr IOB, φ) := nIdx Γ φ t (n := S.ns + 1) (by omega) (by omega)
  have hm : f_Bus_needNumber Γ φ x (0 : Int32) (3 : Int32) = _ := nNum Γ φ x (lo := 0) (hi := 3) (by decide) (by decide)
  have hri : ∀ φ1 r, RV Γ φ1 r S → f_Ref_in Γ φ1 t.toInt64 (0 : Int64) (φ1.1 r 2).toInt64 = some (bI (inN t 0 S.ns), φ1) := by
    intro φ1 r hr
    rw [hr.sc.ns, show (nI S.ns).toInt64 = nL S.ns from by
      apply Int64.toInt_inj.mp
      rw [Int32.toInt_toInt64, zI_toInt (by omega)]
      exact (Int64.toInt_ofNat_of_lt (by omega)).symm]
    exact e_inN Γ φ1 t 0 S.ns
  cases ht : inN t 0 S.ns with
  | false =>
    refine Face.get h hJ 1 0 (by decide) ?_ (fun φ1 r hr => ⟨0, ?_, fun e => by cases e⟩)
    · unfold f_Bus_target
      rw [if_pos h.lay.o, h.lay.f3, Option.bind_some, h.lay.g3, Option.bind_some, show nI S.ns + (1 : Int32) = nI (S.ns + 1) from by rw [zI_1, zI_add], hn, ht]; rfl
    · show f_Ref_target Γ φ1 r t x = _
      unfold f_Ref_target f_Ref_target_L36
      rw [if_pos hr.rl.o, hri φ1 r hr, ht, Option.bind_some, if_pos (bf_eq _), if_pos hr.rl.o, if_pos hr.rl.o, if_neg (er_1 _ _)]
      rfl
  | true =>
    obtain ⟨i, _, hi, rfl, _⟩ := inN_t (by omega) (by omega) ht
    cases hx : inN x 0 3 with
    | false =>
      refine Face.get h hJ 2 0 (by decide) ?_ (fun φ1 r hr => ⟨0, ?_, fun e => by cases e⟩)
      · unfold f_Bus_target
        rw [if_pos h.lay.o, h.lay.f3, Option.bind_some, h.lay.g3, Option.bind_some, show nI S.ns + (1 : Int32) = nI (S.ns + 1) from by rw [zI_1, zI_add], hn, ht, if_pos rfl, bT_l, hm, hx]; rfl
      · show f_Ref_target Γ φ1 r _ x = _
        unfold f_Ref_target f_Ref_target_L36
        rw [if_pos hr.rl.o, hri φ1 r hr, ht, Option.bind_some, if_neg (bt_ne _), show f_Ref_in Γ φ1 x.toInt64 (0 : Int64) (3 : Int64) = _ from e_inN Γ φ1 x 0 3, hx, Option.bind_some, if_pos (bf_eq _), if_pos hr.rl.o, if_pos hr.rl.o, if_neg (er_2 _ _)]
        rfl
    | true =>
      obtain ⟨j, _, hj, rfl, _⟩ := inN_t (by decide) (by decide) hx
      have hB : f_Bus_target Γ φ b (nI i) (nI j) = some (.inl (if j = 0 then nI (S.uw.countP (isTg i)) else if j = 1 then nI (S.ur.countP (isTg i)) else if i = S.ns then nI 0 else if j = 2 then nI (S.sw i).length else nI (S.sr i).length), φ) := by
        unfold f_Bus_target f_Bus_target_L89
        rw [if_pos h.lay.o, h.lay.f3, Option.bind_some, h.lay.g3, Option.bind_some, show nI S.ns + (1 : Int32) = nI (S.ns + 1) from by rw [zI_1, zI_add], hn, ht, if_pos rfl, bT_l, hm, hx, if_pos rfl, bT_l]
        have hj3 : j = 0 ∨ j = 1 ∨ (j = 2 ∨ j = 3) := by omega
        rcases hj3 with rfl | rfl | hj3
        · have := c_uwTo h.sw (t := i) (c := 0) (by omega) (Or.inl rfl) (fun u hu => (hJ.1.uw.m u hu).1)
          rw [if_pos (by decide), h.lay.f1, Option.bind_some, if_pos h.sw.lay.o, show f_Switch_underWayTo Γ φ (b + 4) (nI i) (0 : Int32) = _ from this]
          rfl
        · have := c_uwTo h.sw (t := i) (c := 3) (by omega) (Or.inr rfl) (fun u hu => (hJ.1.ur.m u hu).1)
          rw [if_neg (by decide), if_pos (by decide), h.lay.f1, Option.bind_some, if_pos h.sw.lay.o, show f_Switch_underWayTo Γ φ (b + 4) (nI i) (3 : Int32) = _ from this]
          rfl
        · rw [if_neg (by rw [zI_0, zI_eq (by omega) (by omega)]; omega), if_neg (by rw [zI_1, zI_eq (by omega) (by omega)]; omega), h.lay.f3, Option.bind_some, h.lay.g3, Option.bind_some, if_neg (show ¬ j = 0 by omega), if_neg (show ¬ j = 1 by omega)]
          by_cases his : i = S.ns
          · rw [if_pos (by rw [his]), if_pos his]; rfl
          · rw [if_neg (by rw [zI_eq (by omega) (by omega)]; exact his), if_neg his]
            have hs := h.sl i (by omega)
            obtain ⟨l1, hw1⟩ := hs.sw
            obtain ⟨l2, hw2⟩ := hs.sr
            simp only [Option.bind_some]
            rw [zix (by omega)]
            simp only [Option.bind_some, h.lay.sl i (by omega), hs.o, if_true, hs.f2, hs.f3, hw1.c.o, hw2.c.o, hw1.c.n, hw2.c.n]
            rcases hj3 with rfl | rfl
            · rfl
            · rfl
      refine Face.get h hJ 0 _ (by decide) (hB.trans rfl) (fun φ1 r hr => ⟨_, ?_, fun _ => rfl⟩)
      obtain ⟨h1, _⟩ := r_errUp hr 0
      have hle : S.uw.length ≤ 32 := h1.uw.hle
      have hle2 : S.ur.length ≤ 32 := h1.ur.hle
      have hUw : ∀ u ∈ S.uw, u.tg < 8 := fun u hu => by have := (hJ.1.uw.m u hu).2.2; omega
      have hUr : ∀ u ∈ S.ur, u.tg < 8 := fun u hu => by have := (hJ.1.ur.m u hu).2.2; omega
      show f_Ref_target Γ φ1 r _ _ = _
      unfold f_Ref_target f_Ref_target_L36
      rw [if_pos hr.rl.o, hri φ1 r hr, ht, Option.bind_some, if_neg (bt_ne _), show f_Ref_in Γ φ1 (nI j).toInt64 (0 : Int64) (3 : Int64) = _ from e_inN Γ φ1 (nI j) 0 3, hx, Option.bind_some, if_neg (bt_ne _), if_pos hr.rl.o, if_pos hr.rl.o, if_pos (er_0 _ _), zI_0]
      generalize hφ : uI φ1 r 0 (nI 0) = φ2 at h1
      have skip53 : ∀ n, ¬ j = 0 → f_Ref_target_L53 Γ jF φ2 r (nI i) (nI j) (nI n) (nI 0) = f_Ref_target_L91 Γ φ2 r (nI i) (nI j) (nI n) := by
        intro n hne
        show f_Ref_target_L53 Γ (99999 + 1) φ2 r (nI i) (nI j) (nI n) (nI 0) = _
        rw [f_Ref_target_L53, if_pos h1.rl.o]
        split
        · rfl
        · rw [if_neg (by rw [zI_0, zI_eq (by omega) (by omega)]; exact hne)]
      have skip94 : ∀ n, ¬ j = 1 → f_Ref_target_L94 Γ jF φ2 r (nI i) (nI j) (nI n) (nI 0) = f_Ref_target_L133 Γ φ2 r (nI i) (nI j) (nI n) := by
        intro n hne
        show f_Ref_target_L94 Γ (99999 + 1) φ2 r (nI i) (nI j) (nI n) (nI 0) = _
        rw [f_Ref_target_L94, if_pos h1.rl.o]
        split
        · rfl
        · rw [if_neg (by rw [zI_1, zI_eq (by omega) (by omega)]; exact hne)]
      have hj3 : j = 0 ∨ j = 1 ∨ (j = 2 ∨ j = 3) := by omega
      rcases hj3 with rfl | rfl | hj3
      · have := r_tg53 h1 hUw (t := i) (by omega) S.uw.length 0 jF 0 (Nat.zero_add _) (by unfold jF; omega)
        rw [this]
        unfold f_Ref_target_L91
        rw [zI_0, skip94 _ (by decide)]
        unfold f_Ref_target_L133 f_Ref_target_L174
        rw [if_neg (by decide), if_pos rfl, Nat.zero_add]
        rfl
      · rw [skip53 0 (by decide)]
        unfold f_Ref_target_L91
        have := r_tg94 h1 hUr (t := i) (by omega) S.ur.length 0 jF 0 (Nat.zero_add _) (by unfold jF; omega)
        rw [zI_0, this]
        unfold f_Ref_target_L133 f_Ref_target_L174
        rw [if_neg (by decide), if_neg (by decide), if_pos rfl, Nat.zero_add]
        rfl
      · rw [skip53 0 (by omega)]
        unfold f_Ref_target_L91
        rw [zI_0, skip94 0 (by omega)]
        unfold f_Ref_target_L133 f_Ref_target_L174
        rw [if_pos (by rw [show (2 : Int32) = nI 2 from rfl, zI_le (by omega) (by omega)]; omega), if_pos h1.rl.o, h1.sc.ns, if_neg (show ¬ j = 0 by omega), if_neg (show ¬ j = 1 by omega)]
        by_cases his : i = S.ns
        · rw [if_pos (by rw [his]; rfl), if_pos his]; rfl
        · rw [if_neg (by show ¬ nI i = nI S.ns; rw [zI_eq (by omega) (by omega)]; exact his), if_neg his]
          rcases hj3 with rfl | rfl
          · rw [if_pos (by decide), rf_58 h1.rl, Option.bind_some, rg_58 h1.rl, Option.bind_some, zix (by omega), Option.bind_some, h1.sw.hmany i (by omega)]; rfl
          · rw [if_neg (by decide), rf_67 h1.rl, Option.bind_some, rg_67 h1.rl, Option.bind_some, zix (by omega), Option.bind_some, h1.sr.hmany i (by omega)]; rfl
theorem q_told {Γ : gm_T} {φ : ph_T} {b : Nat} {S : XS} {k : Nat} (h : CV Γ φ b S) (hJ : JI k S) (p : Int32) : ∃ an, f_Bus_told Γ φ b p = some (an, φ) ∧ ∀ φ1 r, RV Γ φ1 r S → f_Ref_told Γ φ1 r p = some (an, uI φ1 r 0 (nI 0)) := by
  refine ⟨if p = 0 then nI S.time else if p = 1 then nI S.tk.length else if p = 2 then nI S.opn else if p = 3 then nI S.nm else if p = 4 then nI S.ns else if p = 5 then nI S.lim else if p = 6 then nI S.pol else -1, ?_, ?_⟩
  · unfold f_Bus_told
    simp only [h.lay.o, if_true, h.ti, h.tc, c_open h hJ.tkm, h.lay.f1, h.lay.f2, h.lay.f3, h.lay.g2, h.lay.g3, Option.bind_some, h.sw.lay.o, h.sw.ob.lim, h.sw.ob.pol]
    repeat' split
    all_goals rfl
  · intro φ1 r hr
    obtain ⟨h1, _⟩ := r_errUp hr 0
    unfold f_Ref_told
    rw [if_pos hr.rl.o, zI_0]
    generalize uI φ1 r 0 (nI 0) = φ2 at h1
    rw [h1.sc.time, h1.sc.tk, r_open h1, h1.sc.nm, h1.sc.ns, h1.sc.lim, h1.sc.pol]
    repeat' split
    all_goals first | rfl | (exfalso; simp_all)
