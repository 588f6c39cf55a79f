/-! THE FACE: ports -/
def okS (S : XS) (sd k : Int32) : Option Nat := if sd = 0 then (if inN k 0 (S.nm - 1) = true then some (toN k) else none) else if sd = 1 then (if inN k 0 (S.ns - 1) = true then some (4 + toN k) else none) else none
theorem okS_some {S : XS} {sd k : Int32} {p : Nat} (n4 : 1 ≤ S.nm ∧ S.nm ≤ 4) (s4 : 1 ≤ S.ns ∧ S.ns ≤ 4) (h : okS S sd k = some p) : okP S.nm S.ns p ∧ p < 8 ∧ ∃ a c, sd = nI a ∧ k = nI c ∧ p = 4 * a + c ∧ a < 2 ∧ c < 4 := by
  unfold okS at h
  split at h
  · rename_i e
    split at h
    · rename_i hk
      obtain ⟨n, _, h2, h3, h4⟩ := inN_t (by omega) (by omega) hk
      cases h
      rw [h4]
      exact ⟨Or.inl (by omega), by omega, 0, n, e, h3, by omega, by omega, by omega⟩
    · cases h
  · split at h
    · rename_i e
      split at h
      · rename_i hk
        obtain ⟨n, _, h2, h3, h4⟩ := inN_t (by omega) (by omega) hk
        cases h
        rw [h4]
        exact ⟨Or.inr (Or.inl (by omega)), by omega, 1, n, e, h3, by omega, by omega, by omega⟩
      · cases h
    · cases h
theorem in01 {x : Int32} (h0 : ¬ x = 0) (h1 : ¬ x = 1) : inN x 0 1 = false := by
  cases h : inN x 0 1 with
  | false => rfl
  | true =>
    obtain ⟨n, _, h2, h3, h4⟩ := inN_t (by decide) (by decide) h
    have : n = 0 ∨ n = 1 := by omega
    rcases this with rfl | rfl
    · exact absurd h3 h0
    · exact absurd h3 h1
theorem c_portAt {Γ : gm_T} {φ : ph_T} {b : Nat} {S : XS} (h : CV Γ φ b S) (sd k : Int32) : f_Bus_portAt Γ φ b sd k = some (match okS S sd k with
    | some p => .inl (some (pAd b S.nm S.ns p))
    | none => .inr IOB, φ) := by
  have n4 := h.lay.nm4
  have s4 := h.lay.ns4
  have hn : f_Bus_needIndex Γ φ sd (2 : Int32) = _ := nIdx Γ φ sd (n := 2) (by decide) (by decide)
  unfold f_Bus_portAt f_Bus_portAt_L20 okS
  rw [hn]
  by_cases h0 : sd = 0
  · subst h0
    rw [show inN 0 0 (2 - 1) = true from by decide, if_pos rfl, bT_l, if_pos rfl, if_pos h.lay.o, h.lay.f4, Option.bind_some, h.lay.g4, Option.bind_some, nIdx Γ φ k (n := S.nm) (by omega) (by omega), if_pos rfl]
    cases hk : inN k 0 (S.nm - 1) with
    | false => rfl
    | true =>
      obtain ⟨n, _, h2, h3, h4⟩ := inN_t (by omega) (by omega) hk
      rw [if_pos rfl, bT_l, Option.bind_some, h3, zix (by omega), Option.bind_some, h.lay.mp n (by omega), if_pos rfl, toN_nI (by omega)]
  · by_cases h1 : sd = 1
    · subst h1
      rw [show inN 1 0 (2 - 1) = true from by decide, if_pos rfl, bT_l, if_neg (show ¬ (1 : Int32) = 0 by decide), if_pos h.lay.o, h.lay.f5, Option.bind_some, h.lay.g5, Option.bind_some, nIdx Γ φ k (n := S.ns) (by omega) (by omega), if_neg (show ¬ (1 : Int32) = 0 by decide), if_pos rfl]
      cases hk : inN k 0 (S.ns - 1) with
      | false => rfl
      | true =>
        obtain ⟨n, _, h2, h3, h4⟩ := inN_t (by omega) (by omega) hk
        rw [if_pos rfl, bT_l, Option.bind_some, h3, zix (by omega), Option.bind_some, h.lay.sp n (by omega), if_pos rfl, toN_nI (by omega)]
    · rw [show inN sd 0 (2 - 1) = false from in01 h0 h1, if_neg h0, if_neg h1]
      rfl
theorem r_isSide {Γ : gm_T} {φ : ph_T} {r : Nat} {S : XS} (hr : RV Γ φ r S) (n4 : 1 ≤ S.nm ∧ S.nm ≤ 4) (s4 : 1 ≤ S.ns ∧ S.ns ≤ 4) (sd k : Int32) : f_Ref_isSide Γ φ r sd k = some (bI (okS S sd k).isSome, φ) := by
  unfold f_Ref_isSide f_Ref_isSide_L45 f_Ref_isSide_L46 okS
  by_cases h0 : sd = 0
  · rw [if_pos h0, if_pos hr.rl.o, if_pos h0, hr.sc.nm, nI_64m1 (by omega) (by omega), show f_Ref_in Γ φ k.toInt64 (0 : Int64) (nL (S.nm - 1)) = _ from e_inN Γ φ k 0 (S.nm - 1), Option.bind_some, if_pos (bI_or _)]
    cases inN k 0 (S.nm - 1) <;> rfl
  · rw [if_neg h0, if_neg h0]
    by_cases h1 : sd = 1
    · rw [if_pos h1, if_pos hr.rl.o, if_pos h1, hr.sc.ns, nI_64m1 (by omega) (by omega), show f_Ref_in Γ φ k.toInt64 (0 : Int64) (nL (S.ns - 1)) = _ from e_inN Γ φ k 0 (S.ns - 1), Option.bind_some]
      cases inN k 0 (S.ns - 1) <;> rfl
    · rw [if_neg h1, if_neg h1]; rfl
theorem isS_n : (none : Option Nat).isSome = false := rfl
theorem isS_s (p : Nat) : (some p).isSome = true := rfl
theorem e_wireOf (Γ : gm_T) (φ : ph_T) (a c i : Nat) : f_Ref_wireOf Γ φ (nI a) (nI c) (nI i) = some (nI (5 * (4 * a + c) + i), φ) := by
  unfold f_Ref_wireOf
  rw [show (5 : Int32) = nI 5 from rfl, show (4 : Int32) = nI 4 from rfl, zI_mul, zI_add, zI_mul, zI_add]
theorem q_content {Γ : gm_T} {φ : ph_T} {b : Nat} {S : XS} {k : Nat} (h : CV Γ φ b S) (hJ : JI k S) (sd kk c : Int32) : Face Γ φ b S k (f_Bus_content Γ φ b sd kk c) (fun φ1 r => f_Ref_content Γ φ1 r sd kk c) IOB IOB IOB := by
  have n4 := h.lay.nm4
  have s4 := h.lay.ns4
  have hn : f_Bus_needIndex Γ φ c (5 : Int32) = _ := nIdx Γ φ c (n := 5) (by decide) (by decide)
  have bad : ∀ φ1 r, RV Γ φ1 r S → f_Ref_content_L26 Γ φ1 r sd kk c r = some (0, uI φ1 r 0 (nI 1)) := by
    intro φ1 r hr
    unfold f_Ref_content_L26 f_Ref_content_L27 f_Ref_content_L52
    rw [if_pos hr.rl.o, if_pos hr.rl.o, if_neg (er_1 _ _)]
    rfl
  cases hS : okS S sd kk with
  | none =>
    refine Face.get h hJ 1 0 (by decide) ?_ (fun φ1 r hr => ⟨0, ?_, fun e => by cases e⟩)
    · unfold f_Bus_content
      rw [if_pos h.lay.o, c_portAt h, hS]; rfl
    · show f_Ref_content Γ φ1 r sd kk c = _
      unfold f_Ref_content
      rw [if_pos hr.rl.o, r_isSide hr n4 s4, hS, isS_n, Option.bind_some, if_pos (bf_eq _)]
      exact bad φ1 r hr
  | some p =>
    obtain ⟨hp, hp8, a, d, rfl, rfl, hpe, ha, hd⟩ := okS_some n4 s4 hS
    cases hc : inN c 0 4 with
    | false =>
      refine Face.get h hJ 1 0 (by decide) ?_ (fun φ1 r hr => ⟨0, ?_, fun e => by cases e⟩)
      · unfold f_Bus_content
        rw [if_pos h.lay.o, c_portAt h, hS, bT_l, hn, hc]; rfl
      · show f_Ref_content Γ φ1 r _ _ c = _
        unfold f_Ref_content
        rw [if_pos hr.rl.o, r_isSide hr n4 s4, hS, isS_s, Option.bind_some, if_neg (bt_ne _), show f_Ref_in Γ φ1 c.toInt64 (0 : Int64) (4 : Int64) = _ from e_inN Γ φ1 c 0 4, hc, Option.bind_some, if_pos (bf_eq _)]
        exact bad φ1 r hr
    | true =>
      obtain ⟨i, _, hi, rfl, _⟩ := inN_t (by decide) (by decide) hc
      refine Face.get h hJ 0 ((S.wi p).w i).c (by decide) ?_ (fun φ1 r hr => ⟨((S.wi p).w i).c, ?_, fun _ => rfl⟩)
      · obtain ⟨hdd, hP⟩ := h.po p hp
        unfold f_Bus_content
        rw [if_pos h.lay.o, c_portAt h, hS, bT_l, hn, hc, if_pos rfl, bT_l, Option.bind_some, if_pos hP.o, hP.f3, Option.bind_some, hP.g3, Option.bind_some, zix (by omega), Option.bind_some, (hP.w i (by omega)).2.2.1]
        rfl
      · obtain ⟨h1, _⟩ := r_errUp hr 0
        show f_Ref_content Γ φ1 r _ _ _ = _
        unfold f_Ref_content f_Ref_content_L27 f_Ref_content_L52
        rw [if_pos hr.rl.o, r_isSide hr n4 s4, hS, isS_s, Option.bind_some, if_neg (bt_ne _), show f_Ref_in Γ φ1 (nI i).toInt64 (0 : Int64) (4 : Int64) = _ from e_inN Γ φ1 (nI i) 0 4, hc, Option.bind_some, if_neg (bt_ne _), if_pos hr.rl.o, if_pos hr.rl.o, if_pos (er_0 _ _), e_wireOf, Option.bind_some, rf_35 hr.rl, Option.bind_some, rg_35 hr.rl, Option.bind_some, zix (by omega), Option.bind_some, ← hpe]
        rw [zI_0, (h1.wi p i hp8 (by omega)).2.2.1]
        rfl
theorem q_wire {Γ : gm_T} {φ : ph_T} {b : Nat} {S : XS} {k : Nat} (h : CV Γ φ b S) (hJ : JI k S) (sd kk c x : Int32) : Face Γ φ b S k (f_Bus_wire Γ φ b sd kk c x) (fun φ1 r => f_Ref_wire Γ φ1 r sd kk c x) IOB IAE IAE := by
  have n4 := h.lay.nm4
  have s4 := h.lay.ns4
  have hn : f_Bus_needIndex Γ φ c (5 : Int32) = _ := nIdx Γ φ c (n := 5) (by decide) (by decide)
  have hm : f_Bus_needNumber Γ φ x (0 : Int32) (2 : Int32) = _ := nNum Γ φ x (lo := 0) (hi := 2) (by decide) (by decide)
  have bad : ∀ φ1 r, RV Γ φ1 r S → f_Ref_wire_L22 Γ φ1 r sd kk c x r = some (0, uI φ1 r 0 (nI 1)) := by
    intro φ1 r hr
    unfold f_Ref_wire_L22 f_Ref_wire_L44
    rw [if_pos hr.rl.o, if_pos hr.rl.o, if_neg (er_1 _ _)]
    rfl
  cases hS : okS S sd kk with
  | none =>
    refine Face.get h hJ 1 0 (by decide) ?_ (fun φ1 r hr => ⟨0, ?_, fun e => by cases e⟩)
    · unfold f_Bus_wire
      rw [if_pos h.lay.o, c_portAt h, hS]; rfl
    · show f_Ref_wire Γ φ1 r sd kk c x = _
      unfold f_Ref_wire
      rw [if_pos hr.rl.o, r_isSide hr n4 s4, hS, isS_n, Option.bind_some, if_pos (bf_eq _)]
      exact bad φ1 r hr
  | some p =>
    obtain ⟨hp, hp8, a, d, rfl, rfl, hpe, ha, hd⟩ := okS_some n4 s4 hS
    cases hc : inN c 0 4 with
    | false =>
      refine Face.get h hJ 1 0 (by decide) ?_ (fun φ1 r hr => ⟨0, ?_, fun e => by cases e⟩)
      · unfold f_Bus_wire
        rw [if_pos h.lay.o, c_portAt h, hS, bT_l, hn, hc]; rfl
      · show f_Ref_wire Γ φ1 r _ _ c x = _
        unfold f_Ref_wire
        rw [if_pos hr.rl.o, r_isSide hr n4 s4, hS, isS_s, Option.bind_some, if_neg (bt_ne _), show f_Ref_in Γ φ1 c.toInt64 (0 : Int64) (4 : Int64) = _ from e_inN Γ φ1 c 0 4, hc, Option.bind_some, if_pos (bf_eq _)]
        exact bad φ1 r hr
    | true =>
      obtain ⟨i, _, hi, rfl, _⟩ := inN_t (by decide) (by decide) hc
      cases hx : inN x 0 2 with
      | false =>
        refine Face.get h hJ 2 0 (by decide) ?_ (fun φ1 r hr => ⟨0, ?_, fun e => by cases e⟩)
        · unfold f_Bus_wire
          rw [if_pos h.lay.o, c_portAt h, hS, bT_l, hn, hc, if_pos rfl, bT_l, hm, hx]; rfl
        · show f_Ref_wire Γ φ1 r _ _ _ x = _
          unfold f_Ref_wire f_Ref_wire_L44
          rw [if_pos hr.rl.o, r_isSide hr n4 s4, hS, isS_s, Option.bind_some, if_neg (bt_ne _), show f_Ref_in Γ φ1 (nI i).toInt64 (0 : Int64) (4 : Int64) = _ from e_inN Γ φ1 (nI i) 0 4, hc, Option.bind_some, if_neg (bt_ne _), show f_Ref_in Γ φ1 x.toInt64 (0 : Int64) (2 : Int64) = _ from e_inN Γ φ1 x 0 2, hx, Option.bind_some, if_pos (bf_eq _), if_pos hr.rl.o, if_pos hr.rl.o, if_neg (er_2 _ _)]
          rfl
      | true =>
        obtain ⟨j, _, hj, rfl, _⟩ := inN_t (by decide) (by decide) hx
        have hB : f_Bus_wire Γ φ b (nI a) (nI d) (nI i) (nI j) = some (.inl (if j = 0 then bI ((S.wi p).w i).v else if j = 1 then bI ((S.wi p).rd i) else ((S.wi p).w i).r), φ) := by
          obtain ⟨hdd, hP⟩ := h.po p hp
          unfold f_Bus_wire f_Bus_wire_L63 f_Bus_wire_L79
          rw [if_pos h.lay.o, c_portAt h, hS, bT_l, hn, hc, if_pos rfl, bT_l, hm, hx, if_pos rfl, bT_l]
          have hj3 : j = 0 ∨ j = 1 ∨ j = 2 := by omega
          rcases hj3 with rfl | rfl | rfl
          · rw [if_pos (by decide), Option.bind_some, if_pos hP.o, hP.f0, Option.bind_some, hP.g0, Option.bind_some, zix (by omega), Option.bind_some, (hP.w i (by omega)).1]
            cases ((S.wi p).w i).v <;> rfl
          · rw [if_neg (by decide), if_pos (by decide), Option.bind_some, if_pos hP.o, hP.f1, Option.bind_some, hP.g1, Option.bind_some, zix (by omega), Option.bind_some, (hP.w i (by omega)).2.1]
            cases (S.wi p).rd i <;> rfl
          · rw [if_neg (by decide), if_neg (by decide), Option.bind_some, if_pos hP.o, hP.f4, Option.bind_some, hP.g4, Option.bind_some, zix (by omega), Option.bind_some, (hP.w i (by omega)).2.2.2]
            rfl
        refine Face.get h hJ 0 _ (by decide) (hB.trans rfl) (fun φ1 r hr => ⟨_, ?_, fun _ => rfl⟩)
        obtain ⟨h1, _⟩ := r_errUp hr 0
        show f_Ref_wire Γ φ1 r _ _ _ _ = _
        unfold f_Ref_wire f_Ref_wire_L44 f_Ref_wire_L118
        rw [if_pos hr.rl.o, r_isSide hr n4 s4, hS, isS_s, Option.bind_some, if_neg (bt_ne _), show f_Ref_in Γ φ1 (nI i).toInt64 (0 : Int64) (4 : Int64) = _ from e_inN Γ φ1 (nI i) 0 4, hc, Option.bind_some, if_neg (bt_ne _), show f_Ref_in Γ φ1 (nI j).toInt64 (0 : Int64) (2 : Int64) = _ from e_inN Γ φ1 (nI j) 0 2, hx, Option.bind_some, if_neg (bt_ne _), if_pos hr.rl.o, if_pos hr.rl.o, if_pos (er_0 _ _), e_wireOf, Option.bind_some, ← hpe]
        obtain ⟨w1, w2, w3, w4⟩ := h1.wi p i hp8 (by omega)
        rw [zI_0]
        have hj3 : j = 0 ∨ j = 1 ∨ j = 2 := by omega
        rcases hj3 with rfl | rfl | rfl
        · rw [if_pos rfl, rf_33 h1.rl, Option.bind_some, rg_33 h1.rl, Option.bind_some, zix (by omega), Option.bind_some, w1]
          show (if bI ((S.wi p).w i).v = nI 0 then _ else _) = _
          cases ((S.wi p).w i).v <;> rfl
        · rw [if_neg (by decide), if_pos (by decide), rf_34 h1.rl, Option.bind_some, rg_34 h1.rl, Option.bind_some, zix (by omega), Option.bind_some, w2]
          show (if bI ((S.wi p).rd i) = nI 0 then _ else _) = _
          cases (S.wi p).rd i <;> rfl
        · rw [if_neg (by decide), if_neg (by decide), rf_36 h1.rl, Option.bind_some, rg_36 h1.rl, Option.bind_some, zix (by omega), Option.bind_some, w4]
          rfl
