/-! THE FACE: a request -/
theorem shb {h k j : Nat} (hh : h < 32768) (hk : k < 31) : (nI h >>> (nI k &&& 31)) &&& nI (2 ^ j - 1) = nI (h / 2 ^ k % 2 ^ j) := by
  have e : nI k &&& (31 : Int32) = nI k := by
    rw [show (31 : Int32) = nI (2 ^ 5 - 1) from rfl, zI_and, Nat.and_two_pow_sub_one_eq_mod]
    congr 1
    omega
  rw [e, zI_shr (by omega) (by omega), zI_and, Nat.and_two_pow_sub_one_eq_mod, Nat.shiftRight_eq_div_pow]
theorem if01 {α : Type} {n : Nat} (hn : n < 2) (X : Int32 → α) : (if nI n = (1 : Int32) then X 1 else X 0) = X (nI n) := by
  have : n = 0 ∨ n = 1 := by omega
  rcases this with rfl | rfl
  · rw [if_neg (by decide)]; rfl
  · rw [if_pos (by decide)]; rfl
theorem bI_dec {n : Nat} (hn : n < 2) : nI n = bI (decide (n = 1)) := by
  have : n = 0 ∨ n = 1 := by omega
  rcases this with rfl | rfl <;> rfl
/-- the reference writes a ticket down -/
theorem r_rq255 {Γ : gm_T} {φ : ph_T} {r : Nat} {S : XS} (h : RV Γ φ r S) {m hw a i : Nat} (hm : m < 4) (hh : hw < 32768) (ha : a < 65536) (hi : i < 16) (hru : ruN (nL (rqN hw a i)) = 0) (seed : Int64) (hl : S.tk.length < 64) :
    ∃ φ', f_Ref_request_L255 Γ φ r (nI m) (nI hw) (nI a) (nI i) seed (nI S.tk.length) (bI (decide (hw / 256 % 2 = 1))) (0 : Int32) r = some (nI S.tk.length, φ') ∧ RV Γ φ' r ((S.w_tk (S.tk ++ [newT m (nL (rqN hw a i)) (decide (hw / 256 % 2 = 1)) (decide (hw / 1024 % 2 = 1)) seed S.time])).w_err 0) ∧ RFr r [0, 9, 10, 11, 12, 13, 14, 15, 16, 17, 18, 19, 20, 21, 22, 23, 24] φ φ' := by
  obtain ⟨h1, f1⟩ := r_errUp h 0
  obtain ⟨c1, c2, c3, c4, c5, c6, c7⟩ := rq_parts hh ha hi
  have hlt := (rq_lt (h := hw) ha hi).1
  obtain ⟨h2, f2⟩ := r_rqV h1 hm (con := nL (rqN hw a i)) (by rw [uN_nL (by omega)]; exact hlt) hru (decide (hw / 256 % 2 = 1)) (decide (hw / 1024 % 2 = 1)) seed hl
  refine ⟨_, ?_, ?_, (f1.mono (by decide)).trans f2⟩
  · unfold f_Ref_request_L255
    rw [if_pos h.rl.o, if_pos h.rl.o, if_pos (er_0 _ _), rf_16 h.rl, Option.bind_some, rg_16 h.rl, Option.bind_some, zix (by omega), Option.bind_some, rf_17 h.rl, Option.bind_some, rg_17 h.rl, Option.bind_some, zix (by omega), Option.bind_some, rf_18 h.rl, Option.bind_some, rg_18 h.rl, Option.bind_some, zix (by omega), Option.bind_some, rf_19 h.rl, Option.bind_some, rg_19 h.rl, Option.bind_some, zix (by omega), Option.bind_some, rf_20 h.rl, Option.bind_some, rg_20 h.rl, Option.bind_some, zix (by omega), Option.bind_some, if_pos (bI_or _)]
    have v9 : ((nI hw >>> ((9 : Int32) &&& 31)) &&& (1 : Int32)) = nI (hw / 512 % 2) := shb (k := 9) (j := 1) hh (by decide)
    have v10 : ((nI hw >>> ((10 : Int32) &&& 31)) &&& (1 : Int32)) = nI (hw / 1024 % 2) := shb (k := 10) (j := 1) hh (by decide)
    have v4 : ((nI hw >>> ((4 : Int32) &&& 31)) &&& (3 : Int32)) = nI (hw / 16 % 4) := shb (k := 4) (j := 2) hh (by decide)
    have v6 : ((nI hw >>> ((6 : Int32) &&& 31)) &&& (3 : Int32)) = nI (hw / 64 % 4) := shb (k := 6) (j := 2) hh (by decide)
    have v11 : (nI hw >>> ((11 : Int32) &&& 31)) = nI (hw / 2048) := by
      rw [show ((11 : Int32) &&& 31) = nI 11 from by decide, zI_shr (by omega) (by decide), Nat.shiftRight_eq_div_pow]
    have v15 : (nI hw &&& (15 : Int32)) + (1 : Int32) = nI (hw % 16 + 1) := by
      rw [show (15 : Int32) = nI (2 ^ 4 - 1) from rfl, zI_and, Nat.and_two_pow_sub_one_eq_mod, zI_1, zI_add]
    rw [v9, v4, v6, v15, if01 (by omega) (fun z => f_Ref_request_L343 Γ _ r (nI hw) (nI a) (nI i) seed (nI S.tk.length) z (nI S.tk.length) (φ.2.2 r 21)), rf_21 h.rl]
    unfold f_Ref_request_L343
    rw [Option.bind_some, rg_21 h.rl, Option.bind_some, zix (by omega), Option.bind_some, if_pos (show nI (hw / 512 % 2) = 0 ∨ nI (hw / 512 % 2) = 1 from by rw [bI_dec (by omega)]; exact bI_or _), if_pos h.rl.o, v10, if01 (by omega) (fun z => f_Ref_request_L365 Γ _ r (nI hw) (nI a) (nI i) seed (nI S.tk.length) z (nI S.tk.length) _)]
    unfold f_Ref_request_L365
    simp only [uI_3, rf_22 h.rl, rg_22 h.rl, rf_23 h.rl, rg_23 h.rl, rf_24 h.rl, rg_24 h.rl, rf_25 h.rl, rg_25 h.rl, rf_26 h.rl, rg_26 h.rl, rf_27 h.rl, rg_27 h.rl, rf_28 h.rl, rg_28 h.rl, rf_29 h.rl, rg_29 h.rl, rf_30 h.rl, rg_30 h.rl, rf_31 h.rl, rg_31 h.rl, Option.bind_some, zix (show S.tk.length < 64 from hl), h.rl.o, if_true, v11]
    rw [if_pos (show nI (hw / 1024 % 2) = 0 ∨ nI (hw / 1024 % 2) = 1 from by rw [bI_dec (by omega)]; exact bI_or _)]
    have et : φ.1 r 6 = nI S.time := h.sc.time
    have el : φ.1 r 15 = nI S.tk.length := h.sc.tk
    have en : ∀ {k : Nat} (v : Nat), k ≠ 0 → (va_up (φ.1 r) 0 (nI v)) k = φ.1 r k := fun v hk => vz_ne _ hk
    have e6 : (uI φ r 0 (0 : Int32)).1 r = va_up (φ.1 r) 0 (0 : Int32) := uI_s _ _ _ _
    unfold rqφ
    rw [c1, c2, c3, c4, c5, c6, c7]
    repeat (first | rw [uL_1] | (rw [uI_1]; rw [if_neg (by omega)]))
    rw [e6, vz_ne _ (show (6 : Nat) ≠ 0 by decide), et]
    repeat (first | rw [uL_1] | (rw [uI_1]; rw [if_neg (by omega)]))
    rw [e6, vz_ne _ (show (15 : Nat) ≠ 0 by decide), el, zI_1, zI_add, bI_dec (show hw / 1024 % 2 < 2 by omega)]
    rfl
  · have e : (((S.w_err 0).w_tk (S.tk ++ [newT m (nL (rqN hw a i)) (decide (hw / 256 % 2 = 1)) (decide (hw / 1024 % 2 = 1)) seed S.time])).err) = 0 := rfl
    exact h2.er0 e
theorem q_request {Γ : gm_T} {φ : ph_T} {b : Nat} {S : XS} {k : Nat} (h : CV Γ φ b S) (hJ : JI k S) (p hw ad i : Int32) (seed : Int64) : Face Γ φ b S k (f_Bus_request Γ φ b p hw ad i seed) (fun φ1 r => f_Ref_request Γ φ1 r p hw ad i seed) IOB IAE UOE := by
  obtain ⟨g1, g2, g3, g4⟩ := h.reg
  have n4 := h.lay.nm4
  have n5 := h.lay.ns4
  have hle := h.tk.le
  have hn := nIdx Γ φ p (n := S.nm) (by omega) (by omega)
  have hna : f_Bus_needIndex Γ φ ad (65536 : Int32) = _ := nIdx Γ φ ad (n := 65536) (by decide) (by decide)
  have hnh : f_Bus_needNumber Γ φ hw (0 : Int32) (32767 : Int32) = _ := nNum Γ φ hw (lo := 0) (hi := 32767) (by decide) (by decide)
  have hni : f_Bus_needNumber Γ φ i (0 : Int32) (15 : Int32) = _ := nNum Γ φ i (lo := 0) (hi := 15) (by decide) (by decide)
  have hri : ∀ φ1 r, RV Γ φ1 r S → f_Ref_in Γ φ1 p.toInt64 (0 : Int64) ((φ1.1 r 1).toInt64 - (1 : Int64)) = some (bI (inN p 0 (S.nm - 1)), φ1) := by
    intro φ1 r hr
    rw [hr.sc.nm, nI_64m1 (by omega) (by omega)]
    exact e_inN Γ φ1 p 0 (S.nm - 1)
  have bad1 : ∀ φ1 r, RV Γ φ1 r S → ∀ x7, f_Ref_request_L35 Γ φ1 r p hw ad i seed x7 r = some (0, uI φ1 r 0 (nI 1)) := by
    intro φ1 r hr x7
    unfold f_Ref_request_L35 f_Ref_request_L69
    rw [if_pos hr.rl.o, if_pos hr.rl.o, if_neg (er_1 _ _)]
    rfl
  have bad2 : ∀ φ1 r, RV Γ φ1 r S → ∀ x7, f_Ref_request_L64 Γ φ1 r p hw ad i seed x7 r = some (0, uI φ1 r 0 (nI 2)) := by
    intro φ1 r hr x7
    unfold f_Ref_request_L64 f_Ref_request_L69
    rw [if_pos hr.rl.o, if_pos hr.rl.o, if_neg (er_2 _ _)]
    rfl
  have hB0 : f_Bus_request Γ φ b p hw ad i seed = bT (f_Bus_needIndex Γ φ p (nI S.nm)) fun v32 φ33 =>
      bT (f_Bus_needIndex Γ φ33 ad (65536 : Int32)) fun v36 φ37 =>
      bT (f_Bus_needNumber Γ φ37 hw (0 : Int32) (32767 : Int32)) fun v40 φ41 =>
      bT (f_Bus_needNumber Γ φ41 i (0 : Int32) (15 : Int32)) fun v44 φ45 =>
      Option.bind (f_Burst_contentOf Γ φ45 hw ad i) fun q47 =>
      Option.bind (f_Burst_brokenRule Γ q47.2 q47.1) fun q48 =>
      if q48.1 = 0 then
        if (hw &&& (256 : Int32)) = 0 then f_Bus_request_L71 Γ q48.2 b p hw seed q47.1 (0 : Int32)
        else f_Bus_request_L71 Γ q48.2 b p hw seed q47.1 (1 : Int32)
      else some (.inr "java/lang/IllegalArgumentException", q48.2) := by
    unfold f_Bus_request
    rw [if_pos h.lay.o, h.lay.f2, Option.bind_some, h.lay.g2, Option.bind_some]
  cases hp : inN p 0 (S.nm - 1) with
  | false =>
    refine Face.bad h hJ 1 0 (by decide) (by decide) ?_ (fun φ1 r hr => ⟨0, ?_⟩)
    · rw [hB0, hn, hp]; rfl
    · show f_Ref_request Γ φ1 r p hw ad i seed = _
      unfold f_Ref_request
      rw [if_pos hr.rl.o, hri φ1 r hr, hp, Option.bind_some, if_pos (bf_eq _)]
      exact bad1 φ1 r hr _
  | true =>
  cases ha : inN ad 0 65535 with
  | false =>
    refine Face.bad h hJ 1 0 (by decide) (by decide) ?_ (fun φ1 r hr => ⟨0, ?_⟩)
    · rw [hB0, hn, hp, if_pos rfl, bT_l, hna, show inN ad 0 (65536 - 1) = false from ha]; rfl
    · show f_Ref_request Γ φ1 r p hw ad i seed = _
      unfold f_Ref_request
      rw [if_pos hr.rl.o, hri φ1 r hr, hp, Option.bind_some, if_neg (bt_ne _), show f_Ref_in Γ φ1 ad.toInt64 (0 : Int64) (65535 : Int64) = _ from e_inN Γ φ1 ad 0 65535, ha, Option.bind_some, if_pos (bf_eq _)]
      exact bad1 φ1 r hr _
  | true =>
  cases hh : inN hw 0 32767 with
  | false =>
    refine Face.bad h hJ 2 0 (by decide) (by decide) ?_ (fun φ1 r hr => ⟨0, ?_⟩)
    · rw [hB0, hn, hp, if_pos rfl, bT_l, hna, show inN ad 0 (65536 - 1) = true from ha, if_pos rfl, bT_l, hnh, hh]; rfl
    · show f_Ref_request Γ φ1 r p hw ad i seed = _
      unfold f_Ref_request
      rw [if_pos hr.rl.o, hri φ1 r hr, hp, Option.bind_some, if_neg (bt_ne _), show f_Ref_in Γ φ1 ad.toInt64 (0 : Int64) (65535 : Int64) = _ from e_inN Γ φ1 ad 0 65535, ha, Option.bind_some, if_neg (bt_ne _), show f_Ref_in Γ φ1 hw.toInt64 (0 : Int64) (32767 : Int64) = _ from e_inN Γ φ1 hw 0 32767, hh, Option.bind_some, if_pos (bf_eq _)]
      exact bad2 φ1 r hr _
  | true =>
  cases hii : inN i 0 15 with
  | false =>
    refine Face.bad h hJ 2 0 (by decide) (by decide) ?_ (fun φ1 r hr => ⟨0, ?_⟩)
    · rw [hB0, hn, hp, if_pos rfl, bT_l, hna, show inN ad 0 (65536 - 1) = true from ha, if_pos rfl, bT_l, hnh, hh, if_pos rfl, bT_l, hni, hii]; rfl
    · show f_Ref_request Γ φ1 r p hw ad i seed = _
      unfold f_Ref_request
      rw [if_pos hr.rl.o, hri φ1 r hr, hp, Option.bind_some, if_neg (bt_ne _), show f_Ref_in Γ φ1 ad.toInt64 (0 : Int64) (65535 : Int64) = _ from e_inN Γ φ1 ad 0 65535, ha, Option.bind_some, if_neg (bt_ne _), show f_Ref_in Γ φ1 hw.toInt64 (0 : Int64) (32767 : Int64) = _ from e_inN Γ φ1 hw 0 32767, hh, Option.bind_some, if_neg (bt_ne _), show f_Ref_in Γ φ1 i.toInt64 (0 : Int64) (15 : Int64) = _ from e_inN Γ φ1 i 0 15, hii, Option.bind_some, if_pos (bf_eq _)]
      exact bad2 φ1 r hr _
  | true =>
  obtain ⟨m, _, hm, rfl, _⟩ := inN_t (by omega) (by omega) hp
  obtain ⟨a, _, hav, rfl, _⟩ := inN_t (by decide) (by decide) ha
  obtain ⟨w, _, hwv, rfl, _⟩ := inN_t (by decide) (by decide) hh
  obtain ⟨j, _, hjv, rfl, _⟩ := inN_t (by decide) (by decide) hii
  obtain ⟨c1, c2, c3, c4, c5, c6, c7⟩ := rq_parts (h := w) (a := a) (i := j) (by omega) (by omega) (by omega)
  have hru := rq_ru (h := w) (a := a) (i := j) (by omega) (by omega) (by omega)
  have hrule : ruN (nL (rqN w a j)) < 13 := by unfold ruN; repeat' split
                                               all_goals decide
  generalize hwr : decide (w / 256 % 2 = 1) = wr
  have hB1 : f_Bus_request Γ φ b (nI m) (nI w) (nI a) (nI j) seed = if ruN (nL (rqN w a j)) = 0 then f_Bus_request_L71 Γ φ b (nI m) (nI w) seed (nL (rqN w a j)) (bI wr) else some (.inr IAE, φ) := by
    rw [hB0, hn, hp, if_pos rfl, bT_l, hna, show inN (nI a) 0 (65536 - 1) = true from ha, if_pos rfl, bT_l, hnh, hh, if_pos rfl, bT_l, hni, hii, if_pos rfl, bT_l, e_contentOf Γ φ (by omega) (by omega) (by omega), Option.bind_some, e_Burst_brokenRule, Option.bind_some, show (256 : Int32) = nI (2 ^ 8) from rfl, bit_if (by omega) (by decide)]
    by_cases e : ruN (nL (rqN w a j)) = 0
    · rw [if_pos (by show nI (ruN (nL (rqN w a j))) = 0; rw [e]; rfl), if_pos e]
      by_cases e2 : w / 2 ^ 8 % 2 = 0
      · rw [if_pos e2, ← hwr, decide_eq_false (by omega)]; rfl
      · rw [if_neg e2, ← hwr, decide_eq_true (by omega)]; rfl
    · rw [if_neg (by show ¬ nI (ruN (nL (rqN w a j))) = 0; rw [zI_0, zI_eq (by omega) (by omega)]; exact e), if_neg e]
      rfl
  have hR1 : ∀ φ0 r, RV Γ φ0 r S → f_Ref_request Γ φ0 r (nI m) (nI w) (nI a) (nI j) seed = (if ruN (nL (rqN w a j)) = 0 then (if S.tk.length = 64 then f_Ref_request_L250 Γ (uI φ0 r 0 (nI 0)) r (nI m) (nI w) (nI a) (nI j) seed (nI S.tk.length) (bI wr) r else if S.tk.countP (isUns m wr) = 8 then f_Ref_request_L250 Γ (uI φ0 r 0 (nI 0)) r (nI m) (nI w) (nI a) (nI j) seed (nI S.tk.length) (bI wr) r else f_Ref_request_L255 Γ (uI φ0 r 0 (nI 0)) r (nI m) (nI w) (nI a) (nI j) seed (nI S.tk.length) (bI wr) (0 : Int32) r) else f_Ref_request_L255 Γ (uI φ0 r 0 (nI 0)) r (nI m) (nI w) (nI a) (nI j) seed (nI S.tk.length) (bI wr) (2 : Int32) r) := by
    intro φ0 r hr
    obtain ⟨h1, _⟩ := r_errUp hr 0
    have hcl : S.tk.countP (isUns m wr) ≤ 64 := Nat.le_trans List.countP_le_length hle
    unfold f_Ref_request f_Ref_request_L69
    rw [if_pos hr.rl.o, hri φ0 r hr, hp, Option.bind_some, if_neg (bt_ne _), show f_Ref_in Γ φ0 (nI a).toInt64 (0 : Int64) (65535 : Int64) = _ from e_inN Γ φ0 (nI a) 0 65535, ha, Option.bind_some, if_neg (bt_ne _), show f_Ref_in Γ φ0 (nI w).toInt64 (0 : Int64) (32767 : Int64) = _ from e_inN Γ φ0 (nI w) 0 32767, hh, Option.bind_some, if_neg (bt_ne _), show f_Ref_in Γ φ0 (nI j).toInt64 (0 : Int64) (15 : Int64) = _ from e_inN Γ φ0 (nI j) 0 15, hii, Option.bind_some, if_neg (bt_ne _), if_pos hr.rl.o, if_pos hr.rl.o, if_pos (er_0 _ _), hr.sc.tk, r_burst (by omega) (by omega) (by omega)]
    have v8 : ((nI w >>> ((8 : Int32) &&& 31)) &&& (1 : Int32)) = nI (w / 256 % 2) := shb (k := 8) (j := 1) (by omega) (by decide)
    rw [v8, if01 (by omega) (fun z => f_Ref_request_L154 Γ (uI φ0 r 0 (0 : Int32)) r (nI m) (nI w) (nI a) (nI j) seed (nI S.tk.length) (nL (rqR w a j)) z), bI_dec (n := w / 256 % 2) (by omega), hwr]
    unfold f_Ref_request_L154
    have := r_rq162 h1 (m := m) (by omega) wr (nI w) (nI a) (nI j) seed (nI S.tk.length) (nL (rqR w a j)) S.tk.length 0 0 jF (Nat.zero_add _) (by unfold jF; omega)
    rw [zI_0, this, Nat.zero_add]
    show f_Ref_request_L162 Γ (0 + 1) (uI φ0 r 0 (nI 0)) r (nI m) (nI w) (nI a) (nI j) seed (nI S.tk.length) (nL (rqR w a j)) (bI wr) (nI (S.tk.countP (isUns m wr))) (nI S.tk.length) = _
    rw [f_Ref_request_L162, if_pos hr.rl.o, show (uI φ0 r 0 (nI 0)).1 r 15 = nI S.tk.length from h1.sc.tk, if_pos (Int32.le_refl _), e_Ref_breaks, Option.bind_some, hru]
    by_cases e : ruN (nL (rqN w a j)) = 0
    · rw [if_pos (by show nI (ruN (nL (rqN w a j))) ≤ 0; rw [e]; decide), if_pos e, show (uI φ0 r 0 (nI 0)).1 r 15 = nI S.tk.length from h1.sc.tk]
      by_cases e2 : S.tk.length = 64
      · rw [if_pos (by rw [e2]; rfl), if_pos e2]
      · rw [if_neg (by rw [show (64 : Int32) = nI 64 from rfl, zI_eq (by omega) (by omega)]; exact e2), if_neg e2]
        by_cases e3 : S.tk.countP (isUns m wr) = 8
        · rw [if_pos (by rw [e3]; rfl), if_pos e3]
        · rw [if_neg (by rw [show (8 : Int32) = nI 8 from rfl, zI_eq (by omega) (by omega)]; exact e3), if_neg e3]
          rfl
    · rw [if_neg (by show ¬ nI (ruN (nL (rqN w a j))) ≤ 0; rw [zI_0, zI_le (by omega) (by omega)]; omega), if_neg e]
  have badR : ∀ φ0 r, RV Γ φ0 r S → He φ0 r S → ∀ cd : Nat, cd < 4 → cd ≠ 0 → ∃ v φ2, f_Ref_request_L255 Γ (uI φ0 r 0 (nI 0)) r (nI m) (nI w) (nI a) (nI j) seed (nI S.tk.length) (bI wr) (nI cd) r = some (v, φ2) ∧ RV Γ φ2 r (S.w_err cd) ∧ He φ2 r S ∧ Fr r (r + 92) φ0 φ2 := by
    intro φ0 r hr hH cd hcd hz
    obtain ⟨h1, f1⟩ := r_errUp hr 0
    obtain ⟨h2, f2⟩ := r_errUp h1 cd
    rw [XS.w_err_w_err] at h2
    refine ⟨0, _, ?_, h2, fun q hq => by rw [f2.i 30 (by decide), f1.i 30 (by decide)]; exact hH q hq, (f1.fr (by decide)).trans (f2.fr (by decide))⟩
    unfold f_Ref_request_L255
    rw [if_pos hr.rl.o, if_pos hr.rl.o, if_neg (by rw [erz_at, zI_0, zI_le (by omega) (by omega)]; omega)]
  by_cases e : ruN (nL (rqN w a j)) = 0
  · by_cases e2 : S.tk.length < 64 ∧ S.tk.countP (isUns m wr) < 8
    · obtain ⟨φ', a1, a2, a3⟩ := c_request h (m := m) (hw := w) (con := nL (rqN w a j)) (seed := seed) (wr := wr) (by omega) (by omega) e2.1 e2.2
      refine ⟨0, nI S.tk.length, φ', S.w_tk (S.tk ++ [newT m (nL (rqN w a j)) wr (decide (w / 1024 % 2 = 1)) seed S.time]), by decide, ?_, a2, a3, hJ.ask (by omega) (by rw [c1]; omega) e e2.2, rfl, rfl, ?_⟩
      · rw [hB1, if_pos e, a1]; rfl
      · intro φ0 r hr hH
        obtain ⟨h1, f1⟩ := r_errUp hr 0
        obtain ⟨φ2, b1, b2, b3⟩ := r_rq255 h1 (m := m) (hw := w) (a := a) (i := j) (by omega) (by omega) (by omega) (by omega) e seed e2.1
        rw [hwr] at b1 b2
        refine ⟨_, φ2, ?_, fun _ => rfl, b2, fun q hq => by rw [b3.i 30 (by decide), f1.i 30 (by decide)]; exact hH q hq, (f1.fr (by decide)).trans (b3.fr (by decide))⟩
        show f_Ref_request Γ φ0 r (nI m) (nI w) (nI a) (nI j) seed = _
        rw [hR1 φ0 r hr, if_pos e, if_neg (by omega), if_neg (by omega)]
        exact b1
    · have hun := hJ.2.2.2.2 m wr
      have hfull : S.tk.length = 64 ∨ S.tk.countP (isUns m wr) = 8 := by omega
      refine ⟨3, 0, φ, S, by decide, ?_, h, Fr.refl _ _ _, hJ, rfl, rfl, ?_⟩
      · rw [hB1, if_pos e]
        have hA := h.ma m (by omega)
        have hr := c_hasRoomM hA hle wr
        unfold f_Bus_request_L71 f_Bus_request_L96
        rw [if_pos h.lay.o, h.tc]
        by_cases e3 : S.tk.length = 64
        · rw [if_pos (by rw [e3]; decide)]; rfl
        · have e4 : S.tk.countP (isUns m wr) = 8 := by omega
          rw [e4, show decide (8 < 8) = false from rfl, Bool.and_false] at hr
          rw [if_neg (by rw [show (64 : Int32) = nI 64 from rfl, zI_le (by omega) (by omega)]; omega), h.lay.f2, Option.bind_some, h.lay.g2, Option.bind_some, zix (by omega), Option.bind_some, h.lay.ma m (by omega), Option.bind_some, if_pos hA.o, hr, Option.bind_some, if_pos (bf_eq _)]
          rfl
      · intro φ0 r hr hH
        obtain ⟨v, φ2, b1, b2, b3, b4⟩ := badR φ0 r hr hH 3 (by decide) (by decide)
        refine ⟨v, φ2, ?_, fun hh => (by cases hh), b2, b3, b4⟩
        show f_Ref_request Γ φ0 r (nI m) (nI w) (nI a) (nI j) seed = _
        rw [hR1 φ0 r hr, if_pos e]
        unfold f_Ref_request_L250
        by_cases e3 : S.tk.length = 64
        · rw [if_pos e3]; exact b1
        · rw [if_neg e3, if_pos (by omega)]; exact b1
  · refine ⟨2, 0, φ, S, by decide, ?_, h, Fr.refl _ _ _, hJ, rfl, rfl, ?_⟩
    · rw [hB1, if_neg e]; rfl
    · intro φ0 r hr hH
      obtain ⟨v, φ2, b1, b2, b3, b4⟩ := badR φ0 r hr hH 2 (by decide) (by decide)
      refine ⟨v, φ2, ?_, fun hh => (by cases hh), b2, b3, b4⟩
      show f_Ref_request Γ φ0 r (nI m) (nI w) (nI a) (nI j) seed = _
      rw [hR1 φ0 r hr, if_neg e]
      exact b1
