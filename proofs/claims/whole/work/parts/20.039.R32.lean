/-! THE REFERENCE moves an answer -/
theorem nxt_rot (l : Option Nat) (n i : Nat) (hn : 0 < n) : (lstA l n + (i + 1)) % n = (nxt l n + i) % n := by
  unfold nxt lstA
  cases l with
  | none =>
    simp only
    rw [show n - 1 + (i + 1) = i + n by omega, Nat.add_mod_right, Nat.zero_add]
  | some x =>
    simp only
    rw [show x + (i + 1) = x + 1 + i by omega, Nat.mod_add_mod]
/-- the first from the k-th on that gives -/
def XS.givF (S : XS) (m c la : Nat) : Nat → Nat → Option Nat
  | 0, _ => none
  | d + 1, k => if S.gives m c ((la + k) % (S.ns + 1)) = true then some ((la + k) % (S.ns + 1)) else S.givF m c la d (k + 1)
theorem givF_eq (S : XS) (m c : Nat) (l : Option Nat) : ∀ d i, ((List.range' i d).find? fun i => S.gives m c ((nxt l (S.ns + 1) + i) % (S.ns + 1))).map (fun i => (nxt l (S.ns + 1) + i) % (S.ns + 1)) = S.givF m c (lstA l (S.ns + 1)) d (i + 1) := by
  intro d
  induction d with
  | zero => intro i; rfl
  | succ d ih =>
    intro i
    unfold XS.givF
    rw [List.range'_succ, List.find?_cons, nxt_rot l (S.ns + 1) i (by omega)]
    cases S.gives m c ((nxt l (S.ns + 1) + i) % (S.ns + 1)) with
    | true => simp
    | false =>
      simp only [Bool.false_eq_true, if_false]
      exact ih (i + 1)
theorem giv_eq (S : XS) (m c : Nat) (l : Option Nat) : S.giv m c l = S.givF m c (lstA l (S.ns + 1)) (S.ns + 1) 1 := by
  unfold XS.giv
  rw [List.range_eq_range']
  exact givF_eq S m c l (S.ns + 1) 0
theorem givF_some {S : XS} {m c la : Nat} : ∀ {d k t}, S.givF m c la d k = some t → S.gives m c t = true ∧ t < S.ns + 1 := by
  intro d
  induction d with
  | zero => intro k t h; cases h
  | succ d ih =>
    intro k t h
    unfold XS.givF at h
    split at h
    · rename_i hg
      cases h
      exact ⟨hg, Nat.mod_lt _ (by omega)⟩
    · exact ih h
theorem r_ma21 {Γ : gm_T} {φ : ph_T} {r : Nat} {S : XS} (h : RV Γ φ r S) (hB : Bd S) {m row : Nat} (hm : m < 4) : ∀ d k fu, k + d = S.ns + 2 → d < fu →
    f_Ref_moveAnswer_L21 Γ fu φ r (nI m) (nI row) (nI (S.ns + 1)) m1 (nI k) = f_Ref_moveAnswer_L71 Γ φ r (nI m) (nI row) (oI (S.givF m 2 (lstA (S.lb m) (S.ns + 1)) d k) m1) := by
  have hns := hB.ns
  have hl := h.la.hb m hm
  have hla : lstA (S.lb m) (S.ns + 1) < S.ns + 1 := lstA_lt (by omega) (fun x hx => by have := hB.lb m x hx; omega)
  have hl' : φ.1 (r + 45) m = nI (lstA (S.lb m) (S.ns + 1)) := by rw [hl]; exact oI_lst (S.lb m) (S.ns + 1)
  intro d
  induction d with
  | zero =>
    intro k fu hd hf
    match fu, hf with
    | fu + 1, _ =>
      unfold f_Ref_moveAnswer_L21 XS.givF
      simp (disch := first | assumption | omega) only [zI_lt]
      rw [if_pos (show S.ns + 1 < k by omega)]
      rfl
  | succ d ih =>
    intro k fu hd hf
    match fu, hf with
    | fu + 1, hf =>
      have hmod : (lstA (S.lb m) (S.ns + 1) + k) % (S.ns + 1) < S.ns + 1 := Nat.mod_lt _ (by omega)
      have hfor := r_isFor h (t := (lstA (S.lb m) (S.ns + 1) + k) % (S.ns + 1)) (c := 2) (m := m) (by omega) (by omega) (by omega)
      unfold f_Ref_moveAnswer_L21 f_Ref_moveAnswer_L63 XS.givF
      simp (disch := first | assumption | omega) only [zI_lt, ↓zm1, if_true, h.rl.o, rf_54 h.rl, rg_54 h.rl, Option.bind_some, zix, hl', zI_lit, zI_eq, zI_add, zI_div, zI_mul, zI_modn, zN_mod, hfor, bI_eq0]
      rw [if_neg (show ¬ S.ns + 1 < k by omega), if_neg (show ¬ S.ns + 1 = 0 by omega)]
      by_cases hg : S.gives m 2 ((lstA (S.lb m) (S.ns + 1) + k) % (S.ns + 1)) = true
      · rw [if_neg (by rw [hg]; decide), if_pos hg, oI_s]
        match fu, hf with
        | fu + 1, _ =>
          unfold f_Ref_moveAnswer_L21
          simp (disch := first | assumption | omega) only [zI_lt, ↓zm1, zI_ne_m, if_false, ite_self]
      · rw [if_pos (by simpa using hg), if_neg hg]
        exact ih (k + 1) fu (by omega) (by omega)
theorem r_ma187 {Γ : gm_T} {r n : Nat} (hn : n < 32) : ∀ (d j fu : Nat) (φ : ph_T), j + d = n → d < fu → RL Γ φ r → φ.1 r 47 = nI n →
    ∃ φ', f_Ref_moveAnswer_L187 Γ fu φ r (nI j) = some ((), φ') ∧ RFr r [36, 37, 38, 39] φ φ' ∧
      (∀ k, φ'.1 (r + 36) k = if j ≤ k ∧ k < n then φ.1 (r + 36) (k + 1) else φ.1 (r + 36) k) ∧
      (∀ k, φ'.1 (r + 37) k = if j ≤ k ∧ k < n then φ.1 (r + 37) (k + 1) else φ.1 (r + 37) k) ∧
      (∀ k, φ'.1 (r + 38) k = if j ≤ k ∧ k < n then φ.1 (r + 38) (k + 1) else φ.1 (r + 38) k) ∧
      (∀ k, φ'.1 (r + 39) k = if j ≤ k ∧ k < n then φ.1 (r + 39) (k + 1) else φ.1 (r + 39) k) := by
  intro d
  induction d with
  | zero =>
    intro j fu φ hd hfu hl hm
    match fu, hfu with
    | fu + 1, _ =>
      unfold f_Ref_moveAnswer_L187
      simp (disch := first | assumption | omega) only [hl.o, if_true, hm, zI_le]
      rw [if_pos (show n ≤ j by omega)]
      refine ⟨φ, rfl, RFr.refl _ _ _, fun k => ?_, fun k => ?_, fun k => ?_, fun k => ?_⟩ <;> rw [if_neg (by omega)]
  | succ d ih =>
    intro j fu φ hd hfu hl hm
    match fu, hfu with
    | fu + 1, hfu =>
      have fr : RFr r [36, 37, 38, 39] φ (uI (uI (uI (uI φ (r + 36) j (φ.1 (r + 36) (j + 1))) (r + 37) j (φ.1 (r + 37) (j + 1))) (r + 38) j (φ.1 (r + 38) (j + 1))) (r + 39) j (φ.1 (r + 39) (j + 1))) := by repeat (first | exact RFr.refl _ _ _ | refine RFr.uI ?_ (by decide) _ _ | refine RFr.uL ?_ (by decide) _ _ | refine rfr_uO ?_ (by decide) _ _)
      obtain ⟨φ', e, f, g1, g2, g3, g4⟩ := ih (j + 1) fu _ (by omega) (by omega) (hl.up (congrFun fr.1 r)) (by rw [fr.o (by decide)]; exact hm)
      refine ⟨φ', ?_, fr.trans f, fun k => ?_, fun k => ?_, fun k => ?_, fun k => ?_⟩
      · unfold f_Ref_moveAnswer_L187
        simp (disch := first | assumption | omega) only [hl.o, rf_43 hl, rg_43 hl, rf_44 hl, rg_44 hl, rf_45 hl, rg_45 hl, rf_46 hl, rg_46 hl, Option.bind_some, if_true, zix, hm, zI_lit, zI_le, zI_add, uI_s, uI_d, uI_2, uI_3, uL_1, uL_s, uL_d, uL_3]
        rw [if_neg (show ¬ n ≤ j by omega)]
        exact e
      · rw [g1]
        simp (disch := first | assumption | omega) only [uI_s, uI_d, uI_2, uI_3, uL_1, uL_s, uL_d, uL_3]
        simp only [vz_at]
        repeat' split
        all_goals first | rfl | omega | exact congrArg _ (by omega)
      · rw [g2]
        simp (disch := first | assumption | omega) only [uI_s, uI_d, uI_2, uI_3, uL_1, uL_s, uL_d, uL_3]
        simp only [vz_at]
        repeat' split
        all_goals first | rfl | omega | exact congrArg _ (by omega)
      · rw [g3]
        simp (disch := first | assumption | omega) only [uI_s, uI_d, uI_2, uI_3, uL_1, uL_s, uL_d, uL_3]
        simp only [vz_at]
        repeat' split
        all_goals first | rfl | omega | exact congrArg _ (by omega)
      · rw [g4]
        simp (disch := first | assumption | omega) only [uI_s, uI_d, uI_2, uI_3, uL_1, uL_s, uL_d, uL_3]
        simp only [vz_at]
        repeat' split
        all_goals first | rfl | omega | exact congrArg _ (by omega)
theorem VU.del {mas idd tg lef mas' idd' tg' lef' : aI} {l : List UE} (h : VU mas idd tg lef l) {j : Nat} (hj : j < l.length)
    (g1 : ∀ k, mas' k = if j ≤ k ∧ k < l.length - 1 then mas (k + 1) else mas k) (g2 : ∀ k, idd' k = if j ≤ k ∧ k < l.length - 1 then idd (k + 1) else idd k) (g3 : ∀ k, tg' k = if j ≤ k ∧ k < l.length - 1 then tg (k + 1) else tg k) (g4 : ∀ k, lef' k = if j ≤ k ∧ k < l.length - 1 then lef (k + 1) else lef k) : VU mas' idd' tg' lef' (l.eraseIdx j) := by
  have hlen : (l.eraseIdx j).length = l.length - 1 := List.length_eraseIdx_of_lt hj
  have hle := h.hle
  refine ⟨by omega, fun k x hx => ?_⟩
  have hk := llt hx
  rw [hlen] at hk
  rw [eI_get] at hx
  rw [g1, g2, g3, g4]
  by_cases hkj : k < j
  · rw [if_pos hkj] at hx
    rw [if_neg (by omega), if_neg (by omega), if_neg (by omega), if_neg (by omega)]
    exact h.hent k x hx
  · rw [if_neg hkj] at hx
    rw [if_pos (by omega), if_pos (by omega), if_pos (by omega), if_pos (by omega)]
    exact h.hent (k + 1) x hx
def pMid (m id : Nat) (u : UE) : Bool := decide (u.m = m) && decide (u.id = id)
theorem r_ma141 {Γ : gm_T} {φ : ph_T} {r : Nat} {S : XS} (h : RV Γ φ r S) (hU : ∀ u ∈ S.uw, u.m < 4 ∧ u.id < 16 ∧ u.tg < 5 ∧ u.left ≤ 16) {m id : Nat} {x : Int32} (hm : m < 4) (hid : id < 16) (hx : x &&& nI 15 = nI id) : ∀ d k j fu, k + d = j → fiF (pMid m id) S.uw k = some j → j < S.uw.length → d < fu →
    f_Ref_moveAnswer_L141 Γ fu φ r (nI m) x (nI k) = f_Ref_moveAnswer_L187 Γ jF (uI φ r 47 (nI (S.uw.length - 1))) r (nI j) := by
  have hle := h.uw.hle
  intro d
  induction d with
  | zero =>
    intro k j fu hd hf hj hfu
    match fu, hfu with
    | fu + 1, _ =>
      have hkj : k = j := by omega
      subst hkj
      obtain ⟨e, he⟩ := lget (l := S.uw) (t := k) hj
      have hv := h.uw.hent k e he
      have hb := hU e (lmem he)
      rw [fiF_step he] at hf
      have hp : pMid m id e = true := by
        by_cases hp : pMid m id e = true
        · exact hp
        · rw [if_neg hp] at hf
          unfold fiF at hf
          obtain ⟨y, _, hy2⟩ := Option.map_eq_some_iff.mp hf
          omega
      unfold pMid at hp
      simp only [Bool.and_eq_true, decide_eq_true_eq] at hp
      unfold f_Ref_moveAnswer_L141
      simp (disch := first | assumption | omega) only [h.rl.o, rf_43 h.rl, rg_43 h.rl, rf_44 h.rl, rg_44 h.rl, Option.bind_some, if_true, zix, hv, zI_lit, hx, zI_eq, hp, h.sc.wm, zI_sub]
  | succ d ih =>
    intro k j fu hd hf hj hfu
    match fu, hfu with
    | fu + 1, hfu =>
      obtain ⟨e, he⟩ := lget (l := S.uw) (t := k) (by omega)
      have hv := h.uw.hent k e he
      have hb := hU e (lmem he)
      rw [fiF_step he] at hf
      have hp : ¬ pMid m id e = true := by
        intro hp
        rw [if_pos hp] at hf
        cases hf
        omega
      rw [if_neg hp] at hf
      have ih' := ih (k + 1) j fu (by omega) hf hj (by omega)
      unfold f_Ref_moveAnswer_L141 f_Ref_moveAnswer_L167
      simp (disch := first | assumption | omega) only [h.rl.o, rf_43 h.rl, rg_43 h.rl, rf_44 h.rl, rg_44 h.rl, Option.bind_some, if_true, zix, hv, zI_lit, hx, zI_eq, zI_add, ih']
      unfold pMid at hp
      by_cases h1 : e.m = m
      · by_cases h2 : e.id = id
        · exact absurd (by simp [h1, h2]) hp
        · rw [if_pos h1, if_neg h2]
      · rw [if_neg h1]
theorem sub16 (x : Int32) (m : Nat) : (x - nI (16 * m)) &&& nI 15 = nI (rId x % 16) := by
  apply zI_inj
  rw [Int32.toBitVec_and, Int32.toBitVec_sub]
  apply BitVec.eq_of_toNat_eq
  rw [BitVec.toNat_and, BitVec.toNat_sub, zI_bv, zI_bv, zI_bv]
  simp only [BitVec.toNat_ofNat]
  unfold rId
  rw [show (15 % 2 ^ 32 : Nat) = 2 ^ 4 - 1 from rfl, Nat.and_two_pow_sub_one_eq_mod]
  have hx := x.toBitVec.isLt
  generalize x.toBitVec.toNat = y at hx
  omega
theorem VLast.setB {aw ar b g inn : aI} {S S' : XS} (h : VLast aw ar b g inn S) {t m : Nat} (q1 : S'.lb = va_up S.lb m (some t)) (q2 : S'.la = S.la) (q3 : S'.lr = S.lr) (q4 : S'.lg = S.lg) (q5 : S'.inb = S.inb) (q6 : S'.nm = S.nm) (q7 : S'.ns = S.ns) : VLast aw ar (va_up b m (nI t)) g inn S' := by
  refine ⟨fun u hu => ?_, fun u hu => ?_, fun u hu => ?_, fun u hu => ?_, fun u hu => ?_⟩
  · rw [q2, q6]; exact h.haw u hu
  · rw [q3, q6]; exact h.har u hu
  · rw [q1, q7, vz_at, vz_at]
    split
    · rfl
    · exact h.hb u hu
  · rw [q4, q7]; exact h.hg u hu
  · rw [q5]; exact h.hinn u hu
theorem movB_no {S : XS} {m : Nat} (h : S.hasRm (5 * m + 2) = false) : S.movB m = S := by unfold XS.movB; rw [if_pos h]
theorem movB_none {S : XS} {m : Nat} (h : S.giv m 2 (S.lb m) = none) : S.movB m = S := by
  unfold XS.movB
  split
  · rfl
  · rw [h]
theorem movB_some {S : XS} {m t : Nat} {e : RE} {l : List RE} (h0 : S.hasRm (5 * m + 2) = true) (h : S.giv m 2 (S.lb m) = some t) (hr : S.row (5 * (4 + t) + 2) = e :: l) :
    S.movB m = ((((S.drop (5 * (4 + t) + 2)).put (5 * m + 2) ⟨0, e.r - nI (16 * m), S.time⟩).w_lb (va_up S.lb m (some t))).w_uw (S.uw.eraseP (pMid m (rId e.r % 16)))) := by
  unfold XS.movB
  rw [if_neg (by rw [h0]; decide), h]
  simp only
  rw [hr]
  rfl
theorem r_ma71 {Γ : gm_T} {φ : ph_T} {r : Nat} {S : XS} (h : RV Γ φ r S) (hB : Bd S) {m t : Nat} {e : RE} {l : List RE} (hm : m < 4) (ht : t < 5) (h0 : S.hasRm (5 * m + 2) = true) (hr : S.row (5 * (4 + t) + 2) = e :: l) {j : Nat} (hj : S.uw.findIdx? (pMid m (rId e.r % 16)) = some j) :
    ∃ φ', f_Ref_moveAnswer_L71 Γ φ r (nI m) (nI (5 * m + 2)) (nI t) = some ((), φ') ∧ RV Γ φ' r ((((S.drop (5 * (4 + t) + 2)).put (5 * m + 2) ⟨0, e.r - nI (16 * m), S.time⟩).w_lb (va_up S.lb m (some t))).w_uw (S.uw.eraseP (pMid m (rId e.r % 16)))) ∧ RFr r [0, 32, 33, 34, 35, 36, 37, 38, 39, 45] φ φ' := by
  have hle := h.uw.hle
  have hrm := r_hasRoom h (i := 5 * m + 2) (by omega)
  have he := h.row.hent (5 * (4 + t) + 2) 0 e (by omega) (XS.row_at hr)
  simp only [Nat.add_zero] at he
  obtain ⟨u, hu, _, _⟩ := fi_some hj
  have hjl := llt hu
  obtain ⟨φ1, a1, a2, a3⟩ := r_take h (i := 5 * (4 + t) + 2) (by omega) (by rw [hr]; exact List.cons_ne_nil _ _)
  obtain ⟨φ2, b1, b2, b3⟩ := r_put a2 (i := 5 * m + 2) (by omega) (by rw [row_drop_ne (by omega)]; exact hasRm_lt h0) 0 (e.r - nI (16 * m)) S.time
  have htm : φ1.1 r 6 = nI S.time := a2.sc.time
  have f3 : RFr r [45] φ2 (uI φ2 (r + 45) m (nI t)) := by repeat (first | exact RFr.refl _ _ _ | refine RFr.uI ?_ (by decide) _ _ | refine RFr.uL ?_ (by decide) _ _ | refine rfr_uO ?_ (by decide) _ _)
  have h3 : RV Γ (uI φ2 (r + 45) m (nI t)) r (((S.drop (5 * (4 + t) + 2)).put (5 * m + 2) ⟨0, e.r - nI (16 * m), S.time⟩).w_lb (va_up S.lb m (some t))) := ⟨(RL.up b2.rl (congrFun f3.1 r)), (by rw [f3.o (by decide)]; exact ⟨b2.sc.nm, b2.sc.ns, b2.sc.lim, b2.sc.pol, b2.sc.whole, b2.sc.time, b2.sc.tk, b2.sc.wm, b2.sc.rm, b2.sc.db, b2.sc.er⟩), (by rw [f3.i 1 (by decide)]; exact b2.pg), (by rw [f3.i 2 (by decide)]; exact b2.mp), (by rw [f3.i 3 (by decide)]; exact b2.sp), (by rw [f3.i 4 (by decide)]; exact b2.ea), (by rw [f3.i 5 (by decide)]; exact b2.de), (by rw [f3.i 6 (by decide)]; exact b2.wa), (by rw [f3.i 7 (by decide), f3.i 8 (by decide)]; exact b2.me), (by rw [f3.i 9 (by decide), f3.i 10 (by decide), f3.i 11 (by decide), f3.i 12 (by decide), f3.i 13 (by decide), f3.i 14 (by decide), f3.i 15 (by decide), f3.i 16 (by decide), f3.i 17 (by decide), f3.i 18 (by decide), f3.i 20 (by decide), f3.i 21 (by decide), f3.i 22 (by decide), f3.i 23 (by decide), f3.i 24 (by decide), f3.l 19 (by decide), f3.l 25 (by decide)]; exact b2.tk), (by rw [f3.i 26 (by decide), f3.i 27 (by decide), f3.l 28 (by decide), f3.i 29 (by decide)]; exact b2.wi), (by rw [f3.i 31 (by decide)]; exact b2.tr), (by rw [f3.l 32 (by decide), f3.i 33 (by decide), f3.i 34 (by decide), f3.i 35 (by decide)]; exact b2.row), (by rw [f3.i 36 (by decide), f3.i 37 (by decide), f3.i 38 (by decide), f3.i 39 (by decide)]; exact b2.uw), (by rw [f3.i 40 (by decide), f3.i 41 (by decide), f3.i 42 (by decide)]; exact b2.ur), (by simp (disch := first | assumption | omega) only [uI_s, uI_d, uI_2, uI_3, uL_1, uL_s, uL_d, uL_3]; exact VLast.setB b2.la rfl rfl rfl rfl rfl rfl rfl), (by rw [f3.i 48 (by decide), f3.i 49 (by decide), f3.i 50 (by decide), f3.l 51 (by decide), f3.i 52 (by decide), f3.i 53 (by decide), f3.i 54 (by decide), f3.l 55 (by decide), f3.i 56 (by decide)]; exact b2.sw), (by rw [f3.i 57 (by decide), f3.i 58 (by decide), f3.i 59 (by decide), f3.l 60 (by decide), f3.i 61 (by decide), f3.i 62 (by decide), f3.i 63 (by decide), f3.l 64 (by decide), f3.i 65 (by decide)]; exact b2.sr), (by rw [f3.i 66 (by decide), f3.i 67 (by decide), f3.i 68 (by decide), f3.i 69 (by decide)]; exact ⟨b2.ch.hnums, b2.ch.hlat, b2.ch.hchb, b2.ch.hchr⟩), (by rw [f3.i 70 (by decide), f3.i 71 (by decide)]; exact b2.rg), (by unfold maOf; rw [f3.i 72 (by decide), f3.l 73 (by decide), f3.i 74 (by decide), f3.i 75 (by decide), f3.i 76 (by decide), f3.i 77 (by decide), f3.i 78 (by decide), f3.i 79 (by decide), f3.i 80 (by decide), f3.i 81 (by decide), f3.l 82 (by decide), f3.i 83 (by decide), f3.i 84 (by decide), f3.i 85 (by decide), f3.l 86 (by decide), f3.i 87 (by decide)]; exact b2.mo), (by rw [f3.i 88 (by decide), f3.i 89 (by decide), f3.l 90 (by decide), f3.i 91 (by decide)]; exact b2.wt)⟩
  have f4 : RFr r [0] (uI φ2 (r + 45) m (nI t)) (uI (uI φ2 (r + 45) m (nI t)) r 47 (nI (S.uw.length - 1))) := by repeat (first | exact RFr.refl _ _ _ | refine RFr.uI ?_ (by decide) _ _ | refine RFr.uL ?_ (by decide) _ _ | refine rfr_uO ?_ (by decide) _ _)
  obtain ⟨φ4, c1, c2, g1, g2, g3, g4⟩ := r_ma187 (Γ := Γ) (r := r) (n := S.uw.length - 1) (by omega) (S.uw.length - 1 - j) j jF (uI (uI φ2 (r + 45) m (nI t)) r 47 (nI (S.uw.length - 1))) (by omega) (by unfold jF; omega) (h3.rl.up rfl) (by rw [uI_s, vz_same])
  rw [f4.i 36 (by decide)] at g1
  rw [f4.i 37 (by decide)] at g2
  rw [f4.i 38 (by decide)] at g3
  rw [f4.i 39 (by decide)] at g4
  have hv := VU.del h3.uw hjl g1 g2 g3 g4
  have f5 : RFr r [0, 36, 37, 38, 39] (uI φ2 (r + 45) m (nI t)) φ4 := (f4.mono (by decide)).trans (c2.mono (by decide))
  have hers : S.uw.eraseP (pMid m (rId e.r % 16)) = S.uw.eraseIdx j := by rw [List.eraseP_eq_eraseIdx, hj]
  refine ⟨φ4, ?_, ?_, (((a3.mono (by decide)).trans (b3.mono (by decide))).trans (f3.mono (by decide))).trans (f5.mono (by decide))⟩
  · have hL := r_ma141 h3 hB.uw (x := e.r - nI (16 * m)) hm (id := rId e.r % 16) (Nat.mod_lt _ (by omega)) (sub16 e.r m) j 0 j jF (Nat.zero_add _) (by rw [fiF_0]; exact hj) hjl (by unfold jF; omega)
    unfold f_Ref_moveAnswer_L71
    rw [if_neg (show ¬ nI t = -1 from zI_ne_m1 (by omega)), if_pos h.rl.o, hrm, Option.bind_some, if_neg (show ¬ bI (S.hasRm (5 * m + 2)) = 0 by rw [h0]; decide)]
    have w2 : f_Ref_rowOf Γ φ r 1 (nI t) 2 = some (nI (5 * (4 + t) + 2), φ) := e_rowOf1 Γ φ r t 2
    rw [w2, Option.bind_some, rf_40 h.rl, Option.bind_some, rg_40 h.rl, Option.bind_some, show (4 : Int32) * nI (5 * (4 + t) + 2) = nI (4 * (5 * (4 + t) + 2)) from zI_mul 4 _, zix (show 4 * (5 * (4 + t) + 2) < 180 by omega), Option.bind_some, a1, Option.bind_some, he.2.1, htm, show (16 : Int32) * nI m = nI (16 * m) from zI_mul 16 m, b1, Option.bind_some, rf_54 b2.rl, Option.bind_some, rg_54 b2.rl, Option.bind_some, zix (show m < 4 by omega), Option.bind_some, zI_0, hL]
    exact c1
  · rw [hers]
    exact ⟨(RL.up h3.rl (congrFun f5.1 r)), (by
      have e1 : φ4.1 r = va_up ((uI φ2 (r + 45) m (nI t)).1 r) 47 (nI (S.uw.length - 1)) := by rw [c2.o (by decide), uI_s]
      rw [e1]
      exact ⟨h3.sc.nm, h3.sc.ns, h3.sc.lim, h3.sc.pol, h3.sc.whole, h3.sc.time, h3.sc.tk, (by rw [vz_same]; show _ = nI (S.uw.eraseIdx j).length; rw [List.length_eraseIdx_of_lt hjl]), h3.sc.rm, h3.sc.db, h3.sc.er⟩), (by rw [f5.i 1 (by decide)]; exact h3.pg), (by rw [f5.i 2 (by decide)]; exact h3.mp), (by rw [f5.i 3 (by decide)]; exact h3.sp), (by rw [f5.i 4 (by decide)]; exact h3.ea), (by rw [f5.i 5 (by decide)]; exact h3.de), (by rw [f5.i 6 (by decide)]; exact h3.wa), (by rw [f5.i 7 (by decide), f5.i 8 (by decide)]; exact h3.me), (by rw [f5.i 9 (by decide), f5.i 10 (by decide), f5.i 11 (by decide), f5.i 12 (by decide), f5.i 13 (by decide), f5.i 14 (by decide), f5.i 15 (by decide), f5.i 16 (by decide), f5.i 17 (by decide), f5.i 18 (by decide), f5.i 20 (by decide), f5.i 21 (by decide), f5.i 22 (by decide), f5.i 23 (by decide), f5.i 24 (by decide), f5.l 19 (by decide), f5.l 25 (by decide)]; exact h3.tk), (by rw [f5.i 26 (by decide), f5.i 27 (by decide), f5.l 28 (by decide), f5.i 29 (by decide)]; exact h3.wi), (by rw [f5.i 31 (by decide)]; exact h3.tr), (by rw [f5.l 32 (by decide), f5.i 33 (by decide), f5.i 34 (by decide), f5.i 35 (by decide)]; exact h3.row), hv, (by rw [f5.i 40 (by decide), f5.i 41 (by decide), f5.i 42 (by decide)]; exact h3.ur), (by rw [f5.i 43 (by decide), f5.i 44 (by decide), f5.i 45 (by decide), f5.i 46 (by decide), f5.i 47 (by decide)]; exact ⟨h3.la.haw, h3.la.har, h3.la.hb, h3.la.hg, h3.la.hinn⟩), (by rw [f5.i 48 (by decide), f5.i 49 (by decide), f5.i 50 (by decide), f5.l 51 (by decide), f5.i 52 (by decide), f5.i 53 (by decide), f5.i 54 (by decide), f5.l 55 (by decide), f5.i 56 (by decide)]; exact h3.sw), (by rw [f5.i 57 (by decide), f5.i 58 (by decide), f5.i 59 (by decide), f5.l 60 (by decide), f5.i 61 (by decide), f5.i 62 (by decide), f5.i 63 (by decide), f5.l 64 (by decide), f5.i 65 (by decide)]; exact h3.sr), (by rw [f5.i 66 (by decide), f5.i 67 (by decide), f5.i 68 (by decide), f5.i 69 (by decide)]; exact ⟨h3.ch.hnums, h3.ch.hlat, h3.ch.hchb, h3.ch.hchr⟩), (by rw [f5.i 70 (by decide), f5.i 71 (by decide)]; exact h3.rg), (by unfold maOf; rw [f5.i 72 (by decide), f5.l 73 (by decide), f5.i 74 (by decide), f5.i 75 (by decide), f5.i 76 (by decide), f5.i 77 (by decide), f5.i 78 (by decide), f5.i 79 (by decide), f5.i 80 (by decide), f5.i 81 (by decide), f5.l 82 (by decide), f5.i 83 (by decide), f5.i 84 (by decide), f5.i 85 (by decide), f5.l 86 (by decide), f5.i 87 (by decide)]; exact h3.mo), (by rw [f5.i 88 (by decide), f5.i 89 (by decide), f5.l 90 (by decide), f5.i 91 (by decide)]; exact h3.wt)⟩
theorem gives_row {S : XS} {m c t : Nat} (h : S.gives m c t = true) : ∃ e l, S.row (5 * (4 + t) + c) = e :: l := by
  cases hr : S.row (5 * (4 + t) + c) with
  | nil => unfold XS.gives at h; rw [hr] at h; cases h
  | cons e l => exact ⟨e, l, rfl⟩
theorem r_movB {Γ : gm_T} {φ : ph_T} {r : Nat} {S : XS} (h : RV Γ φ r S) (hB : Bd S) {m : Nat} (hm : m < 4) (hf : ∀ t e l, S.giv m 2 (S.lb m) = some t → S.row (5 * (4 + t) + 2) = e :: l → ∃ j, S.uw.findIdx? (pMid m (rId e.r % 16)) = some j) :
    ∃ φ', f_Ref_moveAnswer Γ φ r (nI m) = some ((), φ') ∧ RV Γ φ' r (S.movB m) ∧ RFr r [0, 32, 33, 34, 35, 36, 37, 38, 39, 45] φ φ' := by
  have hns := hB.ns
  have w0 : f_Ref_rowOf Γ φ r 0 (nI m) 2 = some (nI (5 * m + 2), φ) := e_rowOf0 Γ φ r m 2
  have hrm := r_hasRoom h (i := 5 * m + 2) (by omega)
  have e21 := r_ma21 h hB (row := 5 * m + 2) hm (S.ns + 1) 1 jF (by omega) (by unfold jF; omega)
  rw [← giv_eq] at e21
  unfold f_Ref_moveAnswer
  rw [if_pos h.rl.o, w0, Option.bind_some, h.sc.ns, show nI S.ns + (1 : Int32) = nI (S.ns + 1) from zI_add S.ns 1, zm1, zI_1, e21]
  cases hg : S.giv m 2 (S.lb m) with
  | none =>
    rw [movB_none hg, oI_n]
    unfold f_Ref_moveAnswer_L71 f_Ref_moveAnswer_L85
    rw [if_pos (show m1 = -1 from rfl)]
    exact ⟨φ, rfl, h, RFr.refl _ _ _⟩
  | some t =>
    rw [oI_s]
    have hgt := hg
    rw [giv_eq] at hgt
    obtain ⟨hgv, htn⟩ := givF_some hgt
    obtain ⟨e, l, hr⟩ := gives_row hgv
    by_cases h0 : S.hasRm (5 * m + 2) = true
    · rw [movB_some h0 hg hr]
      obtain ⟨j, hj⟩ := hf t e l hg hr
      exact r_ma71 h hB hm (by omega) h0 hr hj
    · have h0' : S.hasRm (5 * m + 2) = false := by simpa using h0
      rw [movB_no h0']
      unfold f_Ref_moveAnswer_L71 f_Ref_moveAnswer_L85
      rw [if_neg (show ¬ nI t = -1 from zI_ne_m1 (by omega)), if_pos h.rl.o, hrm, Option.bind_some, if_pos (show bI (S.hasRm (5 * m + 2)) = 0 by rw [h0']; rfl)]
      exact ⟨φ, rfl, h, RFr.refl _ _ _⟩
