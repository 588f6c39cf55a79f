/-! THE REFERENCE moves data -/
def dn (k : Nat) : Int32 := match k with
  | 0 => m1
  | k + 1 => nI k
theorem dn_s (k : Nat) : nI k + m1 = dn k := by
  cases k with
  | zero => decide
  | succ k =>
    show nI (k + 1) + m1 = nI k
    have : nI (k + 1) = nI k + nI 1 := (zI_add k 1).symm
    rw [this, Int32.add_assoc, show nI 1 + m1 = 0 from by decide, Int32.add_zero]
theorem dn_l (n : Nat) : nI n - nI 1 = dn n := by
  cases n with
  | zero => decide
  | succ k => exact zI_sub (by omega)
theorem dn_0 : (dn 0 < nI 0) = True := eq_true (by decide)
theorem dn_p {k : Nat} (h : k < 2 ^ 31) : (dn (k + 1) < nI 0) = False := eq_false (zI_nneg h)
def pOwn (m : Nat) (e : UE) : Bool := decide (e.m = m) && decide (0 < e.left)
def pTgt (t : Nat) (e : UE) : Bool := decide (e.tg = t) && decide (0 < e.left)
theorem r_md18 {Γ : gm_T} {φ : ph_T} {r : Nat} {S : XS} (h : RV Γ φ r S) (hB : Bd S) {m row : Nat} (hm : m < 4) : ∀ k fu, k ≤ S.uw.length → k < fu →
    ∃ fu', f_Ref_moveData_L18 Γ fu φ r (nI m) (nI row) (oI (fiF (pOwn m) S.uw k) m1) (dn k) = f_Ref_moveData_L18 Γ (fu' + 1) φ r (nI m) (nI row) (oI (S.uw.findIdx? (pOwn m)) m1) (dn 0) := by
  have hle := h.uw.hle
  intro k
  induction k with
  | zero =>
    intro fu _ hf
    match fu, hf with
    | fu + 1, _ => exact ⟨fu, by rw [fiF_0]⟩
  | succ k ih =>
    intro fu hk hf
    match fu, hf with
    | fu + 1, hf =>
      obtain ⟨e, he⟩ := lget (l := S.uw) (t := k) (by omega)
      have hv := h.uw.hent k e he
      have hb := hB.uw e (lmem he)
      obtain ⟨fu', hfu⟩ := ih fu (by omega) (by omega)
      refine ⟨fu', ?_⟩
      rw [← hfu, fiF_step he]
      conv => lhs; unfold f_Ref_moveData_L18
      unfold f_Ref_moveData_L49 f_Ref_moveData_L50
      have hdk : dn (k + 1) = nI k := rfl
      have hneg : (nI k < nI 0) = False := dn_p (by omega)
      simp (disch := first | assumption | omega) only [zI_lit, hneg, if_false, h.rl.o, if_true, rf_43 h.rl, rg_43 h.rl, rf_46 h.rl, rg_46 h.rl, Option.bind_some, hdk, zix, hv, zI_eq, zI_le, ↓zm1, dn_s]
      unfold pOwn
      by_cases h1 : e.m = m
      · by_cases h2 : e.left ≤ 0
        · simp [h1, h2, show ¬ 0 < e.left by omega]
        · simp [h1, h2, show 0 < e.left by omega, oI]
      · simp [h1]
theorem r_md83 {Γ : gm_T} {φ : ph_T} {r : Nat} {S : XS} (h : RV Γ φ r S) (hB : Bd S) {row o : Nat} {u : UE} (hu : S.uw[o]? = some u) : ∀ k fu, k ≤ S.uw.length → k < fu →
    ∃ fu', f_Ref_moveData_L83 Γ fu φ r (nI row) (nI o) (oI (fiF (pTgt u.tg) S.uw k) m1) (dn k) = f_Ref_moveData_L83 Γ (fu' + 1) φ r (nI row) (nI o) (oI (S.uw.findIdx? (pTgt u.tg)) m1) (dn 0) := by
  have hle := h.uw.hle
  have ho := llt hu
  have hvu := h.uw.hent o u hu
  have hbu := hB.uw u (lmem hu)
  intro k
  induction k with
  | zero =>
    intro fu _ hf
    match fu, hf with
    | fu + 1, _ => exact ⟨fu, by rw [fiF_0]⟩
  | succ k ih =>
    intro fu hk hf
    match fu, hf with
    | fu + 1, hf =>
      obtain ⟨e, he⟩ := lget (l := S.uw) (t := k) (by omega)
      have hv := h.uw.hent k e he
      have hb := hB.uw e (lmem he)
      obtain ⟨fu', hfu⟩ := ih fu (by omega) (by omega)
      refine ⟨fu', ?_⟩
      rw [← hfu, fiF_step he]
      conv => lhs; unfold f_Ref_moveData_L83
      unfold f_Ref_moveData_L119 f_Ref_moveData_L121
      have hdk : dn (k + 1) = nI k := rfl
      have hneg : (nI k < nI 0) = False := dn_p (by omega)
      simp (disch := first | assumption | omega) only [zI_lit, hneg, if_false, h.rl.o, if_true, rf_45 h.rl, rg_45 h.rl, rf_46 h.rl, rg_46 h.rl, Option.bind_some, hdk, zix, hv, hvu, zI_eq, zI_le, ↓zm1, dn_s]
      unfold pTgt
      by_cases h1 : e.tg = u.tg
      · by_cases h2 : e.left ≤ 0
        · simp [h1, h2, show ¬ 0 < e.left by omega]
        · simp [h1, h2, show 0 < e.left by omega, oI]
      · simp [h1]
theorem VU.dec {mas idd tg lef : aI} {l : List UE} (h : VU mas idd tg lef l) {k : Nat} {u : UE} (hu : l[k]? = some u) (v : Nat) : VU mas idd tg (va_up lef k (nI v)) (l.set k (u.w_left (v))) := by
  have hk := llt hu
  refine ⟨by rw [List.length_set]; exact h.hle, fun j x hx => ?_⟩
  by_cases hj : j = k
  · subst hj
    rw [List.getElem?_set_self hk] at hx
    cases hx
    have := h.hent j u hu
    exact ⟨this.1, this.2.1, this.2.2.1, vz_same _ _ _⟩
  · rw [List.getElem?_set_ne (Ne.symm hj)] at hx
    have := h.hent j x hx
    rw [vz_at, if_neg hj]
    exact this
theorem r_movD {Γ : gm_T} {φ : ph_T} {r : Nat} {S : XS} (h : RV Γ φ r S) (hB : Bd S) {m : Nat} (hm : m < 4) :
    ∃ φ', f_Ref_moveData Γ φ r (nI m) = some ((), φ') ∧ RV Γ φ' r (S.movD m) ∧ RFr r [32, 33, 34, 35, 39] φ φ' := by
  have hle := h.uw.hle
  have h4 := roomN_le ((5 * m + 1) % 5)
  have h5 := h.row.hle (5 * m + 1) (by omega)
  have hmm := h.row.hmany (5 * m + 1) (by omega)
  unfold f_Ref_moveData
  simp only [h.rl.o, if_true, zI_lit, e_rowOf0, Option.bind_some, h.sc.wm, dn_l, ↓zm1]
  have hs : (oI (fiF (pOwn m) S.uw S.uw.length) m1) = m1 := by rw [fiF_end (Nat.le_refl _)]; rfl
  obtain ⟨fu1, e1⟩ := r_md18 h hB (row := 5 * m + 1) hm S.uw.length jF (Nat.le_refl _) (by unfold jF; omega)
  rw [hs] at e1
  rw [e1]
  unfold f_Ref_moveData_L18 f_Ref_moveData_L71
  simp (disch := first | assumption | omega) only [zI_lit, dn_0, if_true, h.rl.o, rf_42 h.rl, rg_42 h.rl, Option.bind_some, zix, hmm, zI_eq, ↓zm1, h.sc.wm, dn_l]
  have hpo : (fun e : UE => decide (e.m = m) && decide (0 < e.left)) = pOwn m := rfl
  cases hrow : S.row (5 * m + 1) with
  | nil =>
    have hS : S.movD m = S := by unfold XS.movD; rw [hrow]
    rw [hS, if_pos (by simp)]
    exact ⟨φ, rfl, h, RFr.refl _ _ _⟩
  | cons e l =>
    rw [if_neg (by simp)]
    have he := h.row.hent (5 * m + 1) 0 e (by omega) (XS.row_at hrow)
    simp only [Nat.add_zero] at he
    cases hf : S.uw.findIdx? (pOwn m) with
    | none =>
      have hS : S.movD m = S := by unfold XS.movD; rw [hrow, hpo, hf]
      rw [hS]
      simp only [oI_n, if_true]
      exact ⟨φ, rfl, h, RFr.refl _ _ _⟩
    | some k =>
      obtain ⟨u, hu, _, hpu⟩ := fi_some hf
      have hk := llt hu
      have hvu := h.uw.hent k u hu
      have hbu := hB.uw u (lmem hu)
      have hleft : 0 < u.left := by unfold pOwn at hpu; simp only [Bool.and_eq_true, decide_eq_true_eq] at hpu; exact hpu.2
      rw [oI_s, if_neg (show ¬ nI k = m1 from zI_ne_m1 (by omega))]
      have hs2 : (oI (fiF (pTgt u.tg) S.uw S.uw.length) m1) = m1 := by rw [fiF_end (Nat.le_refl _)]; rfl
      obtain ⟨fu2, e2⟩ := r_md83 h hB (row := 5 * m + 1) hu S.uw.length jF (Nat.le_refl _) (by unfold jF; omega)
      rw [hs2] at e2
      rw [e2]
      unfold f_Ref_moveData_L83 f_Ref_moveData_L199
      have hrm := r_hasRoom h (i := 5 * (4 + u.tg) + 1) (by omega)
      simp (disch := first | assumption | omega) only [zI_lit, dn_0, if_true, h.rl.o, rf_45 h.rl, rg_45 h.rl, Option.bind_some, zix, hvu, e_rowOf1, hrm, bI_eq0]
      have hpt : (fun x : UE => decide (x.tg = u.tg) && decide (0 < x.left)) = pTgt u.tg := rfl
      by_cases hfirst : S.uw.findIdx? (pTgt u.tg) = some k
      · rw [hfirst, oI_s, if_pos rfl]
        cases hroom : S.hasRm (5 * (4 + u.tg) + 1) with
        | false =>
          have hS : S.movD m = S := by
            unfold XS.movD
            rw [hrow, hpo, hf]
            simp only [hu, hroom, Bool.false_eq_true, false_and, if_false]
          rw [hS]
          simp only [if_true]
          exact ⟨φ, rfl, h, RFr.refl _ _ _⟩
        | true =>
          have hS : S.movD m = ((S.put (5 * (4 + u.tg) + 1) ⟨e.c, e.r, S.time⟩).drop (5 * m + 1)).w_uw (S.uw.set k (u.w_left (u.left - 1))) := by
            unfold XS.movD
            rw [hrow, hpo, hf]
            simp only [hu]
            rw [hpt, if_pos ⟨hroom, hfirst⟩]
          rw [hS]
          simp only [Bool.true_eq_false, if_false]
          have hlt : (S.row (5 * (4 + u.tg) + 1)).length < roomN ((5 * (4 + u.tg) + 1) % 5) := by unfold XS.hasRm at hroom; simpa using hroom
          obtain ⟨φ1, a1, a2, a3⟩ := r_put h (i := 5 * (4 + u.tg) + 1) (by omega) hlt e.c e.r S.time
          have hne : (S.put (5 * (4 + u.tg) + 1) ⟨e.c, e.r, S.time⟩).row (5 * m + 1) ≠ [] := by
            unfold XS.put XS.setRow
            rw [XS.row_w_row, vz_ne _ (by omega), hrow]
            exact List.cons_ne_nil _ _
          obtain ⟨φ2, b1, b2, b3⟩ := r_take a2 (i := 5 * m + 1) (by omega) hne
          have hl2 : φ2.1 (r + 39) k = nI u.left := (b2.uw.hent k u hu).2.2.2
          simp (disch := first | assumption | omega) only [rf_39 h.rl, rg_39 h.rl, rf_40 h.rl, rg_40 h.rl, Option.bind_some, zI_mul, zix, he, h.sc.time, a1, b1, rf_46 b2.rl, rg_46 b2.rl, hl2, zI_sub]
          have hv := VU.dec b2.uw hu (u.left - 1)
          have f : RFr r [39] φ2 (uI φ2 (r + 39) k (nI (u.left - 1))) := by repeat (first | exact RFr.refl _ _ _ | refine RFr.uI ?_ (by decide) _ _ | refine RFr.uL ?_ (by decide) _ _ | refine rfr_uO ?_ (by decide) _ _)
          refine ⟨_, rfl, ?_, ((a3.mono (by decide)).trans (b3.mono (by decide))).trans (f.mono (by decide))⟩
          have hsc : (uI φ2 (r + 39) k (nI (u.left - 1))).1 r = φ2.1 r := f.o (by decide)
          exact ⟨(RL.up b2.rl (congrFun f.1 r)), (by rw [hsc]; exact ⟨b2.sc.nm, b2.sc.ns, b2.sc.lim, b2.sc.pol, b2.sc.whole, b2.sc.time, b2.sc.tk, (by show _ = nI (S.uw.set k _).length; rw [List.length_set]; exact b2.sc.wm), b2.sc.rm, b2.sc.db, b2.sc.er⟩), (by rw [f.i 1 (by decide)]; exact b2.pg), (by rw [f.i 2 (by decide)]; exact b2.mp), (by rw [f.i 3 (by decide)]; exact b2.sp), (by rw [f.i 4 (by decide)]; exact b2.ea), (by rw [f.i 5 (by decide)]; exact b2.de), (by rw [f.i 6 (by decide)]; exact b2.wa), (by rw [f.i 7 (by decide), f.i 8 (by decide)]; exact b2.me), (by rw [f.i 9 (by decide), f.i 10 (by decide), f.i 11 (by decide), f.i 12 (by decide), f.i 13 (by decide), f.i 14 (by decide), f.i 15 (by decide), f.i 16 (by decide), f.i 17 (by decide), f.i 18 (by decide), f.i 20 (by decide), f.i 21 (by decide), f.i 22 (by decide), f.i 23 (by decide), f.i 24 (by decide), f.l 19 (by decide), f.l 25 (by decide)]; exact b2.tk), (by rw [f.i 26 (by decide), f.i 27 (by decide), f.l 28 (by decide), f.i 29 (by decide)]; exact b2.wi), (by rw [f.i 31 (by decide)]; exact b2.tr), (by rw [f.l 32 (by decide), f.i 33 (by decide), f.i 34 (by decide), f.i 35 (by decide)]; exact b2.row), (by simp (disch := first | assumption | omega) only [uI_s, uI_d, uI_2, uI_3, uL_1, uL_s, uL_d, uL_3]; exact hv), (by rw [f.i 40 (by decide), f.i 41 (by decide), f.i 42 (by decide)]; exact b2.ur), (by rw [f.i 43 (by decide), f.i 44 (by decide), f.i 45 (by decide), f.i 46 (by decide), f.i 47 (by decide)]; exact ⟨b2.la.haw, b2.la.har, b2.la.hb, b2.la.hg, b2.la.hinn⟩), (by rw [f.i 48 (by decide), f.i 49 (by decide), f.i 50 (by decide), f.l 51 (by decide), f.i 52 (by decide), f.i 53 (by decide), f.i 54 (by decide), f.l 55 (by decide), f.i 56 (by decide)]; exact b2.sw), (by rw [f.i 57 (by decide), f.i 58 (by decide), f.i 59 (by decide), f.l 60 (by decide), f.i 61 (by decide), f.i 62 (by decide), f.i 63 (by decide), f.l 64 (by decide), f.i 65 (by decide)]; exact b2.sr), (by rw [f.i 66 (by decide), f.i 67 (by decide), f.i 68 (by decide), f.i 69 (by decide)]; exact ⟨b2.ch.hnums, b2.ch.hlat, b2.ch.hchb, b2.ch.hchr⟩), (by rw [f.i 70 (by decide), f.i 71 (by decide)]; exact b2.rg), (by unfold maOf; rw [f.i 72 (by decide), f.l 73 (by decide), f.i 74 (by decide), f.i 75 (by decide), f.i 76 (by decide), f.i 77 (by decide), f.i 78 (by decide), f.i 79 (by decide), f.i 80 (by decide), f.i 81 (by decide), f.l 82 (by decide), f.i 83 (by decide), f.i 84 (by decide), f.i 85 (by decide), f.l 86 (by decide), f.i 87 (by decide)]; exact b2.mo), (by rw [f.i 88 (by decide), f.i 89 (by decide), f.l 90 (by decide), f.i 91 (by decide)]; exact b2.wt)⟩
      · have hS : S.movD m = S := by
          unfold XS.movD
          rw [hrow, hpo, hf]
          simp only [hu]
          rw [hpt, if_neg (fun hx => hfirst hx.2)]
        rw [hS]
        have hno : ¬ oI (S.uw.findIdx? (pTgt u.tg)) m1 = nI k := by
          cases hx : S.uw.findIdx? (pTgt u.tg) with
          | none => rw [oI_n]; exact fun hc => zI_ne_m1 (show k < 2 ^ 31 by omega) hc.symm
          | some j =>
            obtain ⟨w, hw, _, _⟩ := fi_some hx
            have hj := llt hw
            rw [oI_s, zI_eq (by omega) (by omega)]
            intro hc
            rw [hc] at hx
            exact hfirst hx
        rw [if_neg hno]
        exact ⟨φ, rfl, h, RFr.refl _ _ _⟩
