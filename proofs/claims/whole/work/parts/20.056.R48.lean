/-! THE REFERENCE's STEP: wires are shown and watched -/
theorem r_isPort {Γ : gm_T} {φ : ph_T} {r : Nat} {S : XS} (h : RV Γ φ r S) (hn : S.nm ≤ 4 ∧ S.ns ≤ 4) {p : Nat} (hp : p < 8) : f_Ref_isPort Γ φ r (nI p) = some (bI (S.isP p), φ) := by
  unfold f_Ref_isPort f_Ref_isPort_L36 XS.isP
  rw [z4, zI_0, zI_1]
  simp only [h.rl.o, if_true, h.sc.ns, h.sc.nm, z_or0, z_or1, true_or, or_true]
  by_cases h4 : 4 ≤ p
  · rw [if_pos (by rw [zI_le (by omega) (by omega)]; exact h4), if_pos h4, zI_sub h4]
    by_cases hx : p - 4 < S.ns
    · rw [if_neg (by rw [zI_le (by omega) (by omega)]; omega), decide_eq_true hx]
      rfl
    · rw [if_pos (by rw [zI_le (by omega) (by omega)]; omega), decide_eq_false hx]
      rfl
  · rw [if_neg (by rw [zI_le (by omega) (by omega)]; omega), if_neg h4]
    by_cases hx : p < S.nm
    · rw [if_neg (by rw [zI_le (by omega) (by omega)]; omega), decide_eq_true hx]
      rfl
    · rw [if_pos (by rw [zI_le (by omega) (by omega)]; omega), decide_eq_false hx]
      rfl
def He (φ : ph_T) (r : Nat) (S : XS) : Prop := ∀ j, j < 40 → φ.1 (r + 30) j = bI (S.hdP j)
theorem He.at {φ : ph_T} {r : Nat} {S : XS} (h : He φ r S) {p c : Nat} (hp : p < 8) (hc : c < 5) (hP : S.isP p = true) : φ.1 (r + 30) (5 * p + c) = bI (hdW (S.wi p) c) := by
  rw [h (5 * p + c) (by omega)]
  unfold XS.hdP
  rw [show (5 * p + c) / 5 = p by omega, show (5 * p + c) % 5 = c by omega, hP, Bool.true_and]
/-- what a tick needs of the state to show its wires -/
def ShI (S : XS) : Prop := (Bd S) ∧ (∀ m, m < S.nm → InvA S m 0 true) ∧ (∀ m, m < S.nm → InvA S m 3 false) ∧ (∀ m, m < S.nm → InvD S m) ∧ (∀ s, s < S.ns → InvB S s) ∧ (∀ s, s < S.ns → InvR S s) ∧ (∀ p, p < 8 → ∀ e ∈ (S.mon p).rs, e.n < leN e.con)
theorem ShI.bd {S : XS} (h : ShI S) : Bd S := h.1
theorem ShI.a0 {S : XS} (h : ShI S) : ∀ m, m < S.nm → InvA S m 0 true := h.2.1
theorem ShI.a3 {S : XS} (h : ShI S) : ∀ m, m < S.nm → InvA S m 3 false := h.2.2.1
theorem ShI.d {S : XS} (h : ShI S) : ∀ m, m < S.nm → InvD S m := h.2.2.2.1
theorem ShI.b {S : XS} (h : ShI S) : ∀ s, s < S.ns → InvB S s := h.2.2.2.2.1
theorem ShI.r {S : XS} (h : ShI S) : ∀ s, s < S.ns → InvR S s := h.2.2.2.2.2.1
theorem ShI.mo {S : XS} (h : ShI S) : ∀ p, p < 8 → ∀ e ∈ (S.mon p).rs, e.n < leN e.con := h.2.2.2.2.2.2
theorem r_st2 {Γ : gm_T} {r : Nat} {S : XS} (hI : ShI S) : ∀ (d k fu : Nat) (φ : ph_T), k + d = S.nm → d < fu → RV Γ φ r (S.shA k) → He φ r S →
    ∃ φ', f_Ref_step_L2 Γ fu φ r (nI k) = f_Ref_step_L23 Γ jF φ' r (nI 0) ∧ RV Γ φ' r (S.shA S.nm) ∧ RFr r [26, 27, 28, 29] φ φ' := by
  have hB := hI.bd
  have hnm := hB.nm
  have hti := hB.time
  intro d
  induction d with
  | zero =>
    intro k fu φ hd hfu h hh
    match fu, hfu with
    | fu + 1, _ =>
      have hk : k = S.nm := by omega
      subst hk
      refine ⟨φ, ?_, h, RFr.refl _ _ _⟩
      have e1 : φ.1 r 1 = nI S.nm := h.sc.nm
      rw [f_Ref_step_L2, if_pos h.rl.o, e1, if_pos (Int32.le_refl _), zI_0]
  | succ d ih =>
    intro k fu φ hd hfu h hh
    match fu, hfu with
    | fu + 1, hfu =>
      have e1 : φ.1 r 1 = nI S.nm := h.sc.nm
      have ew : (S.shA k).wi k = S.wi k := if_neg (Nat.lt_irrefl k)
      have hP : S.isP k = true := by unfold XS.isP; rw [if_neg (by omega), decide_eq_true (by omega)]
      obtain ⟨φ1, a1, a2, a3⟩ := r_showMaster h (m := k) (by omega) (hB.mpat k) (show S.time < 2 ^ 31 by omega) (fun c hc => by rw [ew]; exact hh.at (by omega) hc hP) (by unfold InvA; rw [ew]; exact hI.a0 k (by omega)) (by unfold InvA; rw [ew]; exact hI.a3 k (by omega)) (by unfold InvD; rw [ew]; exact hI.d k (by omega))
      have hS : (S.shA k).at k ((S.shA k).showM k) = S.shA (k + 1) := by
        have : (S.shA k).showM k = S.showM k := showM_wi S _ k (if_neg (Nat.lt_irrefl k))
        rw [this]
        unfold XS.at XS.shA
        rw [XS.w_wi_w_wi]
        congr 1
        funext p
        rw [vz_at]
        by_cases hp : p = k
        · subst hp
          rw [if_pos rfl, if_pos (by omega)]
        · rw [if_neg hp]
          by_cases hp2 : p < k
          · rw [if_pos (show p < k + 1 by omega)]
            exact if_pos hp2
          · rw [if_neg (show ¬ p < k + 1 by omega)]
            exact if_neg hp2
      rw [hS] at a2
      obtain ⟨φ', b1, b2, b3⟩ := ih (k + 1) fu φ1 (by omega) (by omega) a2 (fun j hj => by rw [a3.i 30 (by decide)]; exact hh j hj)
      refine ⟨φ', ?_, b2, a3.trans b3⟩
      rw [f_Ref_step_L2, if_pos h.rl.o, e1, if_neg (by rw [zI_le (by omega) (by omega)]; omega), a1, Option.bind_some, zI_1, zI_add]
      exact b1
theorem shB_0 (S : XS) : S.shB 0 = S.shA S.nm := by
  unfold XS.shB XS.shA
  have h1 : (fun p => if p < S.nm then S.showM p else if 4 ≤ p ∧ p < 4 + 0 then S.showS (p - 4) else S.wi p) = (fun p => if p < S.nm then S.showM p else S.wi p) := by
    funext p
    rw [if_neg (show ¬ (4 ≤ p ∧ p < 4 + 0) by omega)]
  have h2 : (fun s => if s < 0 then S.chB' s else S.chb s) = S.chb := by
    funext s
    rw [if_neg (by omega)]
  have h3 : (fun s => if s < 0 then S.chR' s else S.chr s) = S.chr := by
    funext s
    rw [if_neg (by omega)]
  rw [h1, h2, h3]
  exact (congrArg (fun X : XS => X.w_chr S.chr) (XS.w_chb_self (S.w_wi _))).trans (XS.w_chr_self (S.w_wi _))
theorem r_st23 {Γ : gm_T} {r : Nat} {S : XS} (hI : ShI S) : ∀ (d k fu : Nat) (φ : ph_T), k + d = S.ns → d < fu → RV Γ φ r (S.shB k) → He φ r S →
    ∃ φ', f_Ref_step_L23 Γ fu φ r (nI k) = f_Ref_step_L44 Γ jF φ' r (nI 0) ∧ RV Γ φ' r (S.shB S.ns) ∧ RFr r [26, 27, 28, 29, 68, 69] φ φ' := by
  have hB := hI.bd
  have hnm := hB.nm
  have hns := hB.ns
  intro d
  induction d with
  | zero =>
    intro k fu φ hd hfu h hh
    match fu, hfu with
    | fu + 1, _ =>
      have hk : k = S.ns := by omega
      subst hk
      refine ⟨φ, ?_, h, RFr.refl _ _ _⟩
      have e1 : φ.1 r 2 = nI S.ns := h.sc.ns
      rw [f_Ref_step_L23, if_pos h.rl.o, e1, if_pos (Int32.le_refl _), zI_0]
  | succ d ih =>
    intro k fu φ hd hfu h hh
    match fu, hfu with
    | fu + 1, hfu =>
      have e1 : φ.1 r 2 = nI S.ns := h.sc.ns
      have ew : (S.shB k).wi (4 + k) = S.wi (4 + k) := by
        show (if 4 + k < S.nm then _ else if 4 ≤ 4 + k ∧ 4 + k < 4 + k then _ else S.wi (4 + k)) = _
        rw [if_neg (by omega), if_neg (by omega)]
      have eb : (S.shB k).chb k = S.chb k := if_neg (Nat.lt_irrefl k)
      have er : (S.shB k).chr k = S.chr k := if_neg (Nat.lt_irrefl k)
      have hP : S.isP (4 + k) = true := by unfold XS.isP; rw [if_pos (by omega), decide_eq_true (by omega)]
      have hB' : Bd (S.shB k) := ⟨hB.nm, hB.ns, hB.lim, hB.pol, hB.time, hB.db, hB.moved, hB.pages, hB.mpat, hB.spat, hB.delay, hB.way, hB.mem, hB.sw, hB.sr, hB.rnum, hB.lat, hB.uw, hB.ur, hB.la, hB.lr, hB.lb, hB.lg, hB.rgt, hB.rowT, hB.tk⟩
      obtain ⟨φ1, a1, a2, a3⟩ := r_showSlave h hB' (s := k) (by omega) (fun c hc => by rw [ew]; exact hh.at (by omega) hc hP) (by unfold InvB; rw [ew, eb]; exact hI.b k (by omega)) (by unfold InvR; rw [ew, er]; exact hI.r k (by omega))
      have hS : (S.shB k).shS' k = S.shB (k + 1) := by
        obtain ⟨q1, q2, q3⟩ := shS_wi S (fun p => if p < S.nm then S.showM p else if 4 ≤ p ∧ p < 4 + k then S.showS (p - 4) else S.wi p) (fun s => if s < k then S.chB' s else S.chb s) (fun s => if s < k then S.chR' s else S.chr s) k (by rw [if_neg (by omega), if_neg (by omega)]) (if_neg (Nat.lt_irrefl k)) (if_neg (Nat.lt_irrefl k))
        have q1' : (S.shB k).showS k = S.showS k := q1
        have q2' : (S.shB k).chB' k = S.chB' k := q2
        have q3' : (S.shB k).chR' k = S.chR' k := q3
        unfold XS.shS'
        rw [q1', q2', q3']
        have f1 : va_up (S.shB k).wi (4 + k) (S.showS k) = (S.shB (k + 1)).wi := by
          funext p
          show va_up _ _ _ p = (if p < S.nm then S.showM p else if 4 ≤ p ∧ p < 4 + (k + 1) then S.showS (p - 4) else S.wi p)
          rw [vz_at]
          by_cases hp : p = 4 + k
          · subst hp
            rw [if_pos rfl, if_neg (by omega), if_pos (by omega), show 4 + k - 4 = k by omega]
          · rw [if_neg hp]
            show (if p < S.nm then S.showM p else if 4 ≤ p ∧ p < 4 + k then S.showS (p - 4) else S.wi p) = _
            by_cases hp2 : p < S.nm
            · rw [if_pos hp2, if_pos hp2]
            · rw [if_neg hp2, if_neg hp2]
              by_cases hp3 : 4 ≤ p ∧ p < 4 + k
              · rw [if_pos hp3, if_pos (by omega)]
              · rw [if_neg hp3, if_neg (by omega)]
        have f2 : va_up (S.shB k).chb k (S.chB' k) = (S.shB (k + 1)).chb := by
          funext s
          show va_up _ _ _ s = (if s < k + 1 then S.chB' s else S.chb s)
          rw [vz_at]
          by_cases hs : s = k
          · subst hs
            rw [if_pos rfl, if_pos (by omega)]
          · rw [if_neg hs]
            show (if s < k then S.chB' s else S.chb s) = _
            by_cases hs2 : s < k
            · rw [if_pos hs2, if_pos (by omega)]
            · rw [if_neg hs2, if_neg (by omega)]
        have f3 : va_up (S.shB k).chr k (S.chR' k) = (S.shB (k + 1)).chr := by
          funext s
          show va_up _ _ _ s = (if s < k + 1 then S.chR' s else S.chr s)
          rw [vz_at]
          by_cases hs : s = k
          · subst hs
            rw [if_pos rfl, if_pos (by omega)]
          · rw [if_neg hs]
            show (if s < k then S.chR' s else S.chr s) = _
            by_cases hs2 : s < k
            · rw [if_pos hs2, if_pos (by omega)]
            · rw [if_neg hs2, if_neg (by omega)]
        rw [f1, f2, f3]
        unfold XS.shB
        funext i
        simp only [XS.w_wi, XS.w_chb, XS.w_chr, XS.up]
        repeat' split
        all_goals first | rfl | omega
      rw [hS] at a2
      obtain ⟨φ', b1, b2, b3⟩ := ih (k + 1) fu φ1 (by omega) (by omega) a2 (fun j hj => by rw [a3.i 30 (by decide)]; exact hh j hj)
      refine ⟨φ', ?_, b2, a3.trans b3⟩
      rw [f_Ref_step_L23, if_pos h.rl.o, e1, if_neg (by rw [zI_le (by omega) (by omega)]; omega), a1, Option.bind_some, zI_1, zI_add]
      exact b1
theorem shB_wi (S : XS) : (S.shB S.ns).wi = S.shW := rfl
theorem shC_0 (S : XS) : S.shC 0 = S.shB S.ns := by
  unfold XS.shC
  have h1 : (fun p => if p < 0 ∧ S.isP p = true then (S.mon p).look (S.shW p) else S.mon p) = S.mon := by
    funext p
    rw [if_neg (by omega)]
  rw [h1]
  exact XS.w_mon_self (S.shB S.ns)
theorem r_st44 {Γ : gm_T} {r : Nat} {S : XS} (hI : ShI S) : ∀ (d k fu : Nat) (φ : ph_T), k + d = 8 → d < fu → RV Γ φ r (S.shC k) →
    ∃ φ', f_Ref_step_L44 Γ fu φ r (nI k) = f_Ref_step_L77 Γ jF φ' r (nI 0) (nI 0) ∧ RV Γ φ' r S.sh ∧ RFr r kMo φ φ' := by
  have hB := hI.bd
  have hnm := hB.nm
  have hns := hB.ns
  intro d
  induction d with
  | zero =>
    intro k fu φ hd hfu h
    match fu, hfu with
    | fu + 1, _ =>
      have hk : k = 8 := by omega
      subst hk
      refine ⟨φ, ?_, h, RFr.refl _ _ _⟩
      rw [f_Ref_step_L44, if_pos (by rw [z8]; exact Int32.le_refl _), zI_0]
  | succ d ih =>
    intro k fu φ hd hfu h
    match fu, hfu with
    | fu + 1, hfu =>
      have hpo : f_Ref_isPort Γ φ r (nI k) = some (bI (S.isP k), φ) := r_isPort h ⟨hnm.2, hns.2⟩ (by omega)
      have hst : f_Ref_step_L44 Γ (fu + 1) φ r (nI k) = if S.isP k = true then Option.bind (f_Ref_watch Γ φ r (nI k) (nI (5 * k)) (nI 0)) (fun q => f_Ref_step_L44 Γ fu q.2 r (nI (k + 1))) else f_Ref_step_L44 Γ fu φ r (nI (k + 1)) := by
        rw [f_Ref_step_L44, if_neg (by rw [z8, zI_le (by omega) (by omega)]; omega), if_pos h.rl.o, hpo, Option.bind_some]
        unfold f_Ref_step_L67
        simp only [zI_lit, zI_mul, zI_add]
        cases S.isP k with
        | true => rw [if_neg (by decide), if_pos rfl]
        | false => rw [if_pos (by rfl), if_neg (by decide)]
      rw [hst]
      by_cases hP : S.isP k = true
      · rw [if_pos hP]
        have em : (S.shC k).mon k = S.mon k := by
          show (if k < k ∧ S.isP k = true then _ else S.mon k) = _
          rw [if_neg (by omega)]
        obtain ⟨φ1, a1, a2, a3⟩ := r_watch h (p := k) (by omega) (by rw [em]; exact hI.mo k (by omega))
        have a1' : f_Ref_watch Γ φ r (nI k) (nI (5 * k)) (nI 0) = some ((), φ1) := by
          unfold frW tdW at a1
          rw [if_pos (show k < 8 by omega), decide_eq_true (show k < 8 by omega)] at a1
          exact a1
        rw [a1', Option.bind_some]
        have hS : (S.shC k).setM k (((S.shC k).mon k).look ((S.shC k).wi k)) = S.shC (k + 1) := by
          rw [em, show (S.shC k).wi k = S.shW k from rfl]
          unfold XS.setM XS.shC
          rw [XS.w_mon_w_mon]
          congr 1
          funext p
          rw [vz_at]
          by_cases hp : p = k
          · subst hp
            rw [if_pos rfl, if_pos ⟨by omega, hP⟩]
          · rw [if_neg hp]
            show (if p < k ∧ S.isP p = true then _ else S.mon p) = _
            by_cases hp2 : p < k ∧ S.isP p = true
            · rw [if_pos hp2, if_pos ⟨by omega, hp2.2⟩]
            · rw [if_neg hp2, if_neg (fun hc => hp2 ⟨by omega, hc.2⟩)]
        rw [hS] at a2
        obtain ⟨φ', b1, b2, b3⟩ := ih (k + 1) fu φ1 (by omega) (by omega) a2
        exact ⟨φ', b1, b2, a3.trans b3⟩
      · rw [if_neg hP]
        have hS : S.shC k = S.shC (k + 1) := by
          unfold XS.shC
          congr 1
          funext p
          by_cases hp : p = k
          · subst hp
            rw [if_neg (by omega), if_neg (fun hc => hP hc.2)]
          · by_cases hp2 : p < k ∧ S.isP p = true
            · rw [if_pos hp2, if_pos ⟨by omega, hp2.2⟩]
            · rw [if_neg hp2, if_neg (fun hc => hp2 ⟨by omega, hc.2⟩)]
        rw [hS] at h
        exact ih (k + 1) fu φ (by omega) (by omega) h
