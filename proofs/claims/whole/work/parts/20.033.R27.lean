/-! THE REFERENCE: may an address move -/
def okG (t id : Nat) (e : UE) : Bool := decide (e.tg = t) || (decide (e.id ≠ id) && decide (e.left = 0))
def isM (m : Nat) (e : UE) : Bool := decide (e.m = m)
theorem mayG_eq (S : XS) (l : List UE) (m t id : Nat) : S.mayG l m t id = (decide ((l.filter (isM m)).length < S.lim) && (l.filter (isM m)).all (okG t id)) := rfl
theorem fdrop {α : Type} {l : List α} {k : Nat} {e : α} (he : l[k]? = some e) : l.drop k = e :: l.drop (k + 1) := by
  obtain ⟨h1, h2⟩ := List.getElem?_eq_some_iff.mp he
  rw [List.drop_eq_getElem_cons h1, h2]
theorem r_mayW_L {Γ : gm_T} {φ : ph_T} {r : Nat} {S : XS} (h : RV Γ φ r S) (hB : Bd S) {m t id : Nat} (hm : m < 4) (ht : t < 5) (hid : id < 64) : ∀ d k n b fu, k + d = S.uw.length → n ≤ k → d < fu →
    f_Ref_mayWrite_L74 Γ fu φ r (nI m) (nI t) (nI id) (nI n) (bI b) (nI k) = some (bI (decide (n + ((S.uw.drop k).filter (isM m)).length < S.lim) && (b && ((S.uw.drop k).filter (isM m)).all (okG t id))), φ) := by
  have hle := h.uw.hle
  have hlim := hB.lim
  intro d
  induction d with
  | zero =>
    intro k n b fu hd hn hf
    match fu, hf with
    | fu + 1, _ =>
      unfold f_Ref_mayWrite_L74 f_Ref_mayWrite_L166 f_Ref_mayWrite_L167
      rw [List.drop_eq_nil_of_le (by omega)]
      simp (disch := first | assumption | omega) only [h.rl.o, if_true, h.sc.wm, h.sc.lim, zI_lit, zI_le, bI_eq0, z_or0, z_or1]
      rw [if_pos (show S.uw.length ≤ k by omega)]
      cases b with
      | false => simp [bI]
      | true =>
        simp only [Bool.true_eq_false, if_false]
        by_cases hl : S.lim ≤ n
        · rw [if_pos hl]
          simp [bI, show ¬ n < S.lim by omega]
        · rw [if_neg hl]
          simp [bI, show n < S.lim by omega]
  | succ d ih =>
    intro k n b fu hd hn hf
    match fu, hf with
    | fu + 1, hf =>
      obtain ⟨e, he⟩ := lget (l := S.uw) (t := k) (by omega)
      have hk := llt he
      have hv := h.uw.hent k e he
      have hb := hB.uw e (lmem he)
      have ihn := fun b' => ih (k + 1) n b' fu (by omega) (by omega) (by omega)
      have ih1 := fun b' => ih (k + 1) (n + 1) b' fu (by omega) (by omega) (by omega)
      rw [fdrop he]
      unfold f_Ref_mayWrite_L74 f_Ref_mayWrite_L135 f_Ref_mayWrite_L139 f_Ref_mayWrite_L140 f_Ref_mayWrite_L142
      simp (disch := first | assumption | omega) only [h.rl.o, rf_43 h.rl, rg_43 h.rl, rf_44 h.rl, rg_44 h.rl, rf_45 h.rl, rg_45 h.rl, rf_46 h.rl, rg_46 h.rl, Option.bind_some, if_true, zix, h.sc.wm, hv, ↓zm1, zI_ne_m, zI_m_ne, zI_lit, zI_le, zI_eq, zI_mul, zI_lt, zI_modn, zI_div, zI_sub, zI_add, zN_mod, bI_eq0]
      rw [if_neg (show ¬ S.uw.length ≤ k by omega)]
      have ihf := ih1 false
      have iht := ih1 true
      rw [show bI false = nI 0 from rfl] at ihf
      rw [show bI true = nI 1 from rfl] at iht
      rw [ihf, iht, ihn b]
      by_cases hme : e.m = m
      · have hf1 : List.filter (isM m) (e :: S.uw.drop (k + 1)) = e :: List.filter (isM m) (S.uw.drop (k + 1)) := by rw [List.filter_cons, if_pos (by simp [isM, hme])]
        rw [if_pos hme, hf1, List.length_cons, List.all_cons, show n + 1 + (List.filter (isM m) (S.uw.drop (k + 1))).length = n + ((List.filter (isM m) (S.uw.drop (k + 1))).length + 1) by omega]
        cases b with
        | false => simp
        | true =>
          simp only [Bool.true_eq_false, if_false]
          unfold okG
          by_cases h1 : e.tg = t <;> by_cases h2 : e.id = id <;> by_cases h3 : e.left = 0 <;> simp [h1, h2, h3]
      · have hf1 : List.filter (isM m) (e :: S.uw.drop (k + 1)) = List.filter (isM m) (S.uw.drop (k + 1)) := by rw [List.filter_cons, if_neg (by simp [isM, hme])]
        rw [if_neg hme, hf1]
theorem r_mayR_L {Γ : gm_T} {φ : ph_T} {r : Nat} {S : XS} (h : RV Γ φ r S) (hB : Bd S) {m t id : Nat} (hm : m < 4) (ht : t < 5) (hid : id < 64) : ∀ d k n b fu, k + d = S.ur.length → n ≤ k → d < fu →
    f_Ref_mayRead_L74 Γ fu φ r (nI m) (nI t) (nI id) (nI n) (bI b) (nI k) = some (bI (decide (n + ((S.ur.drop k).filter (isM m)).length < S.lim) && (b && ((S.ur.drop k).filter (isM m)).all (okG t id))), φ) := by
  have hle := h.ur.hle
  have hlim := hB.lim
  intro d
  induction d with
  | zero =>
    intro k n b fu hd hn hf
    match fu, hf with
    | fu + 1, _ =>
      unfold f_Ref_mayRead_L74 f_Ref_mayRead_L156 f_Ref_mayRead_L157
      rw [List.drop_eq_nil_of_le (by omega)]
      simp (disch := first | assumption | omega) only [h.rl.o, if_true, h.sc.rm, h.sc.lim, zI_lit, zI_le, bI_eq0, z_or0, z_or1]
      rw [if_pos (show S.ur.length ≤ k by omega)]
      cases b with
      | false => simp [bI]
      | true =>
        simp only [Bool.true_eq_false, if_false]
        by_cases hl : S.lim ≤ n
        · rw [if_pos hl]
          simp [bI, show ¬ n < S.lim by omega]
        · rw [if_neg hl]
          simp [bI, show n < S.lim by omega]
  | succ d ih =>
    intro k n b fu hd hn hf
    match fu, hf with
    | fu + 1, hf =>
      obtain ⟨e, he⟩ := lget (l := S.ur) (t := k) (by omega)
      have hk := llt he
      have hv := h.ur.hent k e he
      have hb := hB.ur e (lmem he)
      have ihn := fun b' => ih (k + 1) n b' fu (by omega) (by omega) (by omega)
      have ih1 := fun b' => ih (k + 1) (n + 1) b' fu (by omega) (by omega) (by omega)
      rw [fdrop he]
      unfold f_Ref_mayRead_L74 f_Ref_mayRead_L125 f_Ref_mayRead_L129 f_Ref_mayRead_L130 f_Ref_mayRead_L132
      simp (disch := first | assumption | omega) only [h.rl.o, rf_48 h.rl, rg_48 h.rl, rf_49 h.rl, rg_49 h.rl, rf_50 h.rl, rg_50 h.rl, Option.bind_some, if_true, zix, h.sc.rm, hv, ↓zm1, zI_ne_m, zI_m_ne, zI_lit, zI_le, zI_eq, zI_mul, zI_lt, zI_modn, zI_div, zI_sub, zI_add, zN_mod, bI_eq0]
      rw [if_neg (show ¬ S.ur.length ≤ k by omega)]
      have ihf := ih1 false
      have iht := ih1 true
      rw [show bI false = nI 0 from rfl] at ihf
      rw [show bI true = nI 1 from rfl] at iht
      rw [ihf, iht, ihn b]
      by_cases hme : e.m = m
      · have hf1 : List.filter (isM m) (e :: S.ur.drop (k + 1)) = e :: List.filter (isM m) (S.ur.drop (k + 1)) := by rw [List.filter_cons, if_pos (by simp [isM, hme])]
        rw [if_pos hme, hf1, List.length_cons, List.all_cons, show n + 1 + (List.filter (isM m) (S.ur.drop (k + 1))).length = n + ((List.filter (isM m) (S.ur.drop (k + 1))).length + 1) by omega]
        cases b with
        | false => simp
        | true =>
          simp only [Bool.true_eq_false, if_false]
          unfold okG
          have h3 := hb.2.2.2
          by_cases h1 : e.tg = t <;> by_cases h2 : e.id = id <;> simp [h1, h2, h3]
      · have hf1 : List.filter (isM m) (e :: S.ur.drop (k + 1)) = List.filter (isM m) (S.ur.drop (k + 1)) := by rw [List.filter_cons, if_neg (by simp [isM, hme])]
        rw [if_neg hme, hf1]
theorem XS.row_at {S : XS} {i : Nat} {e : RE} {l : List RE} (hr : S.row i = e :: l) : (S.row i)[0]? = some e := by rw [hr]; rfl
theorem r_mayWrite {Γ : gm_T} {φ : ph_T} {r : Nat} {S : XS} (h : RV Γ φ r S) (hB : Bd S) {m t : Nat} (hm : m < 4) (ht : t < 5) : f_Ref_mayWrite Γ φ r (nI m) (nI t) = some (bI (S.may 0 m t && S.hasRm (5 * (4 + t) + 0)), φ) := by
  have h4 := roomN_le ((5 * m + 0) % 5)
  have h5 := h.row.hle (5 * m + 0) (by omega)
  have hmm := h.row.hmany (5 * m + 0) (by omega)
  have hle := h.uw.hle
  have hpg := fun p => Nat.le_trans (hB.pages p) hB.ns.2
  unfold f_Ref_mayWrite f_Ref_mayWrite_L50 XS.may
  simp (disch := first | assumption | omega) only [h.rl.o, rf_39 h.rl, rg_39 h.rl, rf_42 h.rl, rg_42 h.rl, e_rowOf0, e_rowOf1, Option.bind_some, if_true, zix, hmm, ↓zm1, zI_ne_m, zI_m_ne, zI_lit, zI_le, zI_eq, zI_mul, zI_lt, zI_modn, zI_div, zI_sub, zI_add, zN_mod, z_or0]
  cases hr : S.row (5 * m + 0) with
  | nil => simp [bI]
  | cons e l =>
    have he := h.row.hent (5 * m + 0) 0 e (by omega) (XS.row_at hr)
    simp only [Nat.add_zero] at he
    have had := adN_lt e.c
    have hid := idN_lt e.c
    have hpa := hpg (adN e.c / 4096)
    rw [if_neg (by simp)]
    simp only [Nat.add_zero] at *
    rw [he.1]
    simp (disch := first | assumption | omega) only [e_Ref_addressOf, Option.bind_some, r_targetOf h had hpg, zI_eq]
    have hrm := r_hasRoom h (i := 5 * (4 + t)) (by omega)
    rw [hrm]
    simp (disch := first | assumption | omega) only [Option.bind_some, bI_eq0, rf_39 h.rl, rg_39 h.rl, zix, he, e_Ref_idOf]
    have hL := r_mayW_L h hB hm ht hid S.uw.length 0 0 true jF (by omega) (by omega) (by unfold jF; omega)
    rw [show bI true = nI 1 from rfl] at hL
    simp only [Nat.zero_add, List.drop_zero, Bool.true_and] at hL
    rw [hL]
    unfold XS.tgt
    simp only [if_true, true_or]
    rw [mayG_eq]
    by_cases h1 : S.pages (adN e.c / 4096) = t
    · cases h2 : S.hasRm (5 * (4 + t)) <;> simp only [h1, if_true, Bool.true_eq_false, if_false, decide_true, Bool.true_and, Bool.and_true, Bool.and_false] <;> rfl
    · simp [h1, bI]
theorem r_mayRead {Γ : gm_T} {φ : ph_T} {r : Nat} {S : XS} (h : RV Γ φ r S) (hB : Bd S) {m t : Nat} (hm : m < 4) (ht : t < 5) : f_Ref_mayRead Γ φ r (nI m) (nI t) = some (bI (S.may 3 m t && S.hasRm (5 * (4 + t) + 3)), φ) := by
  have h4 := roomN_le ((5 * m + 3) % 5)
  have h5 := h.row.hle (5 * m + 3) (by omega)
  have hmm := h.row.hmany (5 * m + 3) (by omega)
  have hle := h.ur.hle
  have hpg := fun p => Nat.le_trans (hB.pages p) hB.ns.2
  unfold f_Ref_mayRead f_Ref_mayRead_L50 XS.may
  simp (disch := first | assumption | omega) only [h.rl.o, rf_39 h.rl, rg_39 h.rl, rf_42 h.rl, rg_42 h.rl, e_rowOf0, e_rowOf1, Option.bind_some, if_true, zix, hmm, ↓zm1, zI_ne_m, zI_m_ne, zI_lit, zI_le, zI_eq, zI_mul, zI_lt, zI_modn, zI_div, zI_sub, zI_add, zN_mod, z_or0]
  cases hr : S.row (5 * m + 3) with
  | nil => simp [bI]
  | cons e l =>
    have he := h.row.hent (5 * m + 3) 0 e (by omega) (XS.row_at hr)
    simp only [Nat.add_zero] at he
    have had := adN_lt e.c
    have hid := idN_lt e.c
    have hpa := hpg (adN e.c / 4096)
    rw [if_neg (by simp)]
    rw [he.1]
    simp (disch := first | assumption | omega) only [e_Ref_addressOf, Option.bind_some, r_targetOf h had hpg, zI_eq]
    have hrm := r_hasRoom h (i := 5 * (4 + t) + 3) (by omega)
    rw [hrm]
    simp (disch := first | assumption | omega) only [Option.bind_some, bI_eq0, rf_39 h.rl, rg_39 h.rl, zix, he, e_Ref_idOf]
    have hL := r_mayR_L h hB hm ht hid S.ur.length 0 0 true jF (by omega) (by omega) (by unfold jF; omega)
    rw [show bI true = nI 1 from rfl] at hL
    simp only [Nat.zero_add, List.drop_zero, Bool.true_and] at hL
    rw [hL]
    unfold XS.tgt
    simp only [show ¬ (3 = 0) by omega, if_false, true_or, if_true]
    rw [mayG_eq]
    by_cases h1 : S.pages (adN e.c / 4096) = t
    · cases h2 : S.hasRm (5 * (4 + t) + 3) <;> simp only [h1, if_true, Bool.true_eq_false, if_false, decide_true, Bool.true_and, Bool.and_true, Bool.and_false] <;> rfl
    · simp [h1, bI]
