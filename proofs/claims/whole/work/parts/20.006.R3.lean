/-! THE REFERENCE's small methods -/
def fiF {α : Type} (p : α → Bool) (l : List α) (t : Nat) : Option Nat := ((l.drop t).findIdx? p).map (· + t)
theorem fiF_end {α : Type} {p : α → Bool} {l : List α} {t : Nat} (h : l.length ≤ t) : fiF p l t = none := by
  unfold fiF; rw [List.drop_eq_nil_of_le h]; rfl
theorem fiF_0 {α : Type} (p : α → Bool) (l : List α) : fiF p l 0 = l.findIdx? p := by
  unfold fiF; simp
theorem fiF_step {α : Type} {p : α → Bool} {l : List α} {t : Nat} {e : α} (h : l[t]? = some e) : fiF p l t = if p e = true then some t else fiF p l (t + 1) := by
  obtain ⟨h1, h2⟩ := List.getElem?_eq_some_iff.mp h
  unfold fiF
  rw [List.drop_eq_getElem_cons h1, h2, List.findIdx?_cons]
  split
  · simp
  · cases hh : List.findIdx? p (List.drop (t + 1) l) with
    | none => simp
    | some j => simp; omega
theorem lget {α : Type} {l : List α} {t : Nat} (h : t < l.length) : ∃ e, l[t]? = some e := ⟨l[t], List.getElem?_eq_getElem h⟩
theorem e_rowOf (Γ : gm_T) (φ : ph_T) (r : Nat) (b : Bool) (k c : Nat) : f_Ref_rowOf Γ φ r (bI b) (nI k) (nI c) = some (nI (5 * (if b = true then 4 + k else k) + c), φ) := by
  unfold f_Ref_rowOf f_Ref_rowOf_L12
  simp only [↓zm1, zI_ne_m, zI_m_ne, zI_lit, zI_le, zI_eq, zI_mul, zI_lt, zI_modn, zI_div, zI_sub, zI_add, zN_mod, bI_eq0]
  cases b <;> rfl
theorem e_rowOf1 (Γ : gm_T) (φ : ph_T) (r : Nat) (k c : Nat) : f_Ref_rowOf Γ φ r (nI 1) (nI k) (nI c) = some (nI (5 * (4 + k) + c), φ) := e_rowOf Γ φ r true k c
theorem e_rowOf0 (Γ : gm_T) (φ : ph_T) (r : Nat) (k c : Nat) : f_Ref_rowOf Γ φ r (nI 0) (nI k) (nI c) = some (nI (5 * k + c), φ) := e_rowOf Γ φ r false k c
theorem e_roomOf (Γ : gm_T) (φ : ph_T) {i : Nat} (hi : i < 45) : f_Ref_roomOf Γ φ (nI i) = some (nI (roomN (i % 5)), φ) := by
  unfold f_Ref_roomOf f_Ref_roomOf_L14 f_Ref_roomOf_L19 roomN
  simp (disch := first | assumption | omega) only [↓zm1, zI_ne_m, zI_m_ne, zI_lit, zI_le, zI_eq, zI_mul, zI_lt, zI_modn, zI_div, zI_sub, zI_add, zN_mod]
  by_cases h1 : i % 5 = 1
  · simp [h1]
  · by_cases h4 : i % 5 = 4 <;> simp [h1, h4]
theorem r_hasRoom {Γ : gm_T} {φ : ph_T} {r : Nat} {S : XS} (h : RV Γ φ r S) {i : Nat} (hi : i < 45) : f_Ref_hasRoom Γ φ r (nI i) = some (bI (S.hasRm i), φ) := by
  have h4 := roomN_le (i % 5)
  have h5 := h.row.hle i hi
  have hm := h.row.hmany i hi
  unfold f_Ref_hasRoom f_Ref_hasRoom_L18 XS.hasRm
  simp (disch := first | assumption | omega) only [h.rl.o, rf_42 h.rl, rg_42 h.rl, e_roomOf Γ φ hi, Option.bind_some, if_true, zix, hm, ↓zm1, zI_ne_m, zI_m_ne, zI_lit, zI_le, zI_eq, zI_mul, zI_lt, zI_modn, zI_div, zI_sub, zI_add, zN_mod]
  by_cases hc : (S.row i).length < roomN (i % 5)
  · rw [if_neg (by omega)]; simp [hc, bI]
  · rw [if_pos (by omega)]; simp [hc, bI]
theorem tb_dec (p k : Nat) : Nat.testBit p k = decide ((p >>> k) &&& 1 = 1) := by
  rw [Nat.testBit_eq_decide_div_mod_eq, Nat.shiftRight_eq_div_pow, Nat.and_one_is_mod]
theorem e_tells (Γ : gm_T) (φ : ph_T) {p t : Nat} (hp : p < 2 ^ 31) (ht : t < 2 ^ 31) : f_Ref_tells Γ φ (nI p) (nI t) = some (bI (on p t), φ) := by
  unfold f_Ref_tells f_Ref_tells_L17 on
  have h16 : t % 16 < 16 := Nat.mod_lt _ (by omega)
  have h31 : t % 16 &&& 31 = t % 16 := (Nat.and_two_pow_sub_one_eq_mod (t % 16) 5).trans (Nat.mod_eq_of_lt (by omega))
  have hle : p >>> (t % 16) &&& 1 ≤ 1 := Nat.and_le_right
  simp (disch := first | assumption | omega) only [↓zm1, zI_ne_m, zI_m_ne, zI_lit, zI_le, zI_eq, zI_mul, zI_lt, zI_modn, zI_div, zI_sub, zI_add, zN_mod, zI_and, h31, zI_shr, tb_dec]
  by_cases hc : p >>> (t % 16) &&& 1 = 1
  · simp only [hc, if_true, decide_true]; rfl
  · simp only [hc, if_false, decide_false]; rfl
theorem e_isOn (Γ : gm_T) (φ : ph_T) {p t : Nat} (hp : p < 2 ^ 31) (ht : t < 2 ^ 31) : f_Bus_isOn Γ φ (nI p) (nI t) = some (bI (on p t), φ) := by
  unfold f_Bus_isOn f_Bus_isOn_L17 on
  have h16 : t % 16 < 16 := Nat.mod_lt _ (by omega)
  have h15 : t &&& 15 = t % 16 := Nat.and_two_pow_sub_one_eq_mod t 4
  have h31 : t % 16 &&& 31 = t % 16 := (Nat.and_two_pow_sub_one_eq_mod (t % 16) 5).trans (Nat.mod_eq_of_lt (by omega))
  have hle : p >>> (t % 16) &&& 1 ≤ 1 := Nat.and_le_right
  simp (disch := first | assumption | omega) only [↓zm1, zI_ne_m, zI_m_ne, zI_lit, zI_le, zI_eq, zI_mul, zI_lt, zI_modn, zI_div, zI_sub, zI_add, zN_mod, zI_and, h15, h31, zI_shr, tb_dec]
  by_cases hc : p >>> (t % 16) &&& 1 = 1
  · simp only [hc, if_true, decide_true]; rfl
  · simp only [hc, if_false, decide_false]; rfl
theorem r_targetOf {Γ : gm_T} {φ : ph_T} {r : Nat} {S : XS} (h : RV Γ φ r S) {a : Nat} (ha : a < 65536) (hp : ∀ p, S.pages p ≤ 4) : f_Ref_targetOf Γ φ r (nI a) = some (nI (S.pages (a / 4096)), φ) := by
  have h1 := hp (a / 4096)
  have hpg := h.pg (a / 4096) (by omega)
  unfold f_Ref_targetOf f_Ref_targetOf_L24
  simp (disch := first | assumption | omega) only [h.rl.o, rf_7 h.rl, rg_7 h.rl, Option.bind_some, if_true, zix, hpg, h.sc.ns, ↓zm1, zI_ne_m, zI_m_ne, zI_lit, zI_le, zI_eq, zI_mul, zI_lt, zI_modn, zI_div, zI_sub, zI_add, zN_mod]
  by_cases hc : S.pages (a / 4096) = S.ns
  · simp [hc]
  · simp (disch := first | assumption | omega) [hc, zI_ne_m]
theorem rId_eq (x : Int32) : x &&& nI 63 = nI (rId x) := by
  apply zI_inj
  rw [Int32.toBitVec_and]
  apply BitVec.eq_of_toNat_eq
  simp [zI_bv, rId, nI]
  rw [show (63 : Nat) = 2 ^ 6 - 1 from rfl, Nat.and_two_pow_sub_one_eq_mod]
  omega
theorem rId_lt (x : Int32) : rId x < 64 := Nat.mod_lt _ (by omega)
theorem r_isFor {Γ : gm_T} {φ : ph_T} {r : Nat} {S : XS} (h : RV Γ φ r S) {t c m : Nat} (ht : t < 5) (hc : c < 5) (hm : m < 5) : f_Ref_isFor Γ φ r (nI t) (nI c) (nI m) = some (bI (S.gives m c t), φ) := by
  have h4 := roomN_le ((5 * (4 + t) + c) % 5)
  have h5 := h.row.hle (5 * (4 + t) + c) (by omega)
  have hmm := h.row.hmany (5 * (4 + t) + c) (by omega)
  unfold f_Ref_isFor f_Ref_isFor_L42 f_Ref_isFor_L43 XS.gives
  simp (disch := first | assumption | omega) only [h.rl.o, rf_40 h.rl, rg_40 h.rl, rf_42 h.rl, rg_42 h.rl, e_rowOf1, Option.bind_some, if_true, zix, hmm, ↓zm1, zI_ne_m, zI_m_ne, zI_lit, zI_le, zI_eq, zI_mul, zI_lt, zI_modn, zI_div, zI_sub, zI_add, zN_mod, rId_eq]
  cases hr : S.row (5 * (4 + t) + c) with
  | nil => simp [bI]
  | cons e l =>
    have he := h.row.hent (5 * (4 + t) + c) 0 e (by omega) (by rw [hr]; rfl)
    simp only [Nat.add_zero] at he
    have hl := rId_lt e.r
    rw [if_neg (by simp)]
    simp (disch := first | assumption | omega) only [he, rId_eq, ↓zm1, zI_ne_m, zI_m_ne, zI_lit, zI_le, zI_eq, zI_mul, zI_lt, zI_modn, zI_div, zI_sub, zI_add, zN_mod]
    by_cases hx : rId e.r / 16 = m
    · simp [hx, bI]
    · simp [hx, bI]

theorem VTk.lt {mas len siz kin wri alo spa urg adr idd ask sen don bea res : aI} {see dat : aL} {l : List TK} (h : VTk mas len siz kin wri alo spa urg adr idd ask sen don bea res see dat l) {t : Nat} {e : TK} (he : l[t]? = some e) : t < 64 := by
  have := (List.getElem?_eq_some_iff.mp he).1
  have := h.hle
  omega
theorem bI_eq (a b : Bool) : (bI a = bI b) ↔ a = b := by cases a <;> cases b <;> decide
theorem r_unsent_L {Γ : gm_T} {φ : ph_T} {r : Nat} {S : XS} (h : RV Γ φ r S) {m : Nat} (hm : m < 4) (wr : Bool) : ∀ d t fu, t + d = S.tk.length → d < fu → f_Ref_unsent_L2 Γ fu φ r (nI m) (bI wr) (nI t) = some (oI (fiF (isUns m wr) S.tk t) m1, φ) := by
  have hle := h.tk.hle
  intro d
  induction d with
  | zero =>
    intro t fu hd hf
    match fu, hf with
    | fu + 1, _ =>
      unfold f_Ref_unsent_L2
      simp (disch := first | assumption | omega) only [h.rl.o, rf_16 h.rl, rg_16 h.rl, rf_20 h.rl, rg_20 h.rl, rf_28 h.rl, rg_28 h.rl, Option.bind_some, if_true, zix, h.sc.tk, ↓zm1, zI_ne_m, zI_m_ne, zI_lit, zI_le, zI_eq, zI_mul, zI_lt, zI_modn, zI_div, zI_sub, zI_add, zN_mod]
      rw [if_pos (by omega), fiF_end (by omega)]
      rfl
  | succ d ih =>
    intro t fu hd hf
    match fu, hf with
    | fu + 1, hf =>
      obtain ⟨e, he⟩ := lget (l := S.tk) (t := t) (by omega)
      have hb := h.tk.hbd t e he
      have ht := h.tk.lt he
      have ih' := ih (t + 1) fu (by omega) (by omega)
      unfold f_Ref_unsent_L2 f_Ref_unsent_L42
      simp (disch := first | assumption | omega) only [h.rl.o, rf_16 h.rl, rg_16 h.rl, rf_20 h.rl, rg_20 h.rl, rf_28 h.rl, rg_28 h.rl, Option.bind_some, if_true, zix, h.sc.tk, h.tk.hmas t e he, h.tk.hwri t e he, h.tk.hsen t e he, ↓zm1, zI_ne_m, zI_m_ne, zI_lit, zI_le, zI_eq, zI_mul, zI_lt, zI_modn, zI_div, zI_sub, zI_add, zN_mod, bI_eq, ih']
      rw [if_neg (by omega), fiF_step he]
      unfold isUns
      by_cases h1 : e.m = m <;> by_cases h2 : e.wr = wr <;> by_cases h3 : e.sent = m1 <;> simp [h1, h2, h3, oI]
theorem r_unsent {Γ : gm_T} {φ : ph_T} {r : Nat} {S : XS} (h : RV Γ φ r S) {m : Nat} (hm : m < 4) (wr : Bool) : f_Ref_unsent Γ φ r (nI m) (bI wr) = some (oI (S.tk.findIdx? (isUns m wr)) m1, φ) := by
  have hle := h.tk.hle
  unfold f_Ref_unsent
  rw [zI_0, r_unsent_L h hm wr S.tk.length 0 jF (by omega) (by unfold jF; omega), fiF_0]
theorem r_unfinished_L {Γ : gm_T} {φ : ph_T} {r : Nat} {S : XS} (h : RV Γ φ r S) {m : Nat} (hm : m < 4) : ∀ d t fu, t + d = S.tk.length → d < fu → f_Ref_unfinished_L2 Γ fu φ r (nI m) (nI t) = some (oI (fiF (isUnf m) S.tk t) m1, φ) := by
  have hle := h.tk.hle
  intro d
  induction d with
  | zero =>
    intro t fu hd hf
    match fu, hf with
    | fu + 1, _ =>
      unfold f_Ref_unfinished_L2
      simp (disch := first | assumption | omega) only [h.rl.o, rf_16 h.rl, rg_16 h.rl, rf_17 h.rl, rg_17 h.rl, rf_20 h.rl, rg_20 h.rl, rf_30 h.rl, rg_30 h.rl, Option.bind_some, if_true, zix, h.sc.tk, ↓zm1, zI_ne_m, zI_m_ne, zI_lit, zI_le, zI_eq, zI_mul, zI_lt, zI_modn, zI_div, zI_sub, zI_add, zN_mod]
      rw [if_pos (by omega), fiF_end (by omega)]
      rfl
  | succ d ih =>
    intro t fu hd hf
    match fu, hf with
    | fu + 1, hf =>
      obtain ⟨e, he⟩ := lget (l := S.tk) (t := t) (by omega)
      have hb := h.tk.hbd t e he
      have ht := h.tk.lt he
      have hl := leN_le e.con
      have ih' := ih (t + 1) fu (by omega) (by omega)
      unfold f_Ref_unfinished_L2 f_Ref_unfinished_L46
      simp (disch := first | assumption | omega) only [h.rl.o, rf_16 h.rl, rg_16 h.rl, rf_17 h.rl, rg_17 h.rl, rf_20 h.rl, rg_20 h.rl, rf_30 h.rl, rg_30 h.rl, Option.bind_some, if_true, zix, h.sc.tk, h.tk.hmas t e he, h.tk.hwri t e he, h.tk.hbea t e he, h.tk.hlen t e he, ↓zm1, zI_ne_m, zI_m_ne, zI_lit, zI_le, zI_eq, zI_mul, zI_lt, zI_modn, zI_div, zI_sub, zI_add, zN_mod, bI_eq0, ih']
      rw [if_neg (by omega), fiF_step he]
      unfold isUnf
      by_cases h3 : leN e.con ≤ e.beats
      · have h4 := Nat.not_lt.mpr h3
        by_cases h1 : e.m = m <;> by_cases h2 : e.wr = false <;> simp [h1, h2, h3, h4, oI]
      · have h4 := Nat.lt_of_not_le h3
        by_cases h1 : e.m = m <;> by_cases h2 : e.wr = false <;> simp [h1, h2, h3, h4, oI]
theorem r_unfinished {Γ : gm_T} {φ : ph_T} {r : Nat} {S : XS} (h : RV Γ φ r S) {m : Nat} (hm : m < 4) : f_Ref_unfinished Γ φ r (nI m) = some (oI (S.tk.findIdx? (isUnf m)) m1, φ) := by
  have hle := h.tk.hle
  unfold f_Ref_unfinished
  rw [zI_0, r_unfinished_L h hm S.tk.length 0 jF (by omega) (by unfold jF; omega), fiF_0]
theorem r_answered_L {Γ : gm_T} {φ : ph_T} {r : Nat} {S : XS} (h : RV Γ φ r S) {m id : Nat} (hm : m < 4) (hid : id < 64) (wr : Bool) : ∀ d t fu, t + d = S.tk.length → d < fu → f_Ref_answered_L3 Γ fu φ r (nI m) (nI id) (bI wr) (nI t) = some (oI (fiF (isAns m wr id) S.tk t) m1, φ) := by
  have hle := h.tk.hle
  intro d
  induction d with
  | zero =>
    intro t fu hd hf
    match fu, hf with
    | fu + 1, _ =>
      unfold f_Ref_answered_L3
      simp (disch := first | assumption | omega) only [h.rl.o, rf_16 h.rl, rg_16 h.rl, rf_20 h.rl, rg_20 h.rl, rf_25 h.rl, rg_25 h.rl, rf_28 h.rl, rg_28 h.rl, rf_29 h.rl, rg_29 h.rl, Option.bind_some, if_true, zix, h.sc.tk, ↓zm1, zI_ne_m, zI_m_ne, zI_lit, zI_le, zI_eq, zI_mul, zI_lt, zI_modn, zI_div, zI_sub, zI_add, zN_mod]
      rw [if_pos (by omega), fiF_end (by omega)]
      rfl
  | succ d ih =>
    intro t fu hd hf
    match fu, hf with
    | fu + 1, hf =>
      obtain ⟨e, he⟩ := lget (l := S.tk) (t := t) (by omega)
      have hb := h.tk.hbd t e he
      have ht := h.tk.lt he
      have hl := idN_lt e.con
      have ih' := ih (t + 1) fu (by omega) (by omega)
      unfold f_Ref_answered_L3 f_Ref_answered_L70
      simp (disch := first | assumption | omega) only [h.rl.o, rf_16 h.rl, rg_16 h.rl, rf_20 h.rl, rg_20 h.rl, rf_25 h.rl, rg_25 h.rl, rf_28 h.rl, rg_28 h.rl, rf_29 h.rl, rg_29 h.rl, Option.bind_some, if_true, zix, h.sc.tk, h.tk.hmas t e he, h.tk.hwri t e he, h.tk.hsen t e he, h.tk.hdon t e he, h.tk.hidd t e he, ↓zm1, zI_ne_m, zI_m_ne, zI_lit, zI_le, zI_eq, zI_mul, zI_lt, zI_modn, zI_div, zI_sub, zI_add, zN_mod, bI_eq, ih']
      rw [if_neg (by omega), fiF_step he]
      unfold isAns
      by_cases h1 : e.m = m <;> by_cases h2 : e.wr = wr <;> by_cases h3 : idN e.con = id <;> by_cases h4 : e.sent = m1 <;> by_cases h5 : e.done = m1 <;> simp [h1, h2, h3, h4, h5, oI]
theorem r_answered {Γ : gm_T} {φ : ph_T} {r : Nat} {S : XS} (h : RV Γ φ r S) {m id : Nat} (hm : m < 4) (hid : id < 64) (wr : Bool) : f_Ref_answered Γ φ r (nI m) (nI id) (bI wr) = some (oI (S.tk.findIdx? (isAns m wr id)) m1, φ) := by
  have hle := h.tk.hle
  unfold f_Ref_answered
  rw [zI_0, r_answered_L h hm hid wr S.tk.length 0 jF (by omega) (by unfold jF; omega), fiF_0]
theorem r_open_L {Γ : gm_T} {φ : ph_T} {r : Nat} {S : XS} (h : RV Γ φ r S) : ∀ d t n fu, t + d = S.tk.length → d < fu → f_Ref_open_L4 Γ fu φ r (nI n) (nI t) = some (nI (n + (S.tk.drop t).countP isOpn), φ) := by
  have hle := h.tk.hle
  intro d
  induction d with
  | zero =>
    intro t n fu hd hf
    match fu, hf with
    | fu + 1, _ =>
      unfold f_Ref_open_L4
      simp (disch := first | assumption | omega) only [h.rl.o, rf_29 h.rl, rg_29 h.rl, Option.bind_some, if_true, zix, h.sc.tk, ↓zm1, zI_ne_m, zI_m_ne, zI_lit, zI_le, zI_eq, zI_mul, zI_lt, zI_modn, zI_div, zI_sub, zI_add, zN_mod]
      rw [if_pos (by omega), List.drop_eq_nil_of_le (by omega)]
      rfl
  | succ d ih =>
    intro t n fu hd hf
    match fu, hf with
    | fu + 1, hf =>
      obtain ⟨e, he⟩ := lget (l := S.tk) (t := t) (by omega)
      have ht := h.tk.lt he
      obtain ⟨g1, g2⟩ := List.getElem?_eq_some_iff.mp he
      unfold f_Ref_open_L4 f_Ref_open_L28
      simp (disch := first | assumption | omega) only [h.rl.o, rf_29 h.rl, rg_29 h.rl, Option.bind_some, if_true, zix, h.sc.tk, h.tk.hdon t e he, ↓zm1, zI_ne_m, zI_m_ne, zI_lit, zI_le, zI_eq, zI_mul, zI_lt, zI_modn, zI_div, zI_sub, zI_add, zN_mod]
      rw [if_neg (by omega), List.drop_eq_getElem_cons g1, g2, List.countP_cons]
      by_cases h1 : e.done = m1
      · rw [if_pos h1, ih (t + 1) (n + 1) fu (by omega) (by omega)]
        simp [isOpn, h1]
        congr 1; omega
      · rw [if_neg h1, ih (t + 1) (n + 0) fu (by omega) (by omega)]
        simp [isOpn, h1]
theorem r_open {Γ : gm_T} {φ : ph_T} {r : Nat} {S : XS} (h : RV Γ φ r S) : f_Ref_open Γ φ r = some (nI S.opn, φ) := by
  have hle := h.tk.hle
  unfold f_Ref_open
  rw [zI_0, r_open_L h S.tk.length 0 0 jF (by omega) (by unfold jF; omega)]
  simp [XS.opn]
