/-! THE REFERENCE's slaves choose -/
def Bd (S : XS) : Prop := (1 ≤ S.nm ∧ S.nm ≤ 4) ∧ (1 ≤ S.ns ∧ S.ns ≤ 4) ∧ (1 ≤ S.lim ∧ S.lim ≤ 8) ∧ (S.pol < 4) ∧ (S.time < 2 ^ 24) ∧ (S.dbeat < 16) ∧ (S.moved ≤ 60 * S.time + 60) ∧ (∀ p, S.pages p ≤ S.ns) ∧ (∀ m c, S.mpat m c < 65536) ∧ (∀ m c, S.spat m c < 65536) ∧ (∀ s, S.delay s < 16) ∧ (∀ s, S.way s < 3) ∧ (∀ y, S.mem y < 256) ∧ (∀ s, ∀ e ∈ S.sw s, e.since < 2 ^ 24 ∧ e.got ≤ leN e.con ∧ e.resp < 4 ∧ ruN e.con = 0) ∧ (∀ s, ∀ e ∈ S.sr s, e.since < 2 ^ 24 ∧ e.num < 2 ^ 24 ∧ e.got < leN e.con ∧ ruN e.con = 0 ∧ ∀ k, e.rsp k < 4) ∧ (∀ s, S.rnum s < 2 ^ 24) ∧ (∀ s q, S.lat s = some q → q.1 < 2 ^ 24 ∧ q.2 < 2 ^ 24) ∧ (∀ u ∈ S.uw, u.m < 4 ∧ u.id < 16 ∧ u.tg < 5 ∧ u.left ≤ 16) ∧ (∀ u ∈ S.ur, u.m < 4 ∧ u.id < 16 ∧ u.tg < 5 ∧ u.left = 0) ∧ (∀ t m, S.la t = some m → m < S.nm) ∧ (∀ t m, S.lr t = some m → m < S.nm) ∧ (∀ t m, S.lb t = some m → m ≤ S.ns) ∧ (∀ t m, S.lg t = some m → m ≤ S.ns) ∧ (∀ s j q, S.rgt s j = some q → q.1 < 65536 ∧ q.2 < 129) ∧ (∀ i, ∀ e ∈ S.row i, e.t < 2 ^ 24) ∧ (∀ e ∈ S.tk, e.resp < 4)
theorem Bd.nm {S : XS} (h : Bd S) : 1 ≤ S.nm ∧ S.nm ≤ 4 := h.1
theorem Bd.ns {S : XS} (h : Bd S) : 1 ≤ S.ns ∧ S.ns ≤ 4 := h.2.1
theorem Bd.lim {S : XS} (h : Bd S) : 1 ≤ S.lim ∧ S.lim ≤ 8 := h.2.2.1
theorem Bd.pol {S : XS} (h : Bd S) : S.pol < 4 := h.2.2.2.1
theorem Bd.time {S : XS} (h : Bd S) : S.time < 2 ^ 24 := h.2.2.2.2.1
theorem Bd.db {S : XS} (h : Bd S) : S.dbeat < 16 := h.2.2.2.2.2.1
theorem Bd.moved {S : XS} (h : Bd S) : S.moved ≤ 60 * S.time + 60 := h.2.2.2.2.2.2.1
theorem Bd.pages {S : XS} (h : Bd S) : ∀ p, S.pages p ≤ S.ns := h.2.2.2.2.2.2.2.1
theorem Bd.mpat {S : XS} (h : Bd S) : ∀ m c, S.mpat m c < 65536 := h.2.2.2.2.2.2.2.2.1
theorem Bd.spat {S : XS} (h : Bd S) : ∀ m c, S.spat m c < 65536 := h.2.2.2.2.2.2.2.2.2.1
theorem Bd.delay {S : XS} (h : Bd S) : ∀ s, S.delay s < 16 := h.2.2.2.2.2.2.2.2.2.2.1
theorem Bd.way {S : XS} (h : Bd S) : ∀ s, S.way s < 3 := h.2.2.2.2.2.2.2.2.2.2.2.1
theorem Bd.mem {S : XS} (h : Bd S) : ∀ y, S.mem y < 256 := h.2.2.2.2.2.2.2.2.2.2.2.2.1
theorem Bd.sw {S : XS} (h : Bd S) : ∀ s, ∀ e ∈ S.sw s, e.since < 2 ^ 24 ∧ e.got ≤ leN e.con ∧ e.resp < 4 ∧ ruN e.con = 0 := h.2.2.2.2.2.2.2.2.2.2.2.2.2.1
theorem Bd.sr {S : XS} (h : Bd S) : ∀ s, ∀ e ∈ S.sr s, e.since < 2 ^ 24 ∧ e.num < 2 ^ 24 ∧ e.got < leN e.con ∧ ruN e.con = 0 ∧ ∀ k, e.rsp k < 4 := h.2.2.2.2.2.2.2.2.2.2.2.2.2.2.1
theorem Bd.rnum {S : XS} (h : Bd S) : ∀ s, S.rnum s < 2 ^ 24 := h.2.2.2.2.2.2.2.2.2.2.2.2.2.2.2.1
theorem Bd.lat {S : XS} (h : Bd S) : ∀ s q, S.lat s = some q → q.1 < 2 ^ 24 ∧ q.2 < 2 ^ 24 := h.2.2.2.2.2.2.2.2.2.2.2.2.2.2.2.2.1
theorem Bd.uw {S : XS} (h : Bd S) : ∀ u ∈ S.uw, u.m < 4 ∧ u.id < 16 ∧ u.tg < 5 ∧ u.left ≤ 16 := h.2.2.2.2.2.2.2.2.2.2.2.2.2.2.2.2.2.1
theorem Bd.ur {S : XS} (h : Bd S) : ∀ u ∈ S.ur, u.m < 4 ∧ u.id < 16 ∧ u.tg < 5 ∧ u.left = 0 := h.2.2.2.2.2.2.2.2.2.2.2.2.2.2.2.2.2.2.1
theorem Bd.la {S : XS} (h : Bd S) : ∀ t m, S.la t = some m → m < S.nm := h.2.2.2.2.2.2.2.2.2.2.2.2.2.2.2.2.2.2.2.1
theorem Bd.lr {S : XS} (h : Bd S) : ∀ t m, S.lr t = some m → m < S.nm := h.2.2.2.2.2.2.2.2.2.2.2.2.2.2.2.2.2.2.2.2.1
theorem Bd.lb {S : XS} (h : Bd S) : ∀ t m, S.lb t = some m → m ≤ S.ns := h.2.2.2.2.2.2.2.2.2.2.2.2.2.2.2.2.2.2.2.2.2.1
theorem Bd.lg {S : XS} (h : Bd S) : ∀ t m, S.lg t = some m → m ≤ S.ns := h.2.2.2.2.2.2.2.2.2.2.2.2.2.2.2.2.2.2.2.2.2.2.1
theorem Bd.rgt {S : XS} (h : Bd S) : ∀ s j q, S.rgt s j = some q → q.1 < 65536 ∧ q.2 < 129 := h.2.2.2.2.2.2.2.2.2.2.2.2.2.2.2.2.2.2.2.2.2.2.2.1
theorem Bd.rowT {S : XS} (h : Bd S) : ∀ i, ∀ e ∈ S.row i, e.t < 2 ^ 24 := h.2.2.2.2.2.2.2.2.2.2.2.2.2.2.2.2.2.2.2.2.2.2.2.2.1
theorem Bd.tk {S : XS} (h : Bd S) : ∀ e ∈ S.tk, e.resp < 4 := h.2.2.2.2.2.2.2.2.2.2.2.2.2.2.2.2.2.2.2.2.2.2.2.2.2
theorem lmem {α : Type} {l : List α} {k : Nat} {e : α} (h : l[k]? = some e) : e ∈ l := List.mem_of_getElem? h
theorem llt {α : Type} {l : List α} {k : Nat} {e : α} (h : l[k]? = some e) : k < l.length := (List.getElem?_eq_some_iff.mp h).1
theorem r_wripe {Γ : gm_T} {φ : ph_T} {r : Nat} {S : XS} (h : RV Γ φ r S) (hB : Bd S) {s k : Nat} (hs : s < 4) {e : WE} (he : (S.sw s)[k]? = some e) : f_Ref_isWriteRipe Γ φ r (nI e.place) (nI s) = some (bI (S.ripeW s e), φ) := by
  have h1 := h.sw.hat s k e hs he
  have h2 := h.sw.hent s k e hs he
  have h3 := hB.sw s e (lmem he)
  have h4 := hB.delay s
  have h5 := hB.time
  unfold f_Ref_isWriteRipe f_Ref_isWriteRipe_L36 f_Ref_isWriteRipe_L37 XS.ripeW
  simp (disch := first | assumption | omega) only [h.rl.o, rf_11 h.rl, rg_11 h.rl, rf_63 h.rl, rg_63 h.rl, Option.bind_some, if_true, zix, h2.2.2.1, h.de s hs, h.sc.time]
  by_cases hg : e.got = leN e.con
  · simp (disch := first | assumption | omega) only [hg, if_true, ↓zm1, zI_ne_m, zI_m_ne, zI_lit, zI_le, zI_eq, zI_mul, zI_lt, zI_modn, zI_div, zI_sub, zI_add, zN_mod]
    by_cases ht : e.since + S.delay s < S.time
    · rw [if_neg (show ¬ S.time < e.since + S.delay s + 1 by omega)]
      simp [ht, bI]
    · rw [if_pos (show S.time < e.since + S.delay s + 1 by omega)]
      simp [ht, bI]
  · simp only [hg, if_false, ↓zm1, if_true, zI_lit]
    simp [bI]
theorem r_rripe {Γ : gm_T} {φ : ph_T} {r : Nat} {S : XS} (h : RV Γ φ r S) (hB : Bd S) {s k : Nat} (hs : s < 4) {e : QE} (he : (S.sr s)[k]? = some e) : f_Ref_isReadRipe Γ φ r (nI e.place) (nI s) = some (bI (S.ripeR s e), φ) := by
  have h1 := h.sr.hat s k e hs he
  have h2 := h.sr.hent s k e hs he
  have h3 := hB.sr s e (lmem he)
  have h4 := hB.delay s
  have h5 := hB.time
  unfold f_Ref_isReadRipe f_Ref_isReadRipe_L27 XS.ripeR
  simp (disch := first | assumption | omega) only [h.rl.o, rf_11 h.rl, rg_11 h.rl, rf_72 h.rl, rg_72 h.rl, Option.bind_some, if_true, zix, h2.2.2.1, h.de s hs, h.sc.time, ↓zm1, zI_ne_m, zI_m_ne, zI_lit, zI_le, zI_eq, zI_mul, zI_lt, zI_modn, zI_div, zI_sub, zI_add, zN_mod]
  by_cases ht : e.since + S.delay s < S.time
  · rw [if_neg (show ¬ S.time < e.since + S.delay s + 1 by omega)]
    simp [ht, bI]
  · rw [if_pos (show S.time < e.since + S.delay s + 1 by omega)]
    simp [ht, bI]
theorem r_firstW_L {Γ : gm_T} {φ : ph_T} {r : Nat} {S : XS} (h : RV Γ φ r S) {s k : Nat} (hs : s < 4) {e : WE} (he : (S.sw s)[k]? = some e) : ∀ d j b fu, j + d = k → d < fu →
    f_Ref_isFirstWithId_L6 Γ fu φ r (nI s) (nI k) (nI 1) (bI b) (nI j) = some (bI (b && (List.range' j d).all fun i => decide (((S.sw s).map fun e => idN e.con)[i]? ≠ ((S.sw s).map fun e => idN e.con)[k]?)), φ) := by
  have hk := llt he
  have hle := h.sw.hle s hs
  have h1 := h.sw.hat s k e hs he
  have h2 := h.sw.hent s k e hs he
  intro d
  induction d with
  | zero =>
    intro j b fu hd hf
    match fu, hf with
    | fu + 1, _ =>
      unfold f_Ref_isFirstWithId_L6
      simp (disch := first | assumption | omega) only [↓zm1, zI_ne_m, zI_m_ne, zI_lit, zI_le, zI_eq, zI_mul, zI_lt, zI_modn, zI_div, zI_sub, zI_add, zN_mod, bI_ok, if_true]
      rw [if_pos (show k ≤ j by omega)]
      simp
  | succ d ih =>
    intro j b fu hd hf
    match fu, hf with
    | fu + 1, hf =>
      obtain ⟨e2, he2⟩ := lget (l := S.sw s) (t := j) (by omega)
      have g1 := h.sw.hat s j e2 hs he2
      have g2 := h.sw.hent s j e2 hs he2
      have i1 := idN_lt e.con
      have i2 := idN_lt e2.con
      unfold f_Ref_isFirstWithId_L6 f_Ref_isFirstWithId_L51 f_Ref_isFirstWithId_L90 f_Ref_isFirstWithId_L114 f_Ref_isFirstWithId_L115
      simp (disch := first | assumption | omega) only [h.rl.o, rf_59 h.rl, rg_59 h.rl, rf_61 h.rl, rg_61 h.rl, rf_68 h.rl, rg_68 h.rl, rf_70 h.rl, rg_70 h.rl, Option.bind_some, if_true, zix, ↓zm1, zI_ne_m, zI_m_ne, zI_lit, zI_le, zI_eq, zI_mul, zI_lt, zI_modn, zI_div, zI_sub, zI_add, zN_mod]
      simp (disch := first | assumption | omega) only [g1, h1, zix, Option.bind_some, e_Ref_idOf, g2, h2, ↓zm1, zI_ne_m, zI_m_ne, zI_lit, zI_le, zI_eq, zI_mul, zI_lt, zI_modn, zI_div, zI_sub, zI_add, zN_mod, bI_eq0]
      rw [if_neg (show ¬ k ≤ j by omega), if_neg (show ¬ (1 = 0) by omega), if_neg (show ¬ (1 = 0) by omega)]
      have ihf := ih (j + 1) false fu (by omega) (by omega)
      have iht := ih (j + 1) true fu (by omega) (by omega)
      rw [show bI false = nI 0 from rfl] at ihf
      rw [show bI true = nI 1 from rfl] at iht
      rw [ihf, iht, List.range'_succ, List.all_cons]
      simp only [List.getElem?_map, he, he2, Option.map_some]
      by_cases hc : idN e2.con = idN e.con
      · cases b <;> simp [hc]
      · cases b <;> simp [hc]
theorem r_firstW {Γ : gm_T} {φ : ph_T} {r : Nat} {S : XS} (h : RV Γ φ r S) {s k : Nat} (hs : s < 4) {e : WE} (he : (S.sw s)[k]? = some e) : f_Ref_isFirstWithId Γ φ r (nI s) (nI k) (nI 1) = some (bI (fstId ((S.sw s).map fun e => idN e.con) k), φ) := by
  have hk := llt he
  have hle := h.sw.hle s hs
  unfold f_Ref_isFirstWithId fstId
  rw [zI_0, show (1 : Int32) = bI true from rfl, r_firstW_L h hs he k 0 true jF (by omega) (by unfold jF; omega), List.range_eq_range', Bool.true_and]
theorem r_firstR_L {Γ : gm_T} {φ : ph_T} {r : Nat} {S : XS} (h : RV Γ φ r S) {s k : Nat} (hs : s < 4) {e : QE} (he : (S.sr s)[k]? = some e) : ∀ d j b fu, j + d = k → d < fu →
    f_Ref_isFirstWithId_L6 Γ fu φ r (nI s) (nI k) (nI 0) (bI b) (nI j) = some (bI (b && (List.range' j d).all fun i => decide (((S.sr s).map fun e => idN e.con)[i]? ≠ ((S.sr s).map fun e => idN e.con)[k]?)), φ) := by
  have hk := llt he
  have hle := h.sr.hle s hs
  have h1 := h.sr.hat s k e hs he
  have h2 := h.sr.hent s k e hs he
  intro d
  induction d with
  | zero =>
    intro j b fu hd hf
    match fu, hf with
    | fu + 1, _ =>
      unfold f_Ref_isFirstWithId_L6
      simp (disch := first | assumption | omega) only [↓zm1, zI_ne_m, zI_m_ne, zI_lit, zI_le, zI_eq, zI_mul, zI_lt, zI_modn, zI_div, zI_sub, zI_add, zN_mod, bI_ok, if_true]
      rw [if_pos (show k ≤ j by omega)]
      simp
  | succ d ih =>
    intro j b fu hd hf
    match fu, hf with
    | fu + 1, hf =>
      obtain ⟨e2, he2⟩ := lget (l := S.sr s) (t := j) (by omega)
      have g1 := h.sr.hat s j e2 hs he2
      have g2 := h.sr.hent s j e2 hs he2
      have i1 := idN_lt e.con
      have i2 := idN_lt e2.con
      unfold f_Ref_isFirstWithId_L6 f_Ref_isFirstWithId_L51 f_Ref_isFirstWithId_L90 f_Ref_isFirstWithId_L114 f_Ref_isFirstWithId_L115
      simp (disch := first | assumption | omega) only [h.rl.o, rf_59 h.rl, rg_59 h.rl, rf_61 h.rl, rg_61 h.rl, rf_68 h.rl, rg_68 h.rl, rf_70 h.rl, rg_70 h.rl, Option.bind_some, if_true, zix, ↓zm1, zI_ne_m, zI_m_ne, zI_lit, zI_le, zI_eq, zI_mul, zI_lt, zI_modn, zI_div, zI_sub, zI_add, zN_mod]
      simp (disch := first | assumption | omega) only [g1, h1, zix, Option.bind_some, e_Ref_idOf, g2, h2, ↓zm1, zI_ne_m, zI_m_ne, zI_lit, zI_le, zI_eq, zI_mul, zI_lt, zI_modn, zI_div, zI_sub, zI_add, zN_mod, bI_eq0]
      rw [if_neg (show ¬ k ≤ j by omega)]
      have ihf := ih (j + 1) false fu (by omega) (by omega)
      have iht := ih (j + 1) true fu (by omega) (by omega)
      rw [show bI false = nI 0 from rfl] at ihf
      rw [show bI true = nI 1 from rfl] at iht
      rw [ihf, iht, List.range'_succ, List.all_cons]
      simp only [List.getElem?_map, he, he2, Option.map_some]
      by_cases hc : idN e2.con = idN e.con
      · cases b <;> simp [hc]
      · cases b <;> simp [hc]
theorem r_firstR {Γ : gm_T} {φ : ph_T} {r : Nat} {S : XS} (h : RV Γ φ r S) {s k : Nat} (hs : s < 4) {e : QE} (he : (S.sr s)[k]? = some e) : f_Ref_isFirstWithId Γ φ r (nI s) (nI k) (nI 0) = some (bI (fstId ((S.sr s).map fun e => idN e.con) k), φ) := by
  have hk := llt he
  have hle := h.sr.hle s hs
  unfold f_Ref_isFirstWithId fstId
  rw [show (1 : Int32) = bI true from rfl, show (0 : Int32) = nI 0 from rfl, r_firstR_L h hs he k 0 true jF (by omega) (by unfold jF; omega), List.range_eq_range', Bool.true_and]
