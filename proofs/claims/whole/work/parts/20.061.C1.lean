/-! THE CLASS: what is under way -/
def CUw (Γ : gm_T) (φ : ph_T) (a : Nat) (l : List UE) : Prop := (Γ a = .inr 9) ∧ (φ.2.2 a 0 = some (a + 1)) ∧ (φ.2.2 a 1 = some (a + 2)) ∧ (φ.2.2 a 2 = some (a + 3)) ∧ (φ.2.2 a 3 = some (a + 4)) ∧ (gA Γ (a + 1) 0 = some 8) ∧ (gA Γ (a + 2) 0 = some 8) ∧ (gA Γ (a + 3) 0 = some 8) ∧ (gA Γ (a + 4) 0 = some 8) ∧ (φ.1 a 4 = nI l.length) ∧ (l.length ≤ 8) ∧ (∀ (k : Nat) (x : UE), l[k]? = some x → φ.1 (a + 1) k = nI x.id ∧ φ.1 (a + 2) k = nI x.tg ∧ φ.1 (a + 3) k = nI x.left ∧ φ.1 (a + 4) k = nI x.num) ∧ (∀ (k : Nat) (x : UE), l[k]? = some x → x.id < 64 ∧ x.tg < 8 ∧ x.left ≤ 16 ∧ x.num < 2 ^ 30)
theorem CUw.o {Γ : gm_T} {φ : ph_T} {a : Nat} {l : List UE} (h : CUw Γ φ a l) : Γ a = .inr 9 := h.1
theorem CUw.f0 {Γ : gm_T} {φ : ph_T} {a : Nat} {l : List UE} (h : CUw Γ φ a l) : φ.2.2 a 0 = some (a + 1) := h.2.1
theorem CUw.f1 {Γ : gm_T} {φ : ph_T} {a : Nat} {l : List UE} (h : CUw Γ φ a l) : φ.2.2 a 1 = some (a + 2) := h.2.2.1
theorem CUw.f2 {Γ : gm_T} {φ : ph_T} {a : Nat} {l : List UE} (h : CUw Γ φ a l) : φ.2.2 a 2 = some (a + 3) := h.2.2.2.1
theorem CUw.f3 {Γ : gm_T} {φ : ph_T} {a : Nat} {l : List UE} (h : CUw Γ φ a l) : φ.2.2 a 3 = some (a + 4) := h.2.2.2.2.1
theorem CUw.g0 {Γ : gm_T} {φ : ph_T} {a : Nat} {l : List UE} (h : CUw Γ φ a l) : gA Γ (a + 1) 0 = some 8 := h.2.2.2.2.2.1
theorem CUw.g1 {Γ : gm_T} {φ : ph_T} {a : Nat} {l : List UE} (h : CUw Γ φ a l) : gA Γ (a + 2) 0 = some 8 := h.2.2.2.2.2.2.1
theorem CUw.g2 {Γ : gm_T} {φ : ph_T} {a : Nat} {l : List UE} (h : CUw Γ φ a l) : gA Γ (a + 3) 0 = some 8 := h.2.2.2.2.2.2.2.1
theorem CUw.g3 {Γ : gm_T} {φ : ph_T} {a : Nat} {l : List UE} (h : CUw Γ φ a l) : gA Γ (a + 4) 0 = some 8 := h.2.2.2.2.2.2.2.2.1
theorem CUw.n {Γ : gm_T} {φ : ph_T} {a : Nat} {l : List UE} (h : CUw Γ φ a l) : φ.1 a 4 = nI l.length := h.2.2.2.2.2.2.2.2.2.1
theorem CUw.le {Γ : gm_T} {φ : ph_T} {a : Nat} {l : List UE} (h : CUw Γ φ a l) : l.length ≤ 8 := h.2.2.2.2.2.2.2.2.2.2.1
theorem CUw.e {Γ : gm_T} {φ : ph_T} {a : Nat} {l : List UE} (h : CUw Γ φ a l) : ∀ (k : Nat) (x : UE), l[k]? = some x → φ.1 (a + 1) k = nI x.id ∧ φ.1 (a + 2) k = nI x.tg ∧ φ.1 (a + 3) k = nI x.left ∧ φ.1 (a + 4) k = nI x.num := h.2.2.2.2.2.2.2.2.2.2.2.1
theorem CUw.b {Γ : gm_T} {φ : ph_T} {a : Nat} {l : List UE} (h : CUw Γ φ a l) : ∀ (k : Nat) (x : UE), l[k]? = some x → x.id < 64 ∧ x.tg < 8 ∧ x.left ≤ 16 ∧ x.num < 2 ^ 30 := h.2.2.2.2.2.2.2.2.2.2.2.2
theorem CUw.sm {Γ : gm_T} {φ φ' : ph_T} {a : Nat} {l : List UE} (h : CUw Γ φ a l) (s : Sm a (a + 5) φ φ') : CUw Γ φ' a l := by
  refine ⟨h.o, ?_, ?_, ?_, ?_, h.g0, h.g1, h.g2, h.g3, ?_, h.le, ?_, h.b⟩
  · rw [s.r (by omega) (by omega)]; exact h.f0
  · rw [s.r (by omega) (by omega)]; exact h.f1
  · rw [s.r (by omega) (by omega)]; exact h.f2
  · rw [s.r (by omega) (by omega)]; exact h.f3
  · rw [s.i (by omega) (by omega)]; exact h.n
  · intro k x hx
    rw [s.i (by omega) (by omega), s.i (by omega) (by omega), s.i (by omega) (by omega), s.i (by omega) (by omega)]; exact h.e k x hx
theorem drop_cons' {α : Type} {l : List α} {i : Nat} (h : i < l.length) : ∃ x, l[i]? = some x ∧ l.drop i = x :: l.drop (i + 1) := ⟨l[i], List.getElem?_eq_getElem h, (List.drop_eq_getElem_cons h)⟩
theorem c_mayGo_L {Γ : gm_T} {φ : ph_T} {a : Nat} {l : List UE} (h : CUw Γ φ a l) {id t : Nat} (hid : id < 64) (ht : t < 8) : ∀ (d i fu : Nat), i + d = l.length → d < fu →
    f_UnderWay_mayGo_L22 Γ fu φ a (nI id) (nI t) (nI i) = some (bI ((l.drop i).all (okG t id)), φ) := by
  have h8 := h.le
  intro d
  induction d with
  | zero =>
    intro i fu hd hfu
    match fu, hfu with
    | fu + 1, _ =>
      unfold f_UnderWay_mayGo_L22
      simp (disch := first | assumption | omega) only [h.o, if_true, h.n, ↓zm1, zI_ne_m, zI_m_ne, zI_lit, zI_le, zI_eq, zI_mul, zI_lt, zI_modn, zI_div, zI_sub, zI_add, zN_mod]
      rw [if_pos (by omega), if_pos (by decide), List.drop_eq_nil_of_le (by omega)]
      rfl
  | succ d ih =>
    intro i fu hd hfu
    match fu, hfu with
    | fu + 1, hfu =>
      obtain ⟨x, hx, hdr⟩ := drop_cons' (l := l) (i := i) (by omega)
      obtain ⟨e0, e1, e2, e3⟩ := h.e i x hx
      obtain ⟨b0, b1, b2, b3⟩ := h.b i x hx
      have hr := ih (i + 1) fu (by omega) (by omega)
      unfold f_UnderWay_mayGo_L22 f_UnderWay_mayGo_L65 f_UnderWay_mayGo_L63
      simp (disch := first | assumption | omega) only [h.o, h.f0, h.f1, h.f2, h.g0, h.g1, h.g2, if_true, h.n, Option.bind_some, zix, e0, e1, e2, ↓zm1, zI_ne_m, zI_m_ne, zI_lit, zI_le, zI_eq, zI_mul, zI_lt, zI_modn, zI_div, zI_sub, zI_add, zN_mod]
      rw [if_neg (by omega), hr, hdr, List.all_cons, okG]
      by_cases c1 : x.tg = t
      · simp [c1]
      · rw [if_neg c1]
        by_cases c2 : x.id = id
        · rw [if_pos c2, if_pos (by decide)]; simp [c1, c2, bI_f]
        · rw [if_neg c2]
          by_cases c3 : x.left = 0
          · rw [if_pos (by omega)]; simp [c1, c2, c3]
          · rw [if_neg (by omega), if_pos (by decide)]; simp [c1, c3, bI_f]
theorem c_mayGo {Γ : gm_T} {φ : ph_T} {a : Nat} {l : List UE} (h : CUw Γ φ a l) {id t lim : Nat} (hid : id < 64) (ht : t < 8) (hl : lim ≤ 8) :
    f_UnderWay_mayGo Γ φ a (nI id) (nI t) (nI lim) = some (bI (decide (l.length < lim) && l.all (okG t id)), φ) := by
  have h8 := h.le
  unfold f_UnderWay_mayGo f_UnderWay_mayGo_L17
  rw [zI_0, c_mayGo_L h hid ht l.length 0 jF (by omega) (by unfold jF; omega)]
  simp (disch := first | assumption | omega) only [h.o, if_true, h.n, ↓zm1, zI_ne_m, zI_m_ne, zI_lit, zI_le, zI_eq, zI_mul, zI_lt, zI_modn, zI_div, zI_sub, zI_add, zN_mod, List.drop_zero]
  by_cases c1 : l.length < lim
  · rw [if_neg (by omega), if_pos (by omega)]; simp [c1]
  · rw [if_pos (by omega), if_pos (by decide)]; simp [c1, bI_f]
theorem c_addU {Γ : gm_T} {φ : ph_T} {a : Nat} {l : List UE} (h : CUw Γ φ a l) (hl : l.length < 8) (x : UE) (hb : x.id < 64 ∧ x.tg < 8 ∧ x.left ≤ 16 ∧ x.num < 2 ^ 30) :
    ∃ φ', f_UnderWay_add Γ φ a (nI x.id) (nI x.tg) (nI x.left) (nI x.num) = some ((), φ') ∧ CUw Γ φ' a (l ++ [x]) ∧ Fr a (a + 5) φ φ' := by
  unfold f_UnderWay_add f_UnderWay_add_L60
  simp (disch := first | assumption | omega) only [h.o, h.f0, h.f1, h.f2, h.f3, h.g0, h.g1, h.g2, h.g3, Option.bind_some, if_true, h.n, ↓zm1, zI_ne_m, zI_m_ne, zI_lit, zI_le, zI_eq, zI_mul, zI_lt, zI_modn, zI_div, zI_sub, zI_add, zN_mod, uI_1, uI_2, uI_3, uL_1, uL_2, uL_3, vz_at, Nat.add_left_cancel_iff, Nat.reduceEqDiff, if_false, zr1, zr2, zix]
  rw [if_neg (by omega)]
  refine ⟨_, rfl, ⟨h.o, h.f0, h.f1, h.f2, h.f3, h.g0, h.g1, h.g2, h.g3, ?_, ?_, ?_, ?_⟩, ?_⟩
  · simp [uI_1, vz_at]
  · simp; omega
  · intro k y hy
    simp (disch := first | assumption | omega) only [uI_1, uI_2, uI_3, uL_1, uL_2, uL_3, vz_at, Nat.add_left_cancel_iff, Nat.reduceEqDiff, if_false, zr1, zr2, if_true]
    by_cases hk : k < l.length
    · rw [List.getElem?_append_left hk] at hy
      rw [if_neg (by omega), if_neg (by omega), if_neg (by omega), if_neg (by omega)]
      exact h.e k y hy
    · have hk2 : k = l.length := by
        have := (List.getElem?_eq_some_iff.mp hy).1
        simp at this
        omega
      subst hk2
      simp at hy
      subst hy
      simp only [if_true, and_self]
  · intro k y hy
    by_cases hk : k < l.length
    · rw [List.getElem?_append_left hk] at hy
      exact h.b k y hy
    · have hk2 : k = l.length := by
        have := (List.getElem?_eq_some_iff.mp hy).1
        simp at this
        omega
      subst hk2
      simp at hy
      subst hy
      exact hb
  · repeat (first | exact Fr.refl _ _ _ | refine fr_uI ?_ (by omega) _ _ | refine fr_uL ?_ (by omega) _ _)
theorem c_firstWD_L {Γ : gm_T} {φ : ph_T} {a : Nat} {l : List UE} (h : CUw Γ φ a l) : ∀ (d i fu : Nat), i + d = l.length → d < fu →
    f_UnderWay_firstWithData_L2 Γ fu φ a (nI i) = some (oI (((l.drop i).findIdx? (fun e => decide (0 < e.left))).map (· + i)) m1, φ) := by
  have h8 := h.le
  intro d
  induction d with
  | zero =>
    intro i fu hd hfu
    match fu, hfu with
    | fu + 1, _ =>
      unfold f_UnderWay_firstWithData_L2
      simp (disch := first | assumption | omega) only [h.o, if_true, h.n, ↓zm1, zI_ne_m, zI_m_ne, zI_lit, zI_le, zI_eq, zI_mul, zI_lt, zI_modn, zI_div, zI_sub, zI_add, zN_mod]
      rw [if_pos (by omega), List.drop_eq_nil_of_le (by omega)]
      rfl
  | succ d ih =>
    intro i fu hd hfu
    match fu, hfu with
    | fu + 1, hfu =>
      obtain ⟨x, hx, hdr⟩ := drop_cons' (l := l) (i := i) (by omega)
      obtain ⟨e0, e1, e2, e3⟩ := h.e i x hx
      obtain ⟨b0, b1, b2, b3⟩ := h.b i x hx
      have hr := ih (i + 1) fu (by omega) (by omega)
      unfold f_UnderWay_firstWithData_L2
      simp (disch := first | assumption | omega) only [h.o, h.f2, h.g2, if_true, h.n, Option.bind_some, zix, e2, ↓zm1, zI_ne_m, zI_m_ne, zI_lit, zI_le, zI_eq, zI_mul, zI_lt, zI_modn, zI_div, zI_sub, zI_add, zN_mod]
      rw [if_neg (by omega), hr, hdr, List.findIdx?_cons]
      by_cases c3 : x.left = 0
      · rw [if_pos (by omega)]
        simp only [c3, Nat.lt_irrefl, decide_false, Bool.false_eq_true, if_false, Option.map_map]
        congr 3
        congr 1
        funext j
        simp only [Function.comp]
        omega
      · rw [if_neg (by omega)]
        simp [show 0 < x.left by omega, oI]
theorem c_firstWD {Γ : gm_T} {φ : ph_T} {a : Nat} {l : List UE} (h : CUw Γ φ a l) : f_UnderWay_firstWithData Γ φ a = some (oI (l.findIdx? (fun e => decide (0 < e.left))) m1, φ) := by
  have h8 := h.le
  unfold f_UnderWay_firstWithData
  rw [zI_0, c_firstWD_L h l.length 0 jF (by omega) (by unfold jF; omega)]
  simp
theorem c_countTo_L {Γ : gm_T} {φ : ph_T} {a : Nat} {l : List UE} (h : CUw Γ φ a l) {t : Nat} (ht : t < 8) : ∀ (d i n fu : Nat), i + d = l.length → d < fu →
    f_UnderWay_countTo_L4 Γ fu φ a (nI t) (nI n) (nI i) = some (nI (n + (l.drop i).countP (fun e => decide (e.tg = t))), φ) := by
  have h8 := h.le
  intro d
  induction d with
  | zero =>
    intro i n fu hd hfu
    match fu, hfu with
    | fu + 1, _ =>
      unfold f_UnderWay_countTo_L4
      simp (disch := first | assumption | omega) only [h.o, if_true, h.n, ↓zm1, zI_ne_m, zI_m_ne, zI_lit, zI_le, zI_eq, zI_mul, zI_lt, zI_modn, zI_div, zI_sub, zI_add, zN_mod]
      rw [if_pos (by omega), List.drop_eq_nil_of_le (by omega)]
      rfl
  | succ d ih =>
    intro i n fu hd hfu
    match fu, hfu with
    | fu + 1, hfu =>
      obtain ⟨x, hx, hdr⟩ := drop_cons' (l := l) (i := i) (by omega)
      obtain ⟨e0, e1, e2, e3⟩ := h.e i x hx
      obtain ⟨b0, b1, b2, b3⟩ := h.b i x hx
      unfold f_UnderWay_countTo_L4 f_UnderWay_countTo_L28
      simp (disch := first | assumption | omega) only [h.o, h.f1, h.g1, if_true, h.n, Option.bind_some, zix, e1, ↓zm1, zI_ne_m, zI_m_ne, zI_lit, zI_le, zI_eq, zI_mul, zI_lt, zI_modn, zI_div, zI_sub, zI_add, zN_mod]
      rw [if_neg (by omega), hdr, List.countP_cons, ih (i + 1) (n + 1) fu (by omega) (by omega), ih (i + 1) (n + 0) fu (by omega) (by omega)]
      by_cases c1 : x.tg = t
      · rw [if_pos c1]; simp [c1]; congr 1; omega
      · rw [if_neg c1]; simp [c1]
theorem c_countTo {Γ : gm_T} {φ : ph_T} {a : Nat} {l : List UE} (h : CUw Γ φ a l) {t : Nat} (ht : t < 8) : f_UnderWay_countTo Γ φ a (nI t) = some (nI (l.countP (fun e => decide (e.tg = t))), φ) := by
  have h8 := h.le
  unfold f_UnderWay_countTo
  rw [zI_0, c_countTo_L h ht l.length 0 0 jF (by omega) (by unfold jF; omega)]
  simp
def isWB (q t : Nat) (e : UE) : Bool := decide (e.tg = t) && decide (0 < e.left) && decide (e.num < q)
theorem c_waits_L {Γ : gm_T} {φ : ph_T} {a : Nat} {l : List UE} (h : CUw Γ φ a l) {q t : Nat} (hq : q < 2 ^ 30) (ht : t < 8) : ∀ (d i fu : Nat), i + d = l.length → d < fu →
    f_UnderWay_waitsBefore_L2 Γ fu φ a (nI q) (nI t) (nI i) = some (bI ((l.drop i).any (isWB q t)), φ) := by
  have h8 := h.le
  intro d
  induction d with
  | zero =>
    intro i fu hd hfu
    match fu, hfu with
    | fu + 1, _ =>
      unfold f_UnderWay_waitsBefore_L2
      simp (disch := first | assumption | omega) only [h.o, if_true, h.n, ↓zm1, zI_ne_m, zI_m_ne, zI_lit, zI_le, zI_eq, zI_mul, zI_lt, zI_modn, zI_div, zI_sub, zI_add, zN_mod]
      rw [if_pos (by omega), if_pos (by decide), List.drop_eq_nil_of_le (by omega)]
      rfl
  | succ d ih =>
    intro i fu hd hfu
    match fu, hfu with
    | fu + 1, hfu =>
      obtain ⟨x, hx, hdr⟩ := drop_cons' (l := l) (i := i) (by omega)
      obtain ⟨e0, e1, e2, e3⟩ := h.e i x hx
      obtain ⟨b0, b1, b2, b3⟩ := h.b i x hx
      have hr := ih (i + 1) fu (by omega) (by omega)
      unfold f_UnderWay_waitsBefore_L2 f_UnderWay_waitsBefore_L41
      simp (disch := first | assumption | omega) only [h.o, h.f1, h.f2, h.f3, h.g1, h.g2, h.g3, if_true, h.n, Option.bind_some, zix, e1, e2, e3, ↓zm1, zI_ne_m, zI_m_ne, zI_lit, zI_le, zI_eq, zI_mul, zI_lt, zI_modn, zI_div, zI_sub, zI_add, zN_mod]
      rw [if_neg (by omega), hr, hdr, List.any_cons, isWB]
      by_cases c1 : x.tg = t
      · rw [if_pos c1]
        by_cases c2 : x.left = 0
        · rw [if_pos (by omega)]; simp [c2]
        · rw [if_neg (by omega)]
          by_cases c3 : x.num < q
          · rw [if_neg (by omega), if_pos (by decide)]; simp [c1, c3, show 0 < x.left by omega, bI_t]
          · rw [if_pos (by omega)]; simp [c3]
      · rw [if_neg c1]; simp [c1]
theorem c_waits {Γ : gm_T} {φ : ph_T} {a : Nat} {l : List UE} (h : CUw Γ φ a l) {q t : Nat} (hq : q < 2 ^ 30) (ht : t < 8) : f_UnderWay_waitsBefore Γ φ a (nI q) (nI t) = some (bI (l.any (isWB q t)), φ) := by
  have h8 := h.le
  unfold f_UnderWay_waitsBefore
  rw [zI_0, c_waits_L h hq ht l.length 0 jF (by omega) (by unfold jF; omega)]
  simp
/-- the loop of removeFirst: what is kept stands in front, the rest behind -/
theorem c_remF_L {Γ : gm_T} {a : Nat} {n : Nat} (h8 : n ≤ 8) (h0 : Γ a = .inr 9) (g0 : gA Γ (a + 1) 0 = some 8) (g1 : gA Γ (a + 2) 0 = some 8) (g2 : gA Γ (a + 3) 0 = some 8) (g3 : gA Γ (a + 4) 0 = some 8) {id : Nat} (hid : id < 64) :
    ∀ (d i kept fu : Nat) (fd : Bool) (φ : ph_T) (A B : List UE), i + d = n → kept ≤ i → d < fu → A.length = kept → B.length = d →
    φ.2.2 a 0 = some (a + 1) → φ.2.2 a 1 = some (a + 2) → φ.2.2 a 2 = some (a + 3) → φ.2.2 a 3 = some (a + 4) → φ.1 a 4 = nI n →
    (∀ (k : Nat) (x : UE), A[k]? = some x → φ.1 (a + 1) k = nI x.id ∧ φ.1 (a + 2) k = nI x.tg ∧ φ.1 (a + 3) k = nI x.left ∧ φ.1 (a + 4) k = nI x.num) →
    (∀ (k : Nat) (x : UE), B[k]? = some x → φ.1 (a + 1) (i + k) = nI x.id ∧ φ.1 (a + 2) (i + k) = nI x.tg ∧ φ.1 (a + 3) (i + k) = nI x.left ∧ φ.1 (a + 4) (i + k) = nI x.num) →
    (∀ x ∈ B, x.id < 64) →
    ∃ φ', f_UnderWay_removeFirst_L7 Γ fu φ a (nI id) (nI kept) (bI fd) (nI i) = some ((), φ') ∧ Fr a (a + 5) φ φ' ∧ φ'.2.2 = φ.2.2 ∧
      φ'.1 a 4 = nI (A ++ (if fd = true then B else B.eraseP (fun u => decide (u.id = id)))).length ∧
      (∀ (k : Nat) (x : UE), (A ++ (if fd = true then B else B.eraseP (fun u => decide (u.id = id))))[k]? = some x → φ'.1 (a + 1) k = nI x.id ∧ φ'.1 (a + 2) k = nI x.tg ∧ φ'.1 (a + 3) k = nI x.left ∧ φ'.1 (a + 4) k = nI x.num) := by
  intro d
  induction d with
  | zero =>
    intro i kept fu fd φ A B hd hk hfu hA hB f0 f1 f2 f3 hm eA eB bB
    have hB0 : B = [] := List.length_eq_zero_iff.mp hB
    subst hB0
    match fu, hfu with
    | fu + 1, _ =>
      unfold f_UnderWay_removeFirst_L7
      simp (disch := first | assumption | omega) only [h0, Option.bind_some, if_true, hm, ↓zm1, zI_ne_m, zI_m_ne, zI_lit, zI_le, zI_eq, zI_mul, zI_lt, zI_modn, zI_div, zI_sub, zI_add, zN_mod]
      rw [if_pos (by omega)]
      refine ⟨_, rfl, fr_uI (Fr.refl _ _ _) (by omega) _ _, rfl, ?_, ?_⟩
      · simp [uI_1, vz_at, hA]
      · intro k x hx
        simp at hx
        simp (disch := first | assumption | omega) only [uI_1, uI_2, uI_3, uL_1, uL_2, uL_3, vz_at, Nat.add_left_cancel_iff, Nat.reduceEqDiff, if_false, zr1, zr2]
        exact eA k x hx
  | succ d ih =>
    intro i kept fu fd φ A B hd hk hfu hA hB f0 f1 f2 f3 hm eA eB bB
    match B, hB with
    | x :: B', hB =>
    have hB' : B'.length = d := by simpa using hB
    obtain ⟨e0, e1, e2, e3⟩ := eB 0 x rfl
    have bx := bB x (List.mem_cons_self ..)
    match fu, hfu with
    | fu + 1, hfu =>
      by_cases hc : fd = false ∧ x.id = id
      · -- it is the one that goes
        obtain ⟨φ', q1, q2, q3, q4, q5⟩ := ih (i + 1) kept fu true φ A B' (by omega) (by omega) (by omega) hA hB' f0 f1 f2 f3 hm eA
          (fun k y hy => by have := eB (k + 1) y hy; rw [show i + 1 + k = i + (k + 1) by omega]; exact this) (fun y hy => bB y (List.mem_cons_of_mem _ hy))
        refine ⟨φ', ?_, q2, q3, ?_, ?_⟩
        · unfold f_UnderWay_removeFirst_L7 f_UnderWay_removeFirst_L91
          have e0 : φ.1 (a + 1) i = nI x.id := e0
          rw [hc.1]
          simp (disch := first | assumption | omega) only [h0, f0, g0, Option.bind_some, if_true, zix, hm, bI_f, e0, hc.2, ↓zm1, zI_ne_m, zI_m_ne, zI_lit, zI_le, zI_eq, zI_mul, zI_lt, zI_modn, zI_div, zI_sub, zI_add, zN_mod]
          rw [if_neg (by omega)]
          exact q1
        · rw [q4]; simp [hc.1, hc.2]
        · intro k y hy
          refine q5 k y ?_
          simp [hc.1, hc.2] at hy ⊢
          exact hy
      · -- it is kept
        have hkk : kept < 8 := by omega
        have e0 : φ.1 (a + 1) i = nI x.id := e0
        have e1 : φ.1 (a + 2) i = nI x.tg := e1
        have e2 : φ.1 (a + 3) i = nI x.left := e2
        have e3 : φ.1 (a + 4) i = nI x.num := e3
        let ψ := uI (uI (uI (uI φ (a + 1) kept (nI x.id)) (a + 2) kept (nI x.tg)) (a + 3) kept (nI x.left)) (a + 4) kept (nI x.num)
        obtain ⟨φ', q1, q2, q3, q4, q5⟩ := ih (i + 1) (kept + 1) fu fd ψ (A ++ [x]) B' (by omega) (by omega) (by omega) (by simp [hA]) hB' f0 f1 f2 f3
          (by show (uI (uI (uI (uI φ (a + 1) kept (nI x.id)) (a + 2) kept (nI x.tg)) (a + 3) kept (nI x.left)) (a + 4) kept (nI x.num)).1 a 4 = nI n
              simp (disch := first | assumption | omega) only [uI_1, uI_2, uI_3, uL_1, uL_2, uL_3, vz_at, Nat.add_left_cancel_iff, Nat.reduceEqDiff, if_false, zr1, zr2, hm])
          (by
            intro k y hy
            show (uI (uI (uI (uI φ (a + 1) kept (nI x.id)) (a + 2) kept (nI x.tg)) (a + 3) kept (nI x.left)) (a + 4) kept (nI x.num)).1 (a + 1) k = _ ∧ (uI (uI (uI (uI φ (a + 1) kept (nI x.id)) (a + 2) kept (nI x.tg)) (a + 3) kept (nI x.left)) (a + 4) kept (nI x.num)).1 (a + 2) k = _ ∧ (uI (uI (uI (uI φ (a + 1) kept (nI x.id)) (a + 2) kept (nI x.tg)) (a + 3) kept (nI x.left)) (a + 4) kept (nI x.num)).1 (a + 3) k = _ ∧ (uI (uI (uI (uI φ (a + 1) kept (nI x.id)) (a + 2) kept (nI x.tg)) (a + 3) kept (nI x.left)) (a + 4) kept (nI x.num)).1 (a + 4) k = _
            simp (disch := first | assumption | omega) only [uI_1, uI_2, uI_3, uL_1, uL_2, uL_3, vz_at, Nat.add_left_cancel_iff, Nat.reduceEqDiff, if_false, zr1, zr2, if_true]
            by_cases hk2 : k < A.length
            · rw [List.getElem?_append_left hk2] at hy
              rw [if_neg (by omega), if_neg (by omega), if_neg (by omega), if_neg (by omega)]
              exact eA k y hy
            · have hk3 : k = A.length := by
                have := (List.getElem?_eq_some_iff.mp hy).1
                simp at this
                omega
              subst hk3
              simp at hy
              subst hy
              rw [if_pos hA, if_pos hA, if_pos hA, if_pos hA]
              exact ⟨rfl, rfl, rfl, rfl⟩)
          (by
            intro k y hy
            show (uI (uI (uI (uI φ (a + 1) kept (nI x.id)) (a + 2) kept (nI x.tg)) (a + 3) kept (nI x.left)) (a + 4) kept (nI x.num)).1 (a + 1) (i + 1 + k) = _ ∧ (uI (uI (uI (uI φ (a + 1) kept (nI x.id)) (a + 2) kept (nI x.tg)) (a + 3) kept (nI x.left)) (a + 4) kept (nI x.num)).1 (a + 2) (i + 1 + k) = _ ∧ (uI (uI (uI (uI φ (a + 1) kept (nI x.id)) (a + 2) kept (nI x.tg)) (a + 3) kept (nI x.left)) (a + 4) kept (nI x.num)).1 (a + 3) (i + 1 + k) = _ ∧ (uI (uI (uI (uI φ (a + 1) kept (nI x.id)) (a + 2) kept (nI x.tg)) (a + 3) kept (nI x.left)) (a + 4) kept (nI x.num)).1 (a + 4) (i + 1 + k) = _
            simp (disch := first | assumption | omega) only [uI_1, uI_2, uI_3, uL_1, uL_2, uL_3, vz_at, Nat.add_left_cancel_iff, Nat.reduceEqDiff, if_false, zr1, zr2, if_true]
            rw [if_neg (by omega), if_neg (by omega), if_neg (by omega), if_neg (by omega)]
            have := eB (k + 1) y hy
            rw [show i + 1 + k = i + (k + 1) by omega]
            exact this)
          (fun y hy => bB y (List.mem_cons_of_mem _ hy))
        refine ⟨φ', ?_, Fr.trans (by repeat (first | exact Fr.refl _ _ _ | refine fr_uI ?_ (by omega) _ _ | refine fr_uL ?_ (by omega) _ _)) q2, q3, ?_, ?_⟩
        · unfold f_UnderWay_removeFirst_L7 f_UnderWay_removeFirst_L91 f_UnderWay_removeFirst_L36
          cases fd with
          | true =>
            simp (disch := first | assumption | omega) only [h0, f0, f1, f2, f3, g0, g1, g2, g3, Option.bind_some, if_true, zix, hm, bI_t, e0, e1, e2, e3, ↓zm1, zI_ne_m, zI_m_ne, zI_lit, zI_le, zI_eq, zI_mul, zI_lt, zI_modn, zI_div, zI_sub, zI_add, zN_mod, uI_1, uI_2, uI_3, uL_1, uL_2, uL_3, vz_at, Nat.add_left_cancel_iff, Nat.reduceEqDiff, if_false, zr1, zr2, f_UnderWay_removeFirst_L91]
            rw [if_neg (by omega)]
            exact q1
          | false =>
            have hne : x.id ≠ id := fun e => hc ⟨rfl, e⟩
            simp (disch := first | assumption | omega) only [h0, f0, f1, f2, f3, g0, g1, g2, g3, Option.bind_some, if_true, zix, hm, bI_f, e0, e1, e2, e3, ↓zm1, zI_ne_m, zI_m_ne, zI_lit, zI_le, zI_eq, zI_mul, zI_lt, zI_modn, zI_div, zI_sub, zI_add, zN_mod, uI_1, uI_2, uI_3, uL_1, uL_2, uL_3, vz_at, Nat.add_left_cancel_iff, Nat.reduceEqDiff, if_false, zr1, zr2, f_UnderWay_removeFirst_L91, hne]
            rw [if_neg (by omega)]
            exact q1
        · rw [q4]
          cases fd with
          | true => simp
          | false =>
            have hne : x.id ≠ id := fun e => hc ⟨rfl, e⟩
            simp [hne]
        · intro k y hy
          refine q5 k y ?_
          cases fd with
          | true => simpa using hy
          | false =>
            have hne : x.id ≠ id := fun e => hc ⟨rfl, e⟩
            simpa [hne] using hy
theorem c_removeFirst {Γ : gm_T} {φ : ph_T} {a : Nat} {l : List UE} (h : CUw Γ φ a l) {id : Nat} (hid : id < 64) :
    ∃ φ', f_UnderWay_removeFirst Γ φ a (nI id) = some ((), φ') ∧ CUw Γ φ' a (l.eraseP (fun u => decide (u.id = id))) ∧ Fr a (a + 5) φ φ' := by
  have h8 := h.le
  obtain ⟨φ', q1, q2, q3, q4, q5⟩ := c_remF_L h8 h.o h.g0 h.g1 h.g2 h.g3 hid l.length 0 0 jF false φ [] l (by omega) (by omega) (by unfold jF; omega) rfl rfl h.f0 h.f1 h.f2 h.f3 h.n (fun k x hx => by simp at hx) (fun k x hx => by rw [Nat.zero_add]; exact h.e k x hx) (fun x hx => by
    obtain ⟨k, hk, e⟩ := List.getElem_of_mem hx
    exact (h.b k x (by rw [List.getElem?_eq_getElem hk, e])).1)
  simp only [Bool.false_eq_true, if_false, List.nil_append] at q4 q5
  refine ⟨φ', q1, ⟨h.o, by rw [q3]; exact h.f0, by rw [q3]; exact h.f1, by rw [q3]; exact h.f2, by rw [q3]; exact h.f3, h.g0, h.g1, h.g2, h.g3, q4, Nat.le_trans (List.length_eraseP_le) h8, q5, ?_⟩, q2⟩
  intro k x hx
  have hm : x ∈ l := List.mem_of_mem_eraseP (List.mem_of_getElem? hx)
  obtain ⟨j, hj, e⟩ := List.getElem_of_mem hm
  exact h.b j x (by rw [List.getElem?_eq_getElem hj, e])
