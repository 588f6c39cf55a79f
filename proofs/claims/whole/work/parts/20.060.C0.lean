/-! THE CLASS: frames by intervals of addresses -/
def Fr (lo hi : Nat) (φ φ' : ph_T) : Prop := ∀ a, (a < lo ∨ hi ≤ a) → φ'.1 a = φ.1 a ∧ φ'.2.1 a = φ.2.1 a ∧ φ'.2.2 a = φ.2.2 a
theorem Fr.refl (lo hi : Nat) (φ : ph_T) : Fr lo hi φ φ := fun _ _ => ⟨rfl, rfl, rfl⟩
theorem Fr.trans {lo hi : Nat} {φ φ' φ'' : ph_T} (h : Fr lo hi φ φ') (g : Fr lo hi φ' φ'') : Fr lo hi φ φ'' := fun a ha => ⟨(g a ha).1.trans (h a ha).1, (g a ha).2.1.trans (h a ha).2.1, (g a ha).2.2.trans (h a ha).2.2⟩
theorem Fr.mono {lo hi lo' hi' : Nat} {φ φ' : ph_T} (h : Fr lo hi φ φ') (h1 : lo' ≤ lo) (h2 : hi ≤ hi') : Fr lo' hi' φ φ' := fun a ha => h a (by omega)
theorem Fr.i {lo hi : Nat} {φ φ' : ph_T} (h : Fr lo hi φ φ') {a : Nat} (ha : a < lo ∨ hi ≤ a) : φ'.1 a = φ.1 a := (h a ha).1
theorem Fr.l {lo hi : Nat} {φ φ' : ph_T} (h : Fr lo hi φ φ') {a : Nat} (ha : a < lo ∨ hi ≤ a) : φ'.2.1 a = φ.2.1 a := (h a ha).2.1
theorem Fr.r {lo hi : Nat} {φ φ' : ph_T} (h : Fr lo hi φ φ') {a : Nat} (ha : a < lo ∨ hi ≤ a) : φ'.2.2 a = φ.2.2 a := (h a ha).2.2
theorem uR_1 (φ : ph_T) (a k : Nat) (v : Option Nat) : (uR φ a k v).1 = φ.1 := rfl
theorem uR_2 (φ : ph_T) (a k : Nat) (v : Option Nat) : (uR φ a k v).2.1 = φ.2.1 := rfl
theorem uR_3 (φ : ph_T) (a k : Nat) (v : Option Nat) (b : Nat) : (uR φ a k v).2.2 b = if b = a then va_up (φ.2.2 a) k v else φ.2.2 b := rfl
theorem fr_uI {lo hi : Nat} {φ φ' : ph_T} (h : Fr lo hi φ φ') {a : Nat} (ha : lo ≤ a ∧ a < hi) (k : Nat) (v : Int32) : Fr lo hi φ (uI φ' a k v) := fun b hb => ⟨by rw [uI_1, if_neg (by omega)]; exact (h b hb).1, (h b hb).2.1, (h b hb).2.2⟩
theorem fr_uL {lo hi : Nat} {φ φ' : ph_T} (h : Fr lo hi φ φ') {a : Nat} (ha : lo ≤ a ∧ a < hi) (k : Nat) (v : Int64) : Fr lo hi φ (uL φ' a k v) := fun b hb => ⟨(h b hb).1, by rw [uL_2, if_neg (by omega)]; exact (h b hb).2.1, (h b hb).2.2⟩
theorem fr_uR {lo hi : Nat} {φ φ' : ph_T} (h : Fr lo hi φ φ') {a : Nat} (ha : lo ≤ a ∧ a < hi) (k : Nat) (v : Option Nat) : Fr lo hi φ (uR φ' a k v) := fun b hb => ⟨(h b hb).1, (h b hb).2.1, by rw [uR_3, if_neg (by omega)]; exact (h b hb).2.2⟩
/-- the cells from lo to hi are the same -/
def Sm (lo hi : Nat) (φ φ' : ph_T) : Prop := ∀ a, lo ≤ a → a < hi → φ'.1 a = φ.1 a ∧ φ'.2.1 a = φ.2.1 a ∧ φ'.2.2 a = φ.2.2 a
theorem Fr.sm {lo hi lo' hi' : Nat} {φ φ' : ph_T} (h : Fr lo hi φ φ') (hd : hi' ≤ lo ∨ hi ≤ lo') : Sm lo' hi' φ φ' := fun a h1 h2 => h a (by omega)
theorem Sm.refl (lo hi : Nat) (φ : ph_T) : Sm lo hi φ φ := fun _ _ _ => ⟨rfl, rfl, rfl⟩
theorem Sm.trans {lo hi : Nat} {φ φ' φ'' : ph_T} (h : Sm lo hi φ φ') (g : Sm lo hi φ' φ'') : Sm lo hi φ φ'' := fun a h1 h2 => ⟨(g a h1 h2).1.trans (h a h1 h2).1, (g a h1 h2).2.1.trans (h a h1 h2).2.1, (g a h1 h2).2.2.trans (h a h1 h2).2.2⟩
theorem Sm.mono {lo hi lo' hi' : Nat} {φ φ' : ph_T} (h : Sm lo hi φ φ') (h1 : lo ≤ lo') (h2 : hi' ≤ hi) : Sm lo' hi' φ φ' := fun a ha hb => h a (by omega) (by omega)
theorem Sm.i {lo hi : Nat} {φ φ' : ph_T} (h : Sm lo hi φ φ') {a : Nat} (h1 : lo ≤ a) (h2 : a < hi) : φ'.1 a = φ.1 a := (h a h1 h2).1
theorem Sm.l {lo hi : Nat} {φ φ' : ph_T} (h : Sm lo hi φ φ') {a : Nat} (h1 : lo ≤ a) (h2 : a < hi) : φ'.2.1 a = φ.2.1 a := (h a h1 h2).2.1
theorem Sm.r {lo hi : Nat} {φ φ' : ph_T} (h : Sm lo hi φ φ') {a : Nat} (h1 : lo ≤ a) (h2 : a < hi) : φ'.2.2 a = φ.2.2 a := (h a h1 h2).2.2
theorem iB0 (φ : ph_T) : ((0 : Int32) = 0 ∨ (0 : Int32) = 1) = True := by decide
theorem iB1 (φ : ph_T) : ((1 : Int32) = 0 ∨ (1 : Int32) = 1) = True := by decide
/-- a row of the crossbar; tm: the times are kept too -/
def CRow (Γ : gm_T) (φ : ph_T) (a room : Nat) (tm : Bool) (l : List RE) : Prop := (Γ a = .inr 3) ∧ (φ.2.2 a 0 = some (a + 1)) ∧ (φ.2.2 a 1 = some (a + 2)) ∧ (φ.2.2 a 2 = some (a + 3)) ∧ (gA Γ (a + 1) 1 = some room) ∧ (gA Γ (a + 2) 0 = some room) ∧ (gA Γ (a + 3) 0 = some room) ∧ (room ≤ 4) ∧ (φ.1 a 3 = nI l.length) ∧ (l.length ≤ room) ∧ (∀ (k : Nat) (x : RE), l[k]? = some x → φ.2.1 (a + 1) k = x.c ∧ φ.1 (a + 2) k = x.r ∧ (tm = true → φ.1 (a + 3) k = nI x.t))
theorem CRow.o {Γ : gm_T} {φ : ph_T} {a room : Nat} {tm : Bool} {l : List RE} (h : CRow Γ φ a room tm l) : Γ a = .inr 3 := h.1
theorem CRow.f0 {Γ : gm_T} {φ : ph_T} {a room : Nat} {tm : Bool} {l : List RE} (h : CRow Γ φ a room tm l) : φ.2.2 a 0 = some (a + 1) := h.2.1
theorem CRow.f1 {Γ : gm_T} {φ : ph_T} {a room : Nat} {tm : Bool} {l : List RE} (h : CRow Γ φ a room tm l) : φ.2.2 a 1 = some (a + 2) := h.2.2.1
theorem CRow.f2 {Γ : gm_T} {φ : ph_T} {a room : Nat} {tm : Bool} {l : List RE} (h : CRow Γ φ a room tm l) : φ.2.2 a 2 = some (a + 3) := h.2.2.2.1
theorem CRow.g0 {Γ : gm_T} {φ : ph_T} {a room : Nat} {tm : Bool} {l : List RE} (h : CRow Γ φ a room tm l) : gA Γ (a + 1) 1 = some room := h.2.2.2.2.1
theorem CRow.g1 {Γ : gm_T} {φ : ph_T} {a room : Nat} {tm : Bool} {l : List RE} (h : CRow Γ φ a room tm l) : gA Γ (a + 2) 0 = some room := h.2.2.2.2.2.1
theorem CRow.g2 {Γ : gm_T} {φ : ph_T} {a room : Nat} {tm : Bool} {l : List RE} (h : CRow Γ φ a room tm l) : gA Γ (a + 3) 0 = some room := h.2.2.2.2.2.2.1
theorem CRow.rm {Γ : gm_T} {φ : ph_T} {a room : Nat} {tm : Bool} {l : List RE} (h : CRow Γ φ a room tm l) : room ≤ 4 := h.2.2.2.2.2.2.2.1
theorem CRow.n {Γ : gm_T} {φ : ph_T} {a room : Nat} {tm : Bool} {l : List RE} (h : CRow Γ φ a room tm l) : φ.1 a 3 = nI l.length := h.2.2.2.2.2.2.2.2.1
theorem CRow.le {Γ : gm_T} {φ : ph_T} {a room : Nat} {tm : Bool} {l : List RE} (h : CRow Γ φ a room tm l) : l.length ≤ room := h.2.2.2.2.2.2.2.2.2.1
theorem CRow.e {Γ : gm_T} {φ : ph_T} {a room : Nat} {tm : Bool} {l : List RE} (h : CRow Γ φ a room tm l) : ∀ (k : Nat) (x : RE), l[k]? = some x → φ.2.1 (a + 1) k = x.c ∧ φ.1 (a + 2) k = x.r ∧ (tm = true → φ.1 (a + 3) k = nI x.t) := h.2.2.2.2.2.2.2.2.2.2
theorem CRow.sm {Γ : gm_T} {φ φ' : ph_T} {a room : Nat} {tm : Bool} {l : List RE} (h : CRow Γ φ a room tm l) (s : Sm a (a + 4) φ φ') : CRow Γ φ' a room tm l := by
  refine ⟨h.o, ?_, ?_, ?_, h.g0, h.g1, h.g2, h.rm, ?_, h.le, ?_⟩
  · rw [s.r (by omega) (by omega)]; exact h.f0
  · rw [s.r (by omega) (by omega)]; exact h.f1
  · rw [s.r (by omega) (by omega)]; exact h.f2
  · rw [s.i (by omega) (by omega)]; exact h.n
  · intro k x hx
    rw [s.l (by omega) (by omega), s.i (by omega) (by omega), s.i (by omega) (by omega)]; exact h.e k x hx
theorem c_hasRoom {Γ : gm_T} {φ : ph_T} {a room : Nat} {tm : Bool} {l : List RE} (h : CRow Γ φ a room tm l) : f_Row_hasRoom Γ φ a = some (bI (decide (l.length < room)), φ) := by
  have h1 := h.rm
  have h2 := h.le
  unfold f_Row_hasRoom f_Row_hasRoom_L17
  simp (disch := first | assumption | omega) only [h.o, h.f0, h.g0, Option.bind_some, if_true, h.n, ↓zm1, zI_ne_m, zI_m_ne, zI_lit, zI_le, zI_eq, zI_mul, zI_lt, zI_modn, zI_div, zI_sub, zI_add, zN_mod]
  by_cases hr : l.length < room
  · rw [if_neg (by omega), if_pos (by decide)]; simp [hr, bI_t]
  · rw [if_pos (by omega), if_pos (by decide)]; simp [hr, bI_f]
theorem c_holds {Γ : gm_T} {φ : ph_T} {a room : Nat} {tm : Bool} {l : List RE} (h : CRow Γ φ a room tm l) : f_Row_holds Γ φ a = some (bI (decide (0 < l.length)), φ) := by
  have h1 := h.rm
  have h2 := h.le
  unfold f_Row_holds f_Row_holds_L12
  simp (disch := first | assumption | omega) only [h.o, Option.bind_some, if_true, h.n, ↓zm1, zI_ne_m, zI_m_ne, zI_lit, zI_le, zI_eq, zI_mul, zI_lt, zI_modn, zI_div, zI_sub, zI_add, zN_mod]
  by_cases hr : 0 < l.length
  · rw [if_neg (by omega), if_pos (by decide)]; simp [hr, bI_t]
  · rw [if_pos (by omega), if_pos (by decide)]; simp [hr, bI_f]
theorem c_firstContent {Γ : gm_T} {φ : ph_T} {a room : Nat} {tm : Bool} {x : RE} {l : List RE} (h : CRow Γ φ a room tm (x :: l)) : f_Row_firstContent Γ φ a = some (x.c, φ) := by
  have h1 := h.rm
  have h2 := h.le
  have h3 : (x :: l).length = l.length + 1 := rfl
  unfold f_Row_firstContent f_Row_firstContent_L17
  simp (disch := first | assumption | omega) only [h.o, h.f0, h.g0, Option.bind_some, if_true, h.n, ↓zm1, zI_ne_m, zI_m_ne, zI_lit, zI_le, zI_eq, zI_mul, zI_lt, zI_modn, zI_div, zI_sub, zI_add, zN_mod, zix]
  rw [if_neg (by omega), (h.e 0 x rfl).1]
theorem c_firstRest {Γ : gm_T} {φ : ph_T} {a room : Nat} {tm : Bool} {x : RE} {l : List RE} (h : CRow Γ φ a room tm (x :: l)) : f_Row_firstRest Γ φ a = some (x.r, φ) := by
  have h1 := h.rm
  have h2 := h.le
  have h3 : (x :: l).length = l.length + 1 := rfl
  unfold f_Row_firstRest f_Row_firstRest_L17
  simp (disch := first | assumption | omega) only [h.o, h.f1, h.g1, Option.bind_some, if_true, h.n, ↓zm1, zI_ne_m, zI_m_ne, zI_lit, zI_le, zI_eq, zI_mul, zI_lt, zI_modn, zI_div, zI_sub, zI_add, zN_mod, zix]
  rw [if_neg (by omega), (h.e 0 x rfl).2.1]
theorem c_firstRest0 {Γ : gm_T} {φ : ph_T} {a room : Nat} {tm : Bool} (h : CRow Γ φ a room tm []) : f_Row_firstRest Γ φ a = some (nI 0, φ) := by
  have h1 := h.n
  have h3 : ([] : List RE).length = 0 := rfl
  unfold f_Row_firstRest f_Row_firstRest_L17
  simp (disch := first | assumption | omega) only [h.o, if_true, h.n, h3, ↓zm1, zI_ne_m, zI_m_ne, zI_lit, zI_le, zI_eq, zI_mul, zI_lt, zI_modn, zI_div, zI_sub, zI_add, zN_mod, Nat.le_refl]
theorem c_firstCame {Γ : gm_T} {φ : ph_T} {a room : Nat} {x : RE} {l : List RE} (h : CRow Γ φ a room true (x :: l)) : f_Row_firstCame Γ φ a = some (nI x.t, φ) := by
  have h1 := h.rm
  have h2 := h.le
  have h3 : (x :: l).length = l.length + 1 := rfl
  unfold f_Row_firstCame f_Row_firstCame_L17
  simp (disch := first | assumption | omega) only [h.o, h.f2, h.g2, Option.bind_some, if_true, h.n, ↓zm1, zI_ne_m, zI_m_ne, zI_lit, zI_le, zI_eq, zI_mul, zI_lt, zI_modn, zI_div, zI_sub, zI_add, zN_mod, zix]
  rw [if_neg (by omega), (h.e 0 x rfl).2.2 rfl]
theorem c_put {Γ : gm_T} {φ : ph_T} {a room : Nat} {tm : Bool} {l : List RE} (h : CRow Γ φ a room tm l) (hr : l.length < room) (x : RE) (t : Int32) (ht : tm = true → t = nI x.t) :
    ∃ φ', f_Row_put Γ φ a x.c x.r t = some ((), φ') ∧ CRow Γ φ' a room tm (l ++ [x]) ∧ Fr a (a + 4) φ φ' := by
  have h1 := h.rm
  have h2 := h.le
  unfold f_Row_put f_Row_put_L48
  have hh := c_hasRoom h
  rw [show decide (l.length < room) = true from by simpa using hr, bI_t] at hh
  simp (disch := first | assumption | omega) only [h.o, hh, h.f0, h.f1, h.f2, h.g0, h.g1, h.g2, Option.bind_some, if_true, h.n, ↓zm1, zI_ne_m, zI_m_ne, zI_lit, zI_le, zI_eq, zI_mul, zI_lt, zI_modn, zI_div, zI_sub, zI_add, zN_mod, uI_1, uI_2, uI_3, uL_1, uL_2, uL_3, vz_at, Nat.add_left_cancel_iff, Nat.reduceEqDiff, if_false, zr1, zr2, zix]
  refine ⟨_, rfl, ?_, ?_⟩
  · refine ⟨h.o, ?_, ?_, ?_, h.g0, h.g1, h.g2, h.rm, ?_, ?_, ?_⟩
    · exact h.f0
    · exact h.f1
    · exact h.f2
    · simp [uI_1, vz_at]
    · simp; omega
    · intro k y hy
      simp (disch := first | assumption | omega) only [uI_1, uI_2, uI_3, uL_1, uL_2, uL_3, vz_at, Nat.add_left_cancel_iff, Nat.reduceEqDiff, if_false, zr1, zr2, if_true]
      by_cases hk : k < l.length
      · rw [List.getElem?_append_left hk] at hy
        rw [if_neg (by omega), if_neg (by omega), if_neg (by omega)]
        exact h.e k y hy
      · have hk2 : k = l.length := by
          have := (List.getElem?_eq_some_iff.mp hy).1
          simp at this
          omega
        subst hk2
        simp at hy
        subst hy
        simp only [if_true]
        exact ⟨trivial, trivial, ht⟩
  · repeat (first | exact Fr.refl _ _ _ | refine fr_uI ?_ (by omega) _ _ | refine fr_uL ?_ (by omega) _ _)
theorem c_drop_L {Γ : gm_T} {a room n : Nat} (h4 : room ≤ 4) (hn : n ≤ room) (h0 : Γ a = .inr 3) (g0 : gA Γ (a + 1) 1 = some room) (g1 : gA Γ (a + 2) 0 = some room) (g2 : gA Γ (a + 3) 0 = some room) : ∀ (d j fu : Nat) (φ : ph_T), j + d = n → 0 < j → d < fu →
    φ.2.2 a 0 = some (a + 1) → φ.2.2 a 1 = some (a + 2) → φ.2.2 a 2 = some (a + 3) → φ.1 a 3 = nI n →
    ∃ φ', f_Row_drop_L2 Γ fu φ a (nI j) = some ((), φ') ∧ Fr a (a + 4) φ φ' ∧ φ'.2.2 = φ.2.2 ∧ φ'.1 a 3 = nI (n - 1) ∧
      (∀ k, φ'.2.1 (a + 1) k = if j ≤ k + 1 ∧ k + 1 < n then φ.2.1 (a + 1) (k + 1) else φ.2.1 (a + 1) k) ∧
      (∀ k, φ'.1 (a + 2) k = if j ≤ k + 1 ∧ k + 1 < n then φ.1 (a + 2) (k + 1) else φ.1 (a + 2) k) ∧
      (∀ k, φ'.1 (a + 3) k = if j ≤ k + 1 ∧ k + 1 < n then φ.1 (a + 3) (k + 1) else φ.1 (a + 3) k) := by
  intro d
  induction d with
  | zero =>
    intro j fu φ hd hj hfu f0 f1 f2 hm
    match fu, hfu with
    | fu + 1, _ =>
      unfold f_Row_drop_L2 f_Row_drop_L75
      simp (disch := first | assumption | omega) only [h0, Option.bind_some, if_true, hm, ↓zm1, zI_ne_m, zI_m_ne, zI_lit, zI_le, zI_eq, zI_mul, zI_lt, zI_modn, zI_div, zI_sub, zI_add, zN_mod]
      rw [if_pos (by omega), if_neg (by omega)]
      refine ⟨_, rfl, fr_uI (Fr.refl _ _ _) (by omega) _ _, rfl, ?_, fun k => ?_, fun k => ?_, fun k => ?_⟩
      · simp [uI_1, vz_at]
      · rw [if_neg (by omega), uI_2]
      · rw [if_neg (by omega), uI_1, if_neg (by omega)]
      · rw [if_neg (by omega), uI_1, if_neg (by omega)]
  | succ d ih =>
    intro j fu φ hd hj hfu f0 f1 f2 hm
    match fu, hfu with
    | fu + 1, hfu =>
      unfold f_Row_drop_L2
      simp (disch := first | assumption | omega) only [h0, f0, f1, f2, g0, g1, g2, Option.bind_some, if_true, zix, hm, ↓zm1, zI_ne_m, zI_m_ne, zI_lit, zI_le, zI_eq, zI_mul, zI_lt, zI_modn, zI_div, zI_sub, zI_add, zN_mod, uI_1, uI_2, uI_3, uL_1, uL_2, uL_3, vz_at, Nat.add_left_cancel_iff, Nat.reduceEqDiff, if_false, zr1, zr2]
      rw [if_neg (by omega)]
      obtain ⟨φ', e, f, fq, fn, k1, k2, k3⟩ := ih (j + 1) fu (uI (uI (uL φ (a + 1) (j - 1) (φ.2.1 (a + 1) j)) (a + 2) (j - 1) (φ.1 (a + 2) j)) (a + 3) (j - 1) (φ.1 (a + 3) j)) (by omega) (by omega) (by omega) f0 f1 f2 (by simp [uI_1, uI_2, uI_3, uL_1, uL_2, uL_3, vz_at, hm])
      refine ⟨φ', e, Fr.trans (by repeat (first | exact Fr.refl _ _ _ | refine fr_uI ?_ (by omega) _ _ | refine fr_uL ?_ (by omega) _ _)) f, fq, fn, fun k => ?_, fun k => ?_, fun k => ?_⟩
      · rw [k1]
        simp (disch := first | assumption | omega) only [uI_1, uI_2, uI_3, uL_1, uL_2, uL_3, vz_at, Nat.add_left_cancel_iff, Nat.reduceEqDiff, if_false, zr1, zr2, if_true, if_false]
        repeat' split
        all_goals first | rfl | omega | exact congrArg _ (by omega)
      · rw [k2]
        simp (disch := first | assumption | omega) only [uI_1, uI_2, uI_3, uL_1, uL_2, uL_3, vz_at, Nat.add_left_cancel_iff, Nat.reduceEqDiff, if_false, zr1, zr2, if_true, if_false]
        repeat' split
        all_goals first | rfl | omega | exact congrArg _ (by omega)
      · rw [k3]
        simp (disch := first | assumption | omega) only [uI_1, uI_2, uI_3, uL_1, uL_2, uL_3, vz_at, Nat.add_left_cancel_iff, Nat.reduceEqDiff, if_false, zr1, zr2, if_true, if_false]
        repeat' split
        all_goals first | rfl | omega | exact congrArg _ (by omega)
theorem c_drop {Γ : gm_T} {φ : ph_T} {a room : Nat} {tm : Bool} {l : List RE} (h : CRow Γ φ a room tm l) (hl : l ≠ []) :
    ∃ φ', f_Row_drop Γ φ a = some ((), φ') ∧ CRow Γ φ' a room tm l.tail ∧ Fr a (a + 4) φ φ' := by
  have hp := List.length_pos_iff.mpr hl
  have h1 := h.rm
  have h2 := h.le
  obtain ⟨φ', e, f, fq, fn, k1, k2, k3⟩ := c_drop_L (n := l.length) h.rm h.le h.o h.g0 h.g1 h.g2 (l.length - 1) 1 jF φ (by omega) (by omega) (by unfold jF; omega) h.f0 h.f1 h.f2 h.n
  refine ⟨φ', e, ⟨h.o, by rw [fq]; exact h.f0, by rw [fq]; exact h.f1, by rw [fq]; exact h.f2, h.g0, h.g1, h.g2, h.rm, by rw [fn]; simp, by simp; omega, ?_⟩, f⟩
  intro k x hx
  have hk := (List.getElem?_eq_some_iff.mp hx).1
  simp at hk
  rw [List.getElem?_tail] at hx
  rw [k1, k2, k3, if_pos (by omega), if_pos (by omega), if_pos (by omega)]
  exact h.e (k + 1) x hx
