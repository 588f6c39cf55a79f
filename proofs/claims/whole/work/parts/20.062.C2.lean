/-! THE CLASS: bursts and lines of them -/
def CBl (Γ : gm_T) (φ : ph_T) (x : Nat) : Prop := (Γ x = .inr 0) ∧ (φ.2.2 x 6 = some (x + 1)) ∧ (φ.2.2 x 7 = some (x + 2)) ∧ (gA Γ (x + 1) 1 = some 16) ∧ (gA Γ (x + 2) 0 = some 16)
theorem CBl.o {Γ : gm_T} {φ : ph_T} {x : Nat} (h : CBl Γ φ x) : Γ x = .inr 0 := h.1
theorem CBl.f6 {Γ : gm_T} {φ : ph_T} {x : Nat} (h : CBl Γ φ x) : φ.2.2 x 6 = some (x + 1) := h.2.1
theorem CBl.f7 {Γ : gm_T} {φ : ph_T} {x : Nat} (h : CBl Γ φ x) : φ.2.2 x 7 = some (x + 2) := h.2.2.1
theorem CBl.g6 {Γ : gm_T} {φ : ph_T} {x : Nat} (h : CBl Γ φ x) : gA Γ (x + 1) 1 = some 16 := h.2.2.2.1
theorem CBl.g7 {Γ : gm_T} {φ : ph_T} {x : Nat} (h : CBl Γ φ x) : gA Γ (x + 2) 0 = some 16 := h.2.2.2.2
theorem CBl.up {Γ : gm_T} {φ φ' : ph_T} {x : Nat} (h : CBl Γ φ x) (e : φ'.2.2 x = φ.2.2 x) : CBl Γ φ' x := ⟨h.o, by rw [e]; exact h.f6, by rw [e]; exact h.f7, h.g6, h.g7⟩
def CLn (Γ : gm_T) (φ : ph_T) (a room : Nat) (l : List Nat) (n : Nat) : Prop := (Γ a = .inr 1) ∧ (φ.2.2 a 0 = some (a + 1)) ∧ (gA Γ (a + 1) 5 = some room) ∧ (room ≤ 16) ∧ (φ.1 a 1 = nI n) ∧ (n ≤ room) ∧ (l.length = room) ∧ (l.Nodup) ∧ (∀ x, x ∈ l → ∃ i, i < room ∧ x = a + 2 + 3 * i) ∧ (∀ (k x : Nat), l[k]? = some x → φ.2.2 (a + 1) k = some x) ∧ (∀ x, x ∈ l → CBl Γ φ x)
theorem CLn.o {Γ : gm_T} {φ : ph_T} {a room : Nat} {l : List Nat} {n : Nat} (h : CLn Γ φ a room l n) : Γ a = .inr 1 := h.1
theorem CLn.f {Γ : gm_T} {φ : ph_T} {a room : Nat} {l : List Nat} {n : Nat} (h : CLn Γ φ a room l n) : φ.2.2 a 0 = some (a + 1) := h.2.1
theorem CLn.g {Γ : gm_T} {φ : ph_T} {a room : Nat} {l : List Nat} {n : Nat} (h : CLn Γ φ a room l n) : gA Γ (a + 1) 5 = some room := h.2.2.1
theorem CLn.rm {Γ : gm_T} {φ : ph_T} {a room : Nat} {l : List Nat} {n : Nat} (h : CLn Γ φ a room l n) : room ≤ 16 := h.2.2.2.1
theorem CLn.n {Γ : gm_T} {φ : ph_T} {a room : Nat} {l : List Nat} {n : Nat} (h : CLn Γ φ a room l n) : φ.1 a 1 = nI n := h.2.2.2.2.1
theorem CLn.le {Γ : gm_T} {φ : ph_T} {a room : Nat} {l : List Nat} {n : Nat} (h : CLn Γ φ a room l n) : n ≤ room := h.2.2.2.2.2.1
theorem CLn.ll {Γ : gm_T} {φ : ph_T} {a room : Nat} {l : List Nat} {n : Nat} (h : CLn Γ φ a room l n) : l.length = room := h.2.2.2.2.2.2.1
theorem CLn.nd {Γ : gm_T} {φ : ph_T} {a room : Nat} {l : List Nat} {n : Nat} (h : CLn Γ φ a room l n) : l.Nodup := h.2.2.2.2.2.2.2.1
theorem CLn.hl {Γ : gm_T} {φ : ph_T} {a room : Nat} {l : List Nat} {n : Nat} (h : CLn Γ φ a room l n) : ∀ x, x ∈ l → ∃ i, i < room ∧ x = a + 2 + 3 * i := h.2.2.2.2.2.2.2.2.1
theorem CLn.at_ {Γ : gm_T} {φ : ph_T} {a room : Nat} {l : List Nat} {n : Nat} (h : CLn Γ φ a room l n) : ∀ (k x : Nat), l[k]? = some x → φ.2.2 (a + 1) k = some x := h.2.2.2.2.2.2.2.2.2.1
theorem CLn.lay {Γ : gm_T} {φ : ph_T} {a room : Nat} {l : List Nat} {n : Nat} (h : CLn Γ φ a room l n) : ∀ x, x ∈ l → CBl Γ φ x := h.2.2.2.2.2.2.2.2.2.2
theorem CLn.up {Γ : gm_T} {φ φ' : ph_T} {a room : Nat} {l : List Nat} {n : Nat} (h : CLn Γ φ a room l n) (e1 : φ'.1 a 1 = φ.1 a 1) (e2 : φ'.2.2 = φ.2.2) : CLn Γ φ' a room l n :=
  ⟨h.o, by rw [e2]; exact h.f, h.g, h.rm, by rw [e1]; exact h.n, h.le, h.ll, h.nd, h.hl, by rw [e2]; exact h.at_, fun x hx => (h.lay x hx).up (by rw [e2])⟩
def Loc {α : Type} (E : ph_T → Nat → α → Prop) : Prop := ∀ (φ φ' : ph_T) (x : Nat) (e : α), Sm x (x + 3) φ φ' → E φ x e → E φ' x e
def CL {α : Type} (Γ : gm_T) (φ : ph_T) (a room : Nat) (E : ph_T → Nat → α → Prop) (l : List Nat) (L : List α) : Prop := (CLn Γ φ a room l L.length) ∧ (∀ (k : Nat) (e : α) (x : Nat), L[k]? = some e → l[k]? = some x → E φ x e) ∧ (Loc E)
theorem CL.c {α : Type} {Γ : gm_T} {φ : ph_T} {a room : Nat} {E : ph_T → Nat → α → Prop} {l : List Nat} {L : List α} (h : CL Γ φ a room E l L) : CLn Γ φ a room l L.length := h.1
theorem CL.e {α : Type} {Γ : gm_T} {φ : ph_T} {a room : Nat} {E : ph_T → Nat → α → Prop} {l : List Nat} {L : List α} (h : CL Γ φ a room E l L) : ∀ (k : Nat) (e : α) (x : Nat), L[k]? = some e → l[k]? = some x → E φ x e := h.2.1
theorem CL.loc {α : Type} {Γ : gm_T} {φ : ph_T} {a room : Nat} {E : ph_T → Nat → α → Prop} {l : List Nat} {L : List α} (h : CL Γ φ a room E l L) : Loc E := h.2.2
theorem CL.sm {α : Type} {Γ : gm_T} {φ φ' : ph_T} {a room : Nat} {E : ph_T → Nat → α → Prop} {l : List Nat} {L : List α} (h : CL Γ φ a room E l L) (s : Sm a (a + 2 + 3 * room) φ φ') : CL Γ φ' a room E l L := by
  refine ⟨⟨h.c.o, ?_, h.c.g, h.c.rm, ?_, h.c.le, h.c.ll, h.c.nd, h.c.hl, ?_, ?_⟩, ?_, h.loc⟩
  · rw [s.r (by omega) (by omega)]; exact h.c.f
  · rw [s.i (by omega) (by omega)]; exact h.c.n
  · rw [s.r (by omega) (by omega)]; exact h.c.at_
  · intro x hx
    obtain ⟨i, hi, e⟩ := h.c.hl x hx
    exact (h.c.lay x hx).up (s.r (by omega) (by omega))
  · intro k e x hk hx
    obtain ⟨i, hi, e⟩ := h.c.hl x (List.mem_of_getElem? hx)
    exact h.loc φ φ' x _ (s.mono (by omega) (by omega)) (h.e k _ x hk hx)
theorem CL.get {α : Type} {Γ : gm_T} {φ : ph_T} {a room : Nat} {E : ph_T → Nat → α → Prop} {l : List Nat} {L : List α} (h : CL Γ φ a room E l L) {k : Nat} {e : α} (hk : L[k]? = some e) :
    ∃ x, l[k]? = some x ∧ E φ x e ∧ CBl Γ φ x ∧ a + 2 ≤ x ∧ x + 3 ≤ a + 2 + 3 * room ∧ φ.2.2 (a + 1) k = some x := by
  have h1 := (List.getElem?_eq_some_iff.mp hk).1
  have h2 := h.c.le
  have h3 := h.c.ll
  have hx : l[k]? = some l[k] := List.getElem?_eq_getElem (by omega)
  have hm := List.mem_of_getElem? hx
  obtain ⟨i, hi, ei⟩ := h.c.hl _ hm
  exact ⟨l[k], hx, h.e k e _ hk hx, h.c.lay _ hm, by omega, by omega, h.c.at_ _ _ hx⟩
theorem nd_ne {l : List Nat} (h : l.Nodup) {i j x y : Nat} (hi : l[i]? = some x) (hj : l[j]? = some y) (hn : i ≠ j) : x ≠ y := by
  intro e
  subst e
  obtain ⟨h1, e1⟩ := List.getElem?_eq_some_iff.mp hi
  exact hn ((List.getElem?_inj h1 h).mp (hi.trans hj.symm))
theorem CLn.dis {Γ : gm_T} {φ : ph_T} {a room : Nat} {l : List Nat} {n : Nat} (h : CLn Γ φ a room l n) {i j x y : Nat} (hi : l[i]? = some x) (hj : l[j]? = some y) (hn : i ≠ j) : x + 3 ≤ y ∨ y + 3 ≤ x := by
  have h1 := nd_ne h.nd hi hj hn
  obtain ⟨p, hp, e1⟩ := h.hl x (List.mem_of_getElem? hi)
  obtain ⟨q, hq, e2⟩ := h.hl y (List.mem_of_getElem? hj)
  omega
/-- one entry has changed -/
theorem CL.upd {α : Type} {Γ : gm_T} {φ φ' : ph_T} {a room : Nat} {E : ph_T → Nat → α → Prop} {l : List Nat} {L : List α} (h : CL Γ φ a room E l L) {i x : Nat} (hx : l[i]? = some x) (f : Fr x (x + 3) φ φ') (hb : CBl Γ φ' x) {e' : α} (he : E φ' x e') : CL Γ φ' a room E l (L.set i e') := by
  obtain ⟨j, hj, ej⟩ := h.c.hl x (List.mem_of_getElem? hx)
  refine ⟨⟨h.c.o, ?_, h.c.g, h.c.rm, ?_, ?_, h.c.ll, h.c.nd, h.c.hl, ?_, ?_⟩, ?_, h.loc⟩
  · rw [f.r (by omega)]; exact h.c.f
  · rw [f.i (by omega), List.length_set]; exact h.c.n
  · rw [List.length_set]; exact h.c.le
  · rw [f.r (by omega)]; exact h.c.at_
  · intro y hy
    obtain ⟨k, hk, ek⟩ := h.c.hl y hy
    by_cases hxy : y = x
    · subst hxy; exact hb
    · exact (h.c.lay y hy).up (f.r (by omega))
  · intro k e y hk hy
    by_cases hki : k = i
    · subst hki
      rw [hx] at hy
      cases hy
      rw [List.getElem?_set] at hk
      simp at hk
      obtain ⟨_, hk⟩ := hk
      subst hk
      exact he
    · rw [List.getElem?_set_ne (fun e => hki e.symm)] at hk
      have := h.c.dis hy hx hki
      exact h.loc φ φ' y e (f.sm (by omega)) (h.e k e y hk hy)
theorem c_LhasRoom {α : Type} {Γ : gm_T} {φ : ph_T} {a room : Nat} {E : ph_T → Nat → α → Prop} {l : List Nat} {L : List α} (h : CL Γ φ a room E l L) : f_Line_hasRoom Γ φ a = some (bI (decide (L.length < room)), φ) := by
  have h1 := h.c.rm
  have h2 := h.c.le
  unfold f_Line_hasRoom f_Line_hasRoom_L17
  simp (disch := first | assumption | omega) only [h.c.o, h.c.f, h.c.g, Option.bind_some, if_true, h.c.n, ↓zm1, zI_ne_m, zI_m_ne, zI_lit, zI_le, zI_eq, zI_mul, zI_lt, zI_modn, zI_div, zI_sub, zI_add, zN_mod]
  by_cases hr : L.length < room
  · rw [if_neg (by omega), if_pos (by decide)]; simp [hr, bI_t]
  · rw [if_pos (by omega), if_pos (by decide)]; simp [hr, bI_f]
theorem c_Lat {α : Type} {Γ : gm_T} {φ : ph_T} {a room : Nat} {E : ph_T → Nat → α → Prop} {l : List Nat} {L : List α} (h : CL Γ φ a room E l L) {i : Nat} {e : α} (hi : L[i]? = some e) {x : Nat} (hx : l[i]? = some x) : f_Line_at Γ φ a (nI i) = some (some x, φ) := by
  have h1 := h.c.rm
  have h2 := h.c.le
  have h3 := (List.getElem?_eq_some_iff.mp hi).1
  unfold f_Line_at f_Line_at_L12 f_Line_at_L22
  simp (disch := first | assumption | omega) only [h.c.o, h.c.f, h.c.g, Option.bind_some, if_true, h.c.n, ↓zm1, zI_ne_m, zI_m_ne, zI_lit, zI_le, zI_eq, zI_mul, zI_lt, zI_modn, zI_div, zI_sub, zI_add, zN_mod, zix, h.c.at_ i x hx]
  rw [if_neg (by omega), if_pos h3]
theorem c_Lat_m {Γ : gm_T} {φ : ph_T} {a : Nat} : f_Line_at Γ φ a m1 = some (none, φ) := by
  unfold f_Line_at f_Line_at_L12 f_Line_at_L22
  rw [if_pos (by decide)]
theorem c_Burst_start {Γ : gm_T} {φ : ph_T} {x : Nat} (h : CBl Γ φ x) (c : Int64) : ∃ φ', f_Burst_start Γ φ x c = some ((), φ') ∧ Fr x (x + 3) φ φ' ∧ φ'.2.2 = φ.2.2 ∧
    φ'.2.1 x 0 = c ∧ φ'.1 x 1 = nI 0 ∧ φ'.1 x 2 = nI 0 ∧ φ'.1 x 3 = nI 0 ∧ φ'.1 x 4 = m1 ∧ φ'.1 x 5 = nI 0 := by
  unfold f_Burst_start
  rw [if_pos h.o, if_pos (by decide), if_pos (by decide)]
  refine ⟨_, rfl, ?_, rfl, ?_, ?_, ?_, ?_, ?_, ?_⟩
  · repeat (first | exact Fr.refl _ _ _ | refine fr_uI ?_ (by omega) _ _ | refine fr_uL ?_ (by omega) _ _)
  all_goals simp [uI_1, uI_2, uI_3, uL_1, uL_2, uL_3, vz_at]
  all_goals rfl
theorem c_Ladd {α : Type} {Γ : gm_T} {φ : ph_T} {a room : Nat} {E : ph_T → Nat → α → Prop} {l : List Nat} {L : List α} (h : CL Γ φ a room E l L) (hr : L.length < room) (c : Int64) : ∃ x φ', f_Line_add Γ φ a c = some (some x, φ') ∧ l[L.length]? = some x ∧ CBl Γ φ' x ∧ Fr a (a + 2 + 3 * room) φ φ' ∧ φ'.2.2 = φ.2.2 ∧ a + 2 ≤ x ∧ x + 3 ≤ a + 2 + 3 * room ∧
    φ'.2.1 x 0 = c ∧ φ'.1 x 1 = nI 0 ∧ φ'.1 x 2 = nI 0 ∧ φ'.1 x 3 = nI 0 ∧ φ'.1 x 4 = m1 ∧ φ'.1 x 5 = nI 0 ∧ ∀ e', E φ' x e' → CL Γ φ' a room E l (L ++ [e']) := by
  have h1 := h.c.rm
  have h3 := h.c.ll
  have hx : l[L.length]? = some l[L.length] := List.getElem?_eq_getElem (by omega)
  generalize l[L.length] = x at hx
  have hm := List.mem_of_getElem? hx
  obtain ⟨i, hi, ei⟩ := h.c.hl _ hm
  have hb := h.c.lay x hm
  obtain ⟨φ1, s1, s2, s3, s4, s5, s6, s7, s8, s9⟩ := c_Burst_start hb c
  have hh := c_LhasRoom h
  rw [show decide (L.length < room) = true from by simpa using hr, bI_t] at hh
  have hn1 : φ1.1 a 1 = nI L.length := by rw [s2.i (by omega)]; exact h.c.n
  have hxa : x ≠ a := by omega
  refine ⟨x, uI φ1 a 1 (nI (L.length + 1)), ?_, hx, ?_, ?_, s3, by omega, by omega, s4, ?_, ?_, ?_, ?_, ?_, ?_⟩
  · unfold f_Line_add
    simp (disch := first | assumption | omega) only [h.c.o, hh, h.c.f, h.c.g, Option.bind_some, if_true, h.c.n, ↓zm1, zI_ne_m, zI_m_ne, zI_lit, zI_le, zI_eq, zI_mul, zI_lt, zI_modn, zI_div, zI_sub, zI_add, zN_mod, zix, h.c.at_ _ x hx, hb.o, s1, hn1]
    rfl
  · exact hb.up (congrFun s3 x)
  · exact fr_uI (s2.mono (by omega) (by omega)) (by omega) _ _
  · rw [uI_d hxa]; exact s5
  · rw [uI_d hxa]; exact s6
  · rw [uI_d hxa]; exact s7
  · rw [uI_d hxa]; exact s8
  · rw [uI_d hxa]; exact s9
  · intro e' he
    refine ⟨⟨h.c.o, ?_, h.c.g, h.c.rm, ?_, ?_, h.c.ll, h.c.nd, h.c.hl, ?_, ?_⟩, ?_, h.loc⟩
    · show φ1.2.2 a 0 = _; rw [s3]; exact h.c.f
    · rw [uI_s, vz_same]; simp
    · simp; omega
    · show ∀ (k x : Nat), l[k]? = some x → φ1.2.2 (a + 1) k = some x; rw [s3]; exact h.c.at_
    · intro y hy; exact (h.c.lay y hy).up (congrFun s3 y)
    · intro k e y hk hy
      by_cases hkl : k < L.length
      · rw [List.getElem?_append_left hkl] at hk
        obtain ⟨q, hq, eq⟩ := h.c.hl y (List.mem_of_getElem? hy)
        have := h.c.dis hy hx (by omega)
        refine h.loc φ _ y e ?_ (h.e k e y hk hy)
        exact (s2.sm (by omega)).trans ((fr_uI (Fr.refl a (a + 1) _) (by omega) _ _).sm (by omega))
      · have hk2 : k = L.length := by
          have := (List.getElem?_eq_some_iff.mp hk).1
          simp at this
          omega
        subst hk2
        rw [hx] at hy
        cases hy
        simp at hk
        subst hk
        exact he
theorem c_Ladd_full {α : Type} {Γ : gm_T} {φ : ph_T} {a room : Nat} {E : ph_T → Nat → α → Prop} {l : List Nat} {L : List α} (h : CL Γ φ a room E l L) (hr : ¬ L.length < room) (c : Int64) : f_Line_add Γ φ a c = some (none, φ) := by
  have hh := c_LhasRoom h
  rw [show decide (L.length < room) = false from by simpa using hr, bI_f] at hh
  unfold f_Line_add
  simp (disch := first | assumption | omega) only [h.c.o, hh, Option.bind_some, if_true, ↓zm1, zI_ne_m, zI_m_ne, zI_lit, zI_le, zI_eq, zI_mul, zI_lt, zI_modn, zI_div, zI_sub, zI_add, zN_mod]
/-- the loop of remove -/
theorem c_Lrem_L {Γ : gm_T} {a room n : Nat} (hrm : room ≤ 16) (h0 : Γ a = .inr 1) (g : gA Γ (a + 1) 5 = some room) (hn : n ≤ room) {b : Nat} (hb : Γ b = .inr 0) :
    ∀ (d j fu : Nat) (φ : ph_T), j + d = n → 0 < j → d < fu → φ.2.2 a 0 = some (a + 1) → φ.1 a 1 = nI n → (∀ k, k < n → ∃ x, φ.2.2 (a + 1) k = some x ∧ Γ x = .inr 0) →
    ∃ φ', f_Line_remove_L24 Γ fu φ a (some b) (nI j) = some ((), φ') ∧ φ'.1 = (uI φ a 1 (nI (n - 1))).1 ∧ φ'.2.1 = φ.2.1 ∧ (∀ c, c ≠ a + 1 → φ'.2.2 c = φ.2.2 c) ∧
      (∀ k, φ'.2.2 (a + 1) k = if k + 1 = n then some b else if j ≤ k + 1 ∧ k + 1 < n then φ.2.2 (a + 1) (k + 1) else φ.2.2 (a + 1) k) := by
  intro d
  induction d with
  | zero =>
    intro j fu φ hd hj hfu f0 hm hx
    match fu, hfu with
    | fu + 1, _ =>
      unfold f_Line_remove_L24
      simp (disch := first | assumption | omega) only [h0, f0, g, hb, Option.bind_some, if_true, hm, ↓zm1, zI_ne_m, zI_m_ne, zI_lit, zI_le, zI_eq, zI_mul, zI_lt, zI_modn, zI_div, zI_sub, zI_add, zN_mod, zix, uI_1, uI_2, uI_3, uL_1, uL_2, uL_3, vz_at]
      rw [if_pos (by omega)]
      refine ⟨_, rfl, rfl, rfl, ?_, ?_⟩
      · intro c hc
        simp [uR_3, hc, uI_3]
      · intro k
        rw [uR_3, if_pos rfl, vz_at, uI_3]
        by_cases hk : k + 1 = n
        · rw [if_pos (by omega), if_pos hk]
        · rw [if_neg (by omega), if_neg hk, if_neg (by omega)]
  | succ d ih =>
    intro j fu φ hd hj hfu f0 hm hx
    match fu, hfu with
    | fu + 1, hfu =>
      obtain ⟨x, ex, ox⟩ := hx j (by omega)
      have haa : a ≠ a + 1 := by omega
      obtain ⟨φ', q1, q2, q3, q4, q5⟩ := ih (j + 1) fu (uR φ (a + 1) (j - 1) (some x)) (by omega) (by omega) (by omega) (by rw [uR_3, if_neg haa]; exact f0) hm (by
        intro k hk
        rw [uR_3, if_pos rfl, vz_at]
        split
        · exact ⟨x, rfl, ox⟩
        · exact hx k hk)
      refine ⟨φ', ?_, q2, q3, ?_, ?_⟩
      · unfold f_Line_remove_L24
        simp (disch := first | assumption | omega) only [h0, f0, g, Option.bind_some, if_true, hm, ↓zm1, zI_ne_m, zI_m_ne, zI_lit, zI_le, zI_eq, zI_mul, zI_lt, zI_modn, zI_div, zI_sub, zI_add, zN_mod, zix, ex, ox]
        rw [if_neg (by omega)]
        exact q1
      · intro c hc
        rw [q4 c hc, uR_3, if_neg hc]
      · intro k
        rw [q5 k, uR_3, if_pos rfl]
        simp only [vz_at]
        repeat' split
        all_goals first | rfl | omega | (rw [← ex]; exact congrArg _ (by omega))
theorem c_Lremove {α : Type} {Γ : gm_T} {φ : ph_T} {a room : Nat} {E : ph_T → Nat → α → Prop} {l : List Nat} {L : List α} (h : CL Γ φ a room E l L) {i : Nat} (hi : i < L.length) :
    ∃ l' φ', f_Line_remove Γ φ a (nI i) = some ((), φ') ∧ CL Γ φ' a room E l' (L.eraseIdx i) ∧ Fr a (a + 2) φ φ' := by
  have h1 := h.c.rm
  have h2 := h.c.le
  have h3 := h.c.ll
  have hx : l[i]? = some l[i] := List.getElem?_eq_getElem (by omega)
  generalize l[i] = b at hx
  have hm := List.mem_of_getElem? hx
  have hb := h.c.lay b hm
  obtain ⟨φ', q1, q2, q3, q4, q5⟩ := c_Lrem_L (n := L.length) h.c.rm h.c.o h.c.g h.c.le hb.o (L.length - (i + 1)) (i + 1) jF φ (by omega) (by omega) (by unfold jF; omega) h.c.f h.c.n (fun k hk => by
    have hy : l[k]? = some l[k] := List.getElem?_eq_getElem (by omega)
    exact ⟨l[k], h.c.at_ _ _ hy, (h.c.lay _ (List.mem_of_getElem? hy)).o⟩)
  have hfr : Fr a (a + 2) φ φ' := by
    intro c hc
    refine ⟨?_, by rw [q3], q4 c (by omega)⟩
    rw [q2, uI_d (by omega)]
  have hll : (l.eraseIdx i).length = room - 1 := by rw [List.length_eraseIdx]; split <;> omega
  -- the new order
  have hl' : ∀ k, ((l.eraseIdx i).insertIdx (L.length - 1) b)[k]? = if k + 1 = L.length then some b else if i + 1 ≤ k + 1 ∧ k + 1 < L.length then l[k + 1]? else l[k]? := by
    intro k
    rw [List.getElem?_insertIdx]
    simp only [List.getElem?_eraseIdx, hll]
    repeat' split
    all_goals first | rfl | omega | (congr 1; omega) | skip
  have hperm : ((l.eraseIdx i).insertIdx (L.length - 1) b).Perm l := by
    have p1 : ((l.eraseIdx i).insertIdx (L.length - 1) b).Perm (b :: l.eraseIdx i) := List.perm_insertIdx b (l.eraseIdx i) (by omega)
    have hlt : i < l.length := by omega
    have p2 : (b :: l.eraseIdx i).Perm l := by
      have e : b = l[i] := by
        have := (List.getElem?_eq_some_iff.mp hx).2
        exact this.symm
      rw [e, List.eraseIdx_eq_take_drop_succ]
      have p3 : (l[i] :: (List.take i l ++ List.drop (i + 1) l)).Perm (List.take i l ++ l[i] :: List.drop (i + 1) l) := List.perm_middle.symm
      rw [← List.drop_eq_getElem_cons hlt, List.take_append_drop] at p3
      exact p3
    exact p1.trans p2
  refine ⟨(l.eraseIdx i).insertIdx (L.length - 1) b, φ', ?_, ⟨⟨h.c.o, ?_, h.c.g, h.c.rm, ?_, ?_, ?_, ?_, ?_, ?_, ?_⟩, ?_, h.loc⟩, hfr⟩
  · unfold f_Line_remove f_Line_remove_L12
    simp (disch := first | assumption | omega) only [h.c.o, h.c.f, h.c.g, Option.bind_some, if_true, h.c.n, ↓zm1, zI_ne_m, zI_m_ne, zI_lit, zI_le, zI_eq, zI_mul, zI_lt, zI_modn, zI_div, zI_sub, zI_add, zN_mod, zix, h.c.at_ i b hx]
    rw [if_neg (by omega), if_pos hi]
    exact q1
  · rw [q4 a (by omega)]; exact h.c.f
  · rw [q2, uI_s, vz_same, List.length_eraseIdx, if_pos hi]
  · rw [List.length_eraseIdx]; split <;> omega
  · rw [hperm.length_eq]; exact h3
  · exact hperm.nodup_iff.mpr h.c.nd
  · intro x hx2; exact h.c.hl x (hperm.mem_iff.mp hx2)
  · intro k x hk
    rw [hl'] at hk
    rw [q5]
    split at hk
    · rename_i hc; rw [if_pos hc]; exact hk
    · rename_i hc
      rw [if_neg hc]
      split at hk
      · rename_i hc2; rw [if_pos hc2]; exact h.c.at_ _ _ hk
      · rename_i hc2; rw [if_neg hc2]; exact h.c.at_ _ _ hk
  · intro x hx2
    have hx3 := hperm.mem_iff.mp hx2
    obtain ⟨p, hp, ep⟩ := h.c.hl x hx3
    exact (h.c.lay x hx3).up (q4 x (by omega))
  · intro k e x hk hx2
    have hlen := (List.getElem?_eq_some_iff.mp hk).1
    rw [List.length_eraseIdx, if_pos hi] at hlen
    rw [List.getElem?_eraseIdx] at hk
    rw [hl', if_neg (by omega)] at hx2
    have hE : E φ x e := by
      split at hk
      · rw [if_neg (by omega)] at hx2; exact h.e k e x hk hx2
      · rw [if_pos (by omega)] at hx2; exact h.e (k + 1) e x hk hx2
    have hx3 : x ∈ l := by
      split at hx2
      · exact List.mem_of_getElem? hx2
      · exact List.mem_of_getElem? hx2
    obtain ⟨p, hp, ep⟩ := h.c.hl x hx3
    exact h.loc φ φ' x e (hfr.sm (by omega)) hE
theorem c_Lremove_m {Γ : gm_T} {φ : ph_T} {a : Nat} : f_Line_remove Γ φ a m1 = some ((), φ) := by
  unfold f_Line_remove f_Line_remove_L12
  rw [if_pos (by decide)]

/-- the searches -/
theorem c_LwithId_L {α : Type} {Γ : gm_T} {φ : ph_T} {a room : Nat} {E : ph_T → Nat → α → Prop} {l : List Nat} {L : List α} (h : CL Γ φ a room E l L) (f : α → Nat) (hf : ∀ x e, E φ x e → idN (φ.2.1 x 0) = f e) {id : Nat} (hid : id < 64) : ∀ (d i fu : Nat), i + d = L.length → d < fu →
    f_Line_firstWithId_L2 Γ fu φ a (nI id) (nI i) = some (oI (((L.drop i).findIdx? (fun e => decide (f e = id))).map (· + i)) m1, φ) := by
  have h1 := h.c.rm
  have h2 := h.c.le
  intro d
  induction d with
  | zero =>
    intro i fu hd hfu
    match fu, hfu with
    | fu + 1, _ =>
      unfold f_Line_firstWithId_L2
      simp (disch := first | assumption | omega) only [h.c.o, if_true, h.c.n, ↓zm1, zI_ne_m, zI_m_ne, zI_lit, zI_le, zI_eq, zI_mul, zI_lt, zI_modn, zI_div, zI_sub, zI_add, zN_mod]
      rw [if_pos (by omega), List.drop_eq_nil_of_le (by omega)]
      rfl
  | succ d ih =>
    intro i fu hd hfu
    match fu, hfu with
    | fu + 1, hfu =>
      obtain ⟨e, he, hdr⟩ := drop_cons' (l := L) (i := i) (by omega)
      obtain ⟨x, hx, hE, hb, _, _, ha⟩ := h.get he
      have hr := ih (i + 1) fu (by omega) (by omega)
      have hfe := hf x e hE
      have hlt := idN_lt (φ.2.1 x 0)
      rw [hfe] at hlt
      unfold f_Line_firstWithId_L2
      simp (disch := first | assumption | omega) only [h.c.o, h.c.f, h.c.g, if_true, h.c.n, Option.bind_some, zix, ha, hb.o, e_Burst_idOf, hfe, ↓zm1, zI_ne_m, zI_m_ne, zI_lit, zI_le, zI_eq, zI_mul, zI_lt, zI_modn, zI_div, zI_sub, zI_add, zN_mod]
      rw [if_neg (by omega), hr, hdr, List.findIdx?_cons]
      by_cases c3 : f e = id
      · rw [if_pos c3]
        simp [c3, oI]
      · rw [if_neg c3]
        simp only [c3, decide_false, Bool.false_eq_true, if_false, Option.map_map]
        congr 3
        congr 1
        funext j
        simp only [Function.comp]
        omega
theorem c_LwithId {α : Type} {Γ : gm_T} {φ : ph_T} {a room : Nat} {E : ph_T → Nat → α → Prop} {l : List Nat} {L : List α} (h : CL Γ φ a room E l L) (f : α → Nat) (hf : ∀ x e, E φ x e → idN (φ.2.1 x 0) = f e) {id : Nat} (hid : id < 64) :
    f_Line_firstWithId Γ φ a (nI id) = some (oI (L.findIdx? (fun e => decide (f e = id))) m1, φ) := by
  have h1 := h.c.rm
  have h2 := h.c.le
  unfold f_Line_firstWithId
  rw [zI_0, c_LwithId_L h f hf hid L.length 0 jF (by omega) (by unfold jF; omega)]
  simp
theorem c_LunE_L {α : Type} {Γ : gm_T} {φ : ph_T} {a room : Nat} {E : ph_T → Nat → α → Prop} {l : List Nat} {L : List α} (h : CL Γ φ a room E l L) (f : α → Bool) (hf : ∀ x e, E φ x e → φ.1 x 2 = bI (f e)) : ∀ (d i fu : Nat), i + d = L.length → d < fu →
    f_Line_firstUnended_L2 Γ fu φ a (nI i) = some (oI (((L.drop i).findIdx? (fun e => !f e)).map (· + i)) m1, φ) := by
  have h1 := h.c.rm
  have h2 := h.c.le
  intro d
  induction d with
  | zero =>
    intro i fu hd hfu
    match fu, hfu with
    | fu + 1, _ =>
      unfold f_Line_firstUnended_L2
      simp (disch := first | assumption | omega) only [h.c.o, if_true, h.c.n, ↓zm1, zI_ne_m, zI_m_ne, zI_lit, zI_le, zI_eq, zI_mul, zI_lt, zI_modn, zI_div, zI_sub, zI_add, zN_mod]
      rw [if_pos (by omega), List.drop_eq_nil_of_le (by omega)]
      rfl
  | succ d ih =>
    intro i fu hd hfu
    match fu, hfu with
    | fu + 1, hfu =>
      obtain ⟨e, he, hdr⟩ := drop_cons' (l := L) (i := i) (by omega)
      obtain ⟨x, hx, hE, hb, _, _, ha⟩ := h.get he
      have hr := ih (i + 1) fu (by omega) (by omega)
      have hfe := hf x e hE
      unfold f_Line_firstUnended_L2
      simp (disch := first | assumption | omega) only [h.c.o, h.c.f, h.c.g, if_true, h.c.n, Option.bind_some, zix, ha, hb.o, hfe, bI_eq0, ↓zm1, zI_ne_m, zI_m_ne, zI_lit, zI_le, zI_eq, zI_mul, zI_lt, zI_modn, zI_div, zI_sub, zI_add, zN_mod]
      rw [if_neg (by omega), hr, hdr, List.findIdx?_cons]
      cases c3 : f e
      · simp [oI]
      · simp only [Bool.not_true, Bool.false_eq_true, if_false, Option.map_map, Bool.true_eq_false]
        congr 3
        congr 1
        funext j
        simp only [Function.comp]
        omega
theorem c_LunE {α : Type} {Γ : gm_T} {φ : ph_T} {a room : Nat} {E : ph_T → Nat → α → Prop} {l : List Nat} {L : List α} (h : CL Γ φ a room E l L) (f : α → Bool) (hf : ∀ x e, E φ x e → φ.1 x 2 = bI (f e)) :
    f_Line_firstUnended Γ φ a = some (oI (L.findIdx? (fun e => !f e)) m1, φ) := by
  have h1 := h.c.rm
  have h2 := h.c.le
  unfold f_Line_firstUnended
  rw [zI_0, c_LunE_L h f hf L.length 0 jF (by omega) (by unfold jF; omega)]
  simp
theorem c_LunA_L {α : Type} {Γ : gm_T} {φ : ph_T} {a room : Nat} {E : ph_T → Nat → α → Prop} {l : List Nat} {L : List α} (h : CL Γ φ a room E l L) (f : α → Bool) (hf : ∀ x e, E φ x e → φ.1 x 1 = bI (f e)) : ∀ (d i fu : Nat), i + d = L.length → d < fu →
    f_Line_firstUnaddressed_L2 Γ fu φ a (nI i) = some (oI (((L.drop i).findIdx? (fun e => !f e)).map (· + i)) m1, φ) := by
  have h1 := h.c.rm
  have h2 := h.c.le
  intro d
  induction d with
  | zero =>
    intro i fu hd hfu
    match fu, hfu with
    | fu + 1, _ =>
      unfold f_Line_firstUnaddressed_L2
      simp (disch := first | assumption | omega) only [h.c.o, if_true, h.c.n, ↓zm1, zI_ne_m, zI_m_ne, zI_lit, zI_le, zI_eq, zI_mul, zI_lt, zI_modn, zI_div, zI_sub, zI_add, zN_mod]
      rw [if_pos (by omega), List.drop_eq_nil_of_le (by omega)]
      rfl
  | succ d ih =>
    intro i fu hd hfu
    match fu, hfu with
    | fu + 1, hfu =>
      obtain ⟨e, he, hdr⟩ := drop_cons' (l := L) (i := i) (by omega)
      obtain ⟨x, hx, hE, hb, _, _, ha⟩ := h.get he
      have hr := ih (i + 1) fu (by omega) (by omega)
      have hfe := hf x e hE
      unfold f_Line_firstUnaddressed_L2
      simp (disch := first | assumption | omega) only [h.c.o, h.c.f, h.c.g, if_true, h.c.n, Option.bind_some, zix, ha, hb.o, hfe, bI_eq0, ↓zm1, zI_ne_m, zI_m_ne, zI_lit, zI_le, zI_eq, zI_mul, zI_lt, zI_modn, zI_div, zI_sub, zI_add, zN_mod]
      rw [if_neg (by omega), hr, hdr, List.findIdx?_cons]
      cases c3 : f e
      · simp [oI]
      · simp only [Bool.not_true, Bool.false_eq_true, if_false, Option.map_map, Bool.true_eq_false]
        congr 3
        congr 1
        funext j
        simp only [Function.comp]
        omega
theorem c_LunA {α : Type} {Γ : gm_T} {φ : ph_T} {a room : Nat} {E : ph_T → Nat → α → Prop} {l : List Nat} {L : List α} (h : CL Γ φ a room E l L) (f : α → Bool) (hf : ∀ x e, E φ x e → φ.1 x 1 = bI (f e)) :
    f_Line_firstUnaddressed Γ φ a = some (oI (L.findIdx? (fun e => !f e)) m1, φ) := by
  have h1 := h.c.rm
  have h2 := h.c.le
  unfold f_Line_firstUnaddressed
  rw [zI_0, c_LunA_L h f hf L.length 0 jF (by omega) (by unfold jF; omega)]
  simp
theorem c_Lans_L {Γ : gm_T} {φ : ph_T} {a room : Nat} {E : ph_T → Nat → MW → Prop} {l : List Nat} {L : List MW} (h : CL Γ φ a room E l L) (hf : ∀ x e, E φ x e → φ.1 x 1 = bI e.has ∧ φ.1 x 2 = bI e.last ∧ (e.has = true → φ.2.1 x 0 = e.con)) {id : Nat} (hid : id < 64) : ∀ (d i fu : Nat), i + d = L.length → d < fu →
    f_Line_firstAnswerable_L2 Γ fu φ a (nI id) (nI i) = some (oI (((L.drop i).findIdx? (isMwA id)).map (· + i)) m1, φ) := by
  have h1 := h.c.rm
  have h2 := h.c.le
  intro d
  induction d with
  | zero =>
    intro i fu hd hfu
    match fu, hfu with
    | fu + 1, _ =>
      unfold f_Line_firstAnswerable_L2
      simp (disch := first | assumption | omega) only [h.c.o, if_true, h.c.n, ↓zm1, zI_ne_m, zI_m_ne, zI_lit, zI_le, zI_eq, zI_mul, zI_lt, zI_modn, zI_div, zI_sub, zI_add, zN_mod]
      rw [if_pos (by omega), List.drop_eq_nil_of_le (by omega)]
      rfl
  | succ d ih =>
    intro i fu hd hfu
    match fu, hfu with
    | fu + 1, hfu =>
      obtain ⟨e, he, hdr⟩ := drop_cons' (l := L) (i := i) (by omega)
      obtain ⟨x, hx, hE, hb, _, _, ha⟩ := h.get he
      have hr := ih (i + 1) fu (by omega) (by omega)
      obtain ⟨u1, u2, u3⟩ := hf x e hE
      have hno : (Option.map (fun x => x + i) (Option.map (fun i => i + 1) (List.findIdx? (isMwA id) (List.drop (i + 1) L)))) = Option.map (fun x => x + (i + 1)) (List.findIdx? (isMwA id) (List.drop (i + 1) L)) := by
        rw [Option.map_map]
        congr 1
        funext j
        simp only [Function.comp]
        omega
      unfold f_Line_firstAnswerable_L2 f_Line_firstAnswerable_L44
      simp (disch := first | assumption | omega) only [h.c.o, h.c.f, h.c.g, if_true, h.c.n, Option.bind_some, zix, ha, hb.o, u1, u2, bI_eq0, e_Burst_idOf, ↓zm1, zI_ne_m, zI_m_ne, zI_lit, zI_le, zI_eq, zI_mul, zI_lt, zI_modn, zI_div, zI_sub, zI_add, zN_mod]
      rw [if_neg (by omega), hr, hdr, List.findIdx?_cons]
      cases c1 : e.has
      · simp only [if_true, isMwA, c1, Bool.false_and, Bool.false_eq_true, if_false]
        exact congrArg (fun z => some (oI z m1, φ)) hno.symm
      · cases c2 : e.last
        · simp only [if_true, isMwA, c1, c2, Bool.true_and, Bool.false_and, Bool.false_eq_true, if_false, Bool.true_eq_false]
          exact congrArg (fun z => some (oI z m1, φ)) hno.symm
        · have hlt := idN_lt e.con
          rw [u3 c1]
          simp (disch := first | assumption | omega) only [Bool.true_eq_false, if_false, isMwA, c1, c2, Bool.true_and, ↓zm1, zI_ne_m, zI_m_ne, zI_lit, zI_le, zI_eq, zI_mul, zI_lt, zI_modn, zI_div, zI_sub, zI_add, zN_mod]
          by_cases c3 : idN e.con = id
          · simp [c3, oI]
          · simp only [c3, if_false, decide_false, Bool.false_eq_true]
            exact congrArg (fun z => some (oI z m1, φ)) hno.symm
theorem c_Lans {Γ : gm_T} {φ : ph_T} {a room : Nat} {E : ph_T → Nat → MW → Prop} {l : List Nat} {L : List MW} (h : CL Γ φ a room E l L) (hf : ∀ x e, E φ x e → φ.1 x 1 = bI e.has ∧ φ.1 x 2 = bI e.last ∧ (e.has = true → φ.2.1 x 0 = e.con)) {id : Nat} (hid : id < 64) :
    f_Line_firstAnswerable Γ φ a (nI id) = some (oI (L.findIdx? (isMwA id)) m1, φ) := by
  have h1 := h.c.rm
  have h2 := h.c.le
  unfold f_Line_firstAnswerable
  rw [zI_0, c_Lans_L h hf hid L.length 0 jF (by omega) (by unfold jF; omega)]
  simp
