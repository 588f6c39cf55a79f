/-! THE CLASS: slaves, what they choose -/
def EWe (φ : ph_T) (x : Nat) (e : WE) : Prop := φ.2.1 x 0 = e.con ∧ φ.1 x 2 = bI (decide (e.got = leN e.con)) ∧ φ.1 x 3 = nI e.got ∧ φ.1 x 4 = (if e.got = leN e.con then nI e.since else m1) ∧ φ.1 x 5 = (if e.got = leN e.con then nI e.resp else nI 0) ∧ ∀ i, i < e.got → φ.2.1 (x + 1) i = e.dat i ∧ φ.1 (x + 2) i = e.rst i
def EQe (φ : ph_T) (x : Nat) (e : QE) : Prop := φ.2.1 x 0 = e.con ∧ φ.1 x 3 = nI e.got ∧ φ.1 x 4 = nI e.since ∧ ∀ i, i < leN e.con → φ.2.1 (x + 1) i = e.dat i ∧ φ.1 (x + 2) i = nI (ansR (idN e.con) (e.rsp i) (decide (i = leN e.con - 1)))
theorem EWe_loc : Loc EWe := by
  intro φ φ' x e s h
  unfold EWe
  rw [s.i (by omega) (by omega), s.l (by omega) (by omega), s.l (by omega) (by omega), s.i (by omega) (by omega)]
  exact h
theorem EQe_loc : Loc EQe := by
  intro φ φ' x e s h
  unfold EQe
  rw [s.i (by omega) (by omega), s.l (by omega) (by omega), s.l (by omega) (by omega), s.i (by omega) (by omega)]
  exact h
def CSl (Γ : gm_T) (φ : ph_T) (a am : Nat) (S : XS) (s : Nat) : Prop := (Γ a = .inr 8) ∧ (φ.2.2 a 0 = some am) ∧ (φ.2.2 a 1 = some (a + 1)) ∧ (φ.2.2 a 2 = some (a + 2)) ∧ (φ.2.2 a 3 = some (a + 16)) ∧ (φ.2.2 a 4 = some (a + 30)) ∧ (φ.2.2 a 5 = some (a + 31)) ∧ (gA Γ (a + 1) 0 = some 5) ∧ (gA Γ (a + 30) 0 = some 64) ∧ (gA Γ (a + 31) 0 = some 64) ∧ (∃ l, CL Γ φ (a + 2) 4 EWe l (S.sw s)) ∧ (∃ l, CL Γ φ (a + 16) 4 EQe l (S.sr s)) ∧ (∀ c, c < 5 → φ.1 (a + 1) c = nI (S.spat s c)) ∧ (∀ j, j < 64 → φ.1 (a + 30) j = oI ((S.rgt s j).map Prod.fst) m1 ∧ ∀ q, S.rgt s j = some q → φ.1 (a + 31) j = nI q.2) ∧ (φ.1 a 6 = nI (S.delay s)) ∧ (φ.1 a 7 = nI (S.way s)) ∧ (∀ i, S.chb s = some i → φ.1 a 8 = nI i) ∧ (∀ i, S.chr s = some i → φ.1 a 9 = nI i) ∧ (φ.1 a 10 = oI ((S.lat s).map Prod.fst) m1)
theorem CSl.o {Γ : gm_T} {φ : ph_T} {a am : Nat} {S : XS} {s : Nat} (h : CSl Γ φ a am S s) : Γ a = .inr 8 := h.1
theorem CSl.f0 {Γ : gm_T} {φ : ph_T} {a am : Nat} {S : XS} {s : Nat} (h : CSl Γ φ a am S s) : φ.2.2 a 0 = some am := h.2.1
theorem CSl.f1 {Γ : gm_T} {φ : ph_T} {a am : Nat} {S : XS} {s : Nat} (h : CSl Γ φ a am S s) : φ.2.2 a 1 = some (a + 1) := h.2.2.1
theorem CSl.f2 {Γ : gm_T} {φ : ph_T} {a am : Nat} {S : XS} {s : Nat} (h : CSl Γ φ a am S s) : φ.2.2 a 2 = some (a + 2) := h.2.2.2.1
theorem CSl.f3 {Γ : gm_T} {φ : ph_T} {a am : Nat} {S : XS} {s : Nat} (h : CSl Γ φ a am S s) : φ.2.2 a 3 = some (a + 16) := h.2.2.2.2.1
theorem CSl.f4 {Γ : gm_T} {φ : ph_T} {a am : Nat} {S : XS} {s : Nat} (h : CSl Γ φ a am S s) : φ.2.2 a 4 = some (a + 30) := h.2.2.2.2.2.1
theorem CSl.f5 {Γ : gm_T} {φ : ph_T} {a am : Nat} {S : XS} {s : Nat} (h : CSl Γ φ a am S s) : φ.2.2 a 5 = some (a + 31) := h.2.2.2.2.2.2.1
theorem CSl.g1 {Γ : gm_T} {φ : ph_T} {a am : Nat} {S : XS} {s : Nat} (h : CSl Γ φ a am S s) : gA Γ (a + 1) 0 = some 5 := h.2.2.2.2.2.2.2.1
theorem CSl.g4 {Γ : gm_T} {φ : ph_T} {a am : Nat} {S : XS} {s : Nat} (h : CSl Γ φ a am S s) : gA Γ (a + 30) 0 = some 64 := h.2.2.2.2.2.2.2.2.1
theorem CSl.g5 {Γ : gm_T} {φ : ph_T} {a am : Nat} {S : XS} {s : Nat} (h : CSl Γ φ a am S s) : gA Γ (a + 31) 0 = some 64 := h.2.2.2.2.2.2.2.2.2.1
theorem CSl.sw {Γ : gm_T} {φ : ph_T} {a am : Nat} {S : XS} {s : Nat} (h : CSl Γ φ a am S s) : ∃ l, CL Γ φ (a + 2) 4 EWe l (S.sw s) := h.2.2.2.2.2.2.2.2.2.2.1
theorem CSl.sr {Γ : gm_T} {φ : ph_T} {a am : Nat} {S : XS} {s : Nat} (h : CSl Γ φ a am S s) : ∃ l, CL Γ φ (a + 16) 4 EQe l (S.sr s) := h.2.2.2.2.2.2.2.2.2.2.2.1
theorem CSl.pt {Γ : gm_T} {φ : ph_T} {a am : Nat} {S : XS} {s : Nat} (h : CSl Γ φ a am S s) : ∀ c, c < 5 → φ.1 (a + 1) c = nI (S.spat s c) := h.2.2.2.2.2.2.2.2.2.2.2.2.1
theorem CSl.rg {Γ : gm_T} {φ : ph_T} {a am : Nat} {S : XS} {s : Nat} (h : CSl Γ φ a am S s) : ∀ j, j < 64 → φ.1 (a + 30) j = oI ((S.rgt s j).map Prod.fst) m1 ∧ ∀ q, S.rgt s j = some q → φ.1 (a + 31) j = nI q.2 := h.2.2.2.2.2.2.2.2.2.2.2.2.2.1
theorem CSl.dl {Γ : gm_T} {φ : ph_T} {a am : Nat} {S : XS} {s : Nat} (h : CSl Γ φ a am S s) : φ.1 a 6 = nI (S.delay s) := h.2.2.2.2.2.2.2.2.2.2.2.2.2.2.1
theorem CSl.wy {Γ : gm_T} {φ : ph_T} {a am : Nat} {S : XS} {s : Nat} (h : CSl Γ φ a am S s) : φ.1 a 7 = nI (S.way s) := h.2.2.2.2.2.2.2.2.2.2.2.2.2.2.2.1
theorem CSl.cb {Γ : gm_T} {φ : ph_T} {a am : Nat} {S : XS} {s : Nat} (h : CSl Γ φ a am S s) : ∀ i, S.chb s = some i → φ.1 a 8 = nI i := h.2.2.2.2.2.2.2.2.2.2.2.2.2.2.2.2.1
theorem CSl.cr {Γ : gm_T} {φ : ph_T} {a am : Nat} {S : XS} {s : Nat} (h : CSl Γ φ a am S s) : ∀ i, S.chr s = some i → φ.1 a 9 = nI i := h.2.2.2.2.2.2.2.2.2.2.2.2.2.2.2.2.2.1
theorem CSl.lt {Γ : gm_T} {φ : ph_T} {a am : Nat} {S : XS} {s : Nat} (h : CSl Γ φ a am S s) : φ.1 a 10 = oI ((S.lat s).map Prod.fst) m1 := h.2.2.2.2.2.2.2.2.2.2.2.2.2.2.2.2.2.2
theorem CSl.sm {Γ : gm_T} {φ φ' : ph_T} {a am : Nat} {S : XS} {s : Nat} (h : CSl Γ φ a am S s) (q : Sm a (a + 32) φ φ') : CSl Γ φ' a am S s := by
  refine ⟨h.o, ?_, ?_, ?_, ?_, ?_, ?_, h.g1, h.g4, h.g5, ?_, ?_, ?_, ?_, ?_, ?_, ?_, ?_, ?_⟩
  · rw [q.r (by omega) (by omega)]; exact h.f0
  · rw [q.r (by omega) (by omega)]; exact h.f1
  · rw [q.r (by omega) (by omega)]; exact h.f2
  · rw [q.r (by omega) (by omega)]; exact h.f3
  · rw [q.r (by omega) (by omega)]; exact h.f4
  · rw [q.r (by omega) (by omega)]; exact h.f5
  · obtain ⟨l, hl⟩ := h.sw; exact ⟨l, hl.sm (q.mono (by omega) (by omega))⟩
  · obtain ⟨l, hl⟩ := h.sr; exact ⟨l, hl.sm (q.mono (by omega) (by omega))⟩
  · rw [q.i (by omega) (by omega)]; exact h.pt
  · rw [q.i (by omega) (by omega), q.i (by omega) (by omega)]; exact h.rg
  · rw [q.i (by omega) (by omega)]; exact h.dl
  · rw [q.i (by omega) (by omega)]; exact h.wy
  · rw [q.i (by omega) (by omega)]; exact h.cb
  · rw [q.i (by omega) (by omega)]; exact h.cr
  · rw [q.i (by omega) (by omega)]; exact h.lt
/-- ripe -/
theorem c_isRipeW {Γ : gm_T} {φ : ph_T} {a am : Nat} {S : XS} {s : Nat} (h : CSl Γ φ a am S s) (hB : Bd S) {x : Nat} {e : WE} (he : e ∈ S.sw s) (hb : CBl Γ φ x) (hE : EWe φ x e) : f_Slave_isRipe Γ φ a (some x) (nI S.time) = some (bI (S.ripeW s e), φ) := by
  have h3 := hB.sw s e he
  have h4 := hB.delay s
  have h5 := hB.time
  unfold f_Slave_isRipe f_Slave_isRipe_L29 f_Slave_isRipe_L30 XS.ripeW
  rw [if_neg (by simp), Option.bind_some, if_pos hb.o, hE.2.2.2.1]
  by_cases hg : e.got = leN e.con
  · simp (disch := first | assumption | omega) only [hg, if_true, if_false, h.o, h.dl, ↓zm1, zI_ne_m, zI_m_ne, zI_lit, zI_le, zI_eq, zI_mul, zI_lt, zI_modn, zI_div, zI_sub, zI_add, zN_mod]
    by_cases ht : e.since + S.delay s < S.time
    · rw [if_neg (by omega), if_pos (by decide)]; simp [ht, bI]
    · rw [if_pos (by omega), if_pos (by decide)]; simp [ht, bI]
  · simp only [hg, if_false, ↓zm1, if_true]
    rw [if_pos (by decide)]
    simp [bI]; rfl
theorem c_isRipeR {Γ : gm_T} {φ : ph_T} {a am : Nat} {S : XS} {s : Nat} (h : CSl Γ φ a am S s) (hB : Bd S) {x : Nat} {e : QE} (he : e ∈ S.sr s) (hb : CBl Γ φ x) (hE : EQe φ x e) : f_Slave_isRipe Γ φ a (some x) (nI S.time) = some (bI (S.ripeR s e), φ) := by
  have h3 := hB.sr s e he
  have h4 := hB.delay s
  have h5 := hB.time
  unfold f_Slave_isRipe f_Slave_isRipe_L29 f_Slave_isRipe_L30 XS.ripeR
  rw [if_neg (by simp), Option.bind_some, if_pos hb.o, hE.2.2.1]
  simp (disch := first | assumption | omega) only [if_true, h.o, h.dl, ↓zm1, zI_ne_m, zI_m_ne, zI_lit, zI_le, zI_eq, zI_mul, zI_lt, zI_modn, zI_div, zI_sub, zI_add, zN_mod, if_false]
  by_cases ht : e.since + S.delay s < S.time
  · rw [if_neg (by omega), if_pos (by decide)]; simp [ht, bI]
  · rw [if_pos (by omega), if_pos (by decide)]; simp [ht, bI]
/-- the first with its ID -/
theorem fi_fst {α : Type} {f : α → Nat} {L : List α} {i : Nat} {e : α} (he : L[i]? = some e) : (L.findIdx? (fun x => decide (f x = f e)) = some i) ↔ fstId (L.map f) i = true := by
  have hi := (List.getElem?_eq_some_iff.mp he).1
  have hei := (List.getElem?_eq_some_iff.mp he).2
  unfold fstId
  rw [List.findIdx?_eq_some_iff_getElem, List.all_eq_true]
  constructor
  · rintro ⟨_, h2, h3⟩ j hj
    have hj := List.mem_range.mp hj
    have := h3 j hj
    simp only [List.getElem?_map, he, List.getElem?_eq_getElem (show j < L.length by omega), Option.map_some, decide_eq_true_eq]
    simp at this
    intro hc
    exact this (Option.some.inj hc)
  · intro h
    refine ⟨hi, by simp [hei], ?_⟩
    intro j hj
    have := h j (List.mem_range.mpr hj)
    simp only [List.getElem?_map, he, List.getElem?_eq_getElem (show j < L.length by omega), Option.map_some, decide_eq_true_eq] at this
    simp
    intro hc
    exact this (by rw [hc])
theorem c_mayAnsW {Γ : gm_T} {φ : ph_T} {a am : Nat} {S : XS} {s : Nat} (h : CSl Γ φ a am S s) (hB : Bd S) (hw : S.way s ≠ 0) {i : Nat} (hi : i < (S.sw s).length) : f_Slave_mayAnswer Γ φ a (some (a + 2)) (nI i) (nI S.time) = some (bI (S.canW s i), φ) := by
  obtain ⟨l, hl⟩ := h.sw
  have hle := hl.c.le
  obtain ⟨e, he⟩ : ∃ e, (S.sw s)[i]? = some e := ⟨_, List.getElem?_eq_getElem hi⟩
  obtain ⟨x, hx, hE, hb, _, _, _⟩ := hl.get he
  have hid := idN_lt e.con
  have hw1 := c_LwithId hl (fun e => idN e.con) (fun x e he => by rw [he.1]) (id := idN e.con) hid
  unfold f_Slave_mayAnswer f_Slave_mayAnswer_L37 f_Slave_mayAnswer_L38
  simp only [Option.bind_some, hl.c.o, if_true, c_Lat hl he hx, h.o, c_isRipeW h hB (lmem he) hb hE, hb.o, e_Burst_idOf, hE.1, hw1]
  unfold XS.canW
  rw [he]
  simp only [if_neg hw]
  cases hr : S.ripeW s e with
  | false => simp [bI]; rfl
  | true =>
    have hff := fi_fst (f := fun e : WE => idN e.con) he
    rw [bI_t, if_neg (by decide)]
    cases hf : fstId ((S.sw s).map fun e => idN e.con) i with
    | true =>
      rw [hff.mpr hf]
      simp only [oI, if_true]
      rw [if_pos (by decide)]; rfl
    | false =>
      have hne : ¬ (oI (List.findIdx? (fun e_1 => decide (idN e_1.con = idN e.con)) (S.sw s)) m1 = nI i) := by
        cases hc : List.findIdx? (fun e_1 => decide (idN e_1.con = idN e.con)) (S.sw s) with
        | none => simp only [oI]; rw [zI_m_ne (by omega)]; exact id
        | some j =>
          have hj := (List.findIdx?_eq_some_iff_getElem.mp hc).1
          simp only [oI]
          rw [zI_eq (by omega) (by omega)]
          intro e1
          subst e1
          rw [hff.mp hc] at hf
          cases hf
      rw [if_neg hne, if_pos (by decide)]; rfl
theorem c_mayAnsR {Γ : gm_T} {φ : ph_T} {a am : Nat} {S : XS} {s : Nat} (h : CSl Γ φ a am S s) (hB : Bd S) (hw : S.way s ≠ 0) {i : Nat} (hi : i < (S.sr s).length) : f_Slave_mayAnswer Γ φ a (some (a + 16)) (nI i) (nI S.time) = some (bI (S.canR s i), φ) := by
  obtain ⟨l, hl⟩ := h.sr
  have hle := hl.c.le
  obtain ⟨e, he⟩ : ∃ e, (S.sr s)[i]? = some e := ⟨_, List.getElem?_eq_getElem hi⟩
  obtain ⟨x, hx, hE, hb, _, _, _⟩ := hl.get he
  have hid := idN_lt e.con
  have hw1 := c_LwithId hl (fun e => idN e.con) (fun x e he => by rw [he.1]) (id := idN e.con) hid
  unfold f_Slave_mayAnswer f_Slave_mayAnswer_L37 f_Slave_mayAnswer_L38
  simp only [Option.bind_some, hl.c.o, if_true, c_Lat hl he hx, h.o, c_isRipeR h hB (lmem he) hb hE, hb.o, e_Burst_idOf, hE.1, hw1]
  unfold XS.canR
  rw [he]
  simp only [if_neg hw]
  cases hr : S.ripeR s e with
  | false => simp [bI]; rfl
  | true =>
    have hff := fi_fst (f := fun e : QE => idN e.con) he
    rw [bI_t, if_neg (by decide)]
    cases hf : fstId ((S.sr s).map fun e => idN e.con) i with
    | true =>
      rw [hff.mpr hf]
      simp only [oI, if_true]
      rw [if_pos (by decide)]; rfl
    | false =>
      have hne : ¬ (oI (List.findIdx? (fun e_1 => decide (idN e_1.con = idN e.con)) (S.sr s)) m1 = nI i) := by
        cases hc : List.findIdx? (fun e_1 => decide (idN e_1.con = idN e.con)) (S.sr s) with
        | none => simp only [oI]; rw [zI_m_ne (by omega)]; exact id
        | some j =>
          have hj := (List.findIdx?_eq_some_iff_getElem.mp hc).1
          simp only [oI]
          rw [zI_eq (by omega) (by omega)]
          intro e1
          subst e1
          rw [hff.mp hc] at hf
          cases hf
      rw [if_neg hne, if_pos (by decide)]; rfl
/-- the last that may be answered: writes -/
theorem c_lastW_L {Γ : gm_T} {φ : ph_T} {a am : Nat} {S : XS} {s : Nat} (h : CSl Γ φ a am S s) (hB : Bd S) (hw : S.way s ≠ 0) : ∀ (d i fu : Nat), i + d = (S.sw s).length → d < fu →
    f_Slave_chooseLast_L6 Γ fu φ a (some (a + 2)) (nI 0) (nI S.time) (oI (lstN (S.canW s) i) m1) (nI i) = some (oI (lstN (S.canW s) (S.sw s).length) m1, φ) := by
  obtain ⟨l, hl⟩ := h.sw
  have hle := hl.c.le
  intro d
  induction d with
  | zero =>
    intro i fu hd hfu
    match fu, hfu with
    | fu + 1, _ =>
      unfold f_Slave_chooseLast_L6
      simp (disch := first | assumption | omega) only [Option.bind_some, hl.c.o, if_true, hl.c.n, ↓zm1, zI_ne_m, zI_m_ne, zI_lit, zI_le, zI_eq, zI_mul, zI_lt, zI_modn, zI_div, zI_sub, zI_add, zN_mod]
      rw [if_pos (by omega)]
      rw [show i = (S.sw s).length by omega]
  | succ d ih =>
    intro i fu hd hfu
    match fu, hfu with
    | fu + 1, hfu =>
      have hr := ih (i + 1) fu (by omega) (by omega)
      unfold f_Slave_chooseLast_L6 f_Slave_chooseLast_L50
      simp (disch := first | assumption | omega) only [Option.bind_some, hl.c.o, if_true, hl.c.n, h.o, c_mayAnsW h hB hw (show i < (S.sw s).length by omega), bI_eq0, ↓zm1, zI_ne_m, zI_m_ne, zI_lit, zI_le, zI_eq, zI_mul, zI_lt, zI_modn, zI_div, zI_sub, zI_add, zN_mod]
      rw [if_neg (by omega)]
      rw [lstN_succ] at hr
      cases hc : S.canW s i with
      | true =>
        rw [hc, if_pos rfl] at hr
        simp only [Bool.true_eq_false, if_false]
        exact hr
      | false =>
        rw [hc, if_neg (by decide)] at hr
        simp only [if_true]
        exact hr
/-- reads: the first that has begun, else the last -/
theorem c_lastR_L {Γ : gm_T} {φ : ph_T} {a am : Nat} {S : XS} {s : Nat} (h : CSl Γ φ a am S s) (hB : Bd S) (hw : S.way s ≠ 0) : ∀ (d i fu : Nat), i + d = (S.sr s).length → d < fu → frsN (S.begun s) i = none →
    f_Slave_chooseLast_L6 Γ fu φ a (some (a + 16)) (nI 1) (nI S.time) (oI (lstN (S.canR s) i) m1) (nI i) = some (oI ((frsN (S.begun s) (S.sr s).length).or (lstN (S.canR s) (S.sr s).length)) m1, φ) := by
  obtain ⟨l, hl⟩ := h.sr
  have hle := hl.c.le
  have mono : ∀ i j n, i ≤ n → frsN (S.begun s) i = some j → frsN (S.begun s) n = some j := by
    intro i j n hin hj
    induction n with
    | zero => have : i = 0 := by omega
              subst this; exact hj
    | succ n ih =>
      by_cases e : i = n + 1
      · subst e; exact hj
      · rw [frsN_succ, ih (by omega)]; rfl
  intro d
  induction d with
  | zero =>
    intro i fu hd hfu h0
    match fu, hfu with
    | fu + 1, _ =>
      unfold f_Slave_chooseLast_L6
      simp (disch := first | assumption | omega) only [Option.bind_some, hl.c.o, if_true, hl.c.n, ↓zm1, zI_ne_m, zI_m_ne, zI_lit, zI_le, zI_eq, zI_mul, zI_lt, zI_modn, zI_div, zI_sub, zI_add, zN_mod]
      rw [if_pos (by omega), show (S.sr s).length = i by omega, h0]
      rfl
  | succ d ih =>
    intro i fu hd hfu h0
    match fu, hfu with
    | fu + 1, hfu =>
      obtain ⟨e, he⟩ : ∃ e, (S.sr s)[i]? = some e := ⟨_, List.getElem?_eq_getElem (by omega)⟩
      obtain ⟨x, hx, hE, hb, _, _, ha⟩ := hl.get he
      have hgot := (hB.sr s e (lmem he)).2.2.1
      have hle2 := leN_le e.con
      unfold f_Slave_chooseLast_L6 f_Slave_chooseLast_L50
      simp (disch := first | assumption | omega) only [Option.bind_some, hl.c.o, hl.c.f, hl.c.g, if_true, hl.c.n, h.o, c_mayAnsR h hB hw (show i < (S.sr s).length by omega), bI_eq0, zix, ha, hb.o, hE.2.1, ↓zm1, zI_ne_m, zI_m_ne, zI_lit, zI_le, zI_eq, zI_mul, zI_lt, zI_modn, zI_div, zI_sub, zI_add, zN_mod]
      rw [if_neg (by omega)]
      have hbeg : S.begun s i = (S.canR s i && decide (0 < e.got)) := by unfold XS.begun; rw [he]
      cases hc : S.canR s i with
      | false =>
        have hr := ih (i + 1) fu (by omega) (by omega) (by rw [frsN_succ, h0, hbeg, hc]; rfl)
        rw [lstN_succ, hc, if_neg (by decide)] at hr
        simp only [if_true]
        exact hr
      | true =>
        simp only [Bool.true_eq_false, if_false]
        by_cases hg : e.got = 0
        · have hr := ih (i + 1) fu (by omega) (by omega) (by rw [frsN_succ, h0, hbeg, hc, hg]; rfl)
          rw [lstN_succ, hc, if_pos rfl] at hr
          simp only [hg, Nat.le_refl, if_true, show ¬ ((1 : Nat) = 0) by decide, if_false]
          exact hr
        · have hj : frsN (S.begun s) (i + 1) = some i := by
            rw [frsN_succ, h0, hbeg, hc]
            simp [show 0 < e.got by omega]
          rw [mono (i + 1) i (S.sr s).length (by omega) hj]
          simp only [show ¬ (e.got ≤ 0) by omega, if_false]
          rfl
/-- reads: the first behind, else the first -/
theorem c_next_L {Γ : gm_T} {φ : ph_T} {a am : Nat} {S : XS} {s : Nat} (h : CSl Γ φ a am S s) (hB : Bd S) (hw : S.way s ≠ 0) (hn : ∀ e ∈ S.sr s, ∀ q, S.lat s = some q → (q.1 < e.since ↔ q.2 < e.num)) : ∀ (d i fu : Nat), i + d = (S.sr s).length → d < fu → frsN (S.behind s) i = none →
    f_Slave_chooseNext_L4 Γ fu φ a (nI S.time) (oI (frsN (S.canR s) i) m1) (nI i) = some (oI ((frsN (S.behind s) (S.sr s).length).or (frsN (S.canR s) (S.sr s).length)) m1, φ) := by
  obtain ⟨l, hl⟩ := h.sr
  have hle := hl.c.le
  have mono : ∀ i j n, i ≤ n → frsN (S.behind s) i = some j → frsN (S.behind s) n = some j := by
    intro i j n hin hj
    induction n with
    | zero => have : i = 0 := by omega
              subst this; exact hj
    | succ n ih =>
      by_cases e : i = n + 1
      · subst e; exact hj
      · rw [frsN_succ, ih (by omega)]; rfl
  intro d
  induction d with
  | zero =>
    intro i fu hd hfu h0
    match fu, hfu with
    | fu + 1, _ =>
      unfold f_Slave_chooseNext_L4
      simp (disch := first | assumption | omega) only [Option.bind_some, h.o, h.f3, hl.c.o, if_true, hl.c.n, ↓zm1, zI_ne_m, zI_m_ne, zI_lit, zI_le, zI_eq, zI_mul, zI_lt, zI_modn, zI_div, zI_sub, zI_add, zN_mod]
      rw [if_pos (by omega), show (S.sr s).length = i by omega, h0]
      rfl
  | succ d ih =>
    intro i fu hd hfu h0
    match fu, hfu with
    | fu + 1, hfu =>
      obtain ⟨e, he⟩ : ∃ e, (S.sr s)[i]? = some e := ⟨_, List.getElem?_eq_getElem (by omega)⟩
      obtain ⟨x, hx, hE, hb, _, _, ha⟩ := hl.get he
      have hsi := (hB.sr s e (lmem he)).1
      unfold f_Slave_chooseNext_L4 f_Slave_chooseNext_L59 f_Slave_chooseNext_L60
      simp (disch := first | assumption | omega) only [Option.bind_some, hl.c.o, hl.c.f, hl.c.g, if_true, hl.c.n, h.o, h.f3, c_mayAnsR h hB hw (show i < (S.sr s).length by omega), bI_eq0, zix, ha, hb.o, hE.2.2.1, h.lt, ↓zm1, zI_ne_m, zI_m_ne, zI_lit, zI_le, zI_eq, zI_mul, zI_lt, zI_modn, zI_div, zI_sub, zI_add, zN_mod]
      rw [if_neg (by omega)]
      have hbh : S.behind s i = (S.canR s i && (match S.lat s with
        | none => true
        | some q => decide (q.1 < e.since))) := by
        unfold XS.behind
        rw [he]
        cases hq : S.lat s with
        | none => rfl
        | some q =>
          have := hn e (lmem he) q hq
          by_cases hc : q.1 < e.since
          · simp [hc, this.mp hc]
          · have hc2 : ¬ q.2 < e.num := fun hh => hc (this.mpr hh)
            simp [hc, hc2]
      have hcmp : (nI e.since ≤ oI ((S.lat s).map Prod.fst) m1) ↔ (match S.lat s with
        | none => true
        | some q => decide (q.1 < e.since)) = false := by
        cases hq : S.lat s with
        | none =>
          simp only [Option.map_none, oI]
          constructor
          · intro hc
            rw [Int32.le_iff_toInt_le, zI_toInt (by omega), show m1.toInt = -1 from by decide] at hc
            omega
          · intro hc; cases hc
        | some q =>
          have hq2 := (hB.lat s q hq).1
          simp only [Option.map_some, oI]
          rw [zI_le (by omega) (by omega)]
          simp
      cases hc : S.canR s i with
      | false =>
        have hr := ih (i + 1) fu (by omega) (by omega) (by rw [frsN_succ, h0, hbh, hc]; rfl)
        rw [frsN_succ (S.canR s), hc, if_neg (by decide), Option.or_none] at hr
        simp only [if_true]
        exact hr
      | true =>
        simp only [Bool.true_eq_false, if_false]
        cases hm : (match S.lat s with
          | none => true
          | some q => decide (q.1 < e.since)) with
        | false =>
          rw [if_pos (hcmp.mpr hm)]
          have hr := ih (i + 1) fu (by omega) (by omega) (by rw [frsN_succ, h0, hbh, hc, hm]; rfl)
          rw [frsN_succ (S.canR s), hc, if_pos rfl] at hr
          cases hf : frsN (S.canR s) i with
          | none =>
            rw [hf] at hr
            rw [if_pos (by rfl)]
            exact hr
          | some j =>
            have hj := frsN_lt hf
            rw [hf] at hr
            rw [if_neg (show ¬ oI (some j) m1 = m1 from zI_ne_m1 (by omega))]
            exact hr
        | true =>
          rw [if_neg (fun hh => by rw [hcmp.mp hh] at hm; cases hm)]
          have hj : frsN (S.behind s) (i + 1) = some i := by
            rw [frsN_succ, h0, hbh, hc, hm]
            rfl
          rw [mono (i + 1) i (S.sr s).length (by omega) hj]
          rfl
