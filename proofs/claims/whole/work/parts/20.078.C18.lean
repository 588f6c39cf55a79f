/-! THE CLASS: requests and masters -/
def ETk (φ : ph_T) (y : Nat) (e : TK) : Prop := φ.1 y 1 = bI e.wr ∧ φ.1 y 2 = e.asked ∧ φ.1 y 3 = e.sent ∧ φ.1 y 4 = e.done ∧ φ.1 y 5 = nI e.resp ∧ φ.2.1 (y + 1) 0 = e.con ∧ φ.1 (y + 1) 3 = nI e.beats ∧
  (e.wr = true → ∀ k, k < leN e.con → φ.2.1 (y + 2) k = e.dat k ∧ φ.1 (y + 3) k = e.rst k) ∧ (e.wr = false → ∀ k, k < e.beats → φ.2.1 (y + 2) k = e.dat k)
def CTk (Γ : gm_T) (φ : ph_T) (b : Nat) (l : List TK) : Prop := (∀ t, t < 64 → Γ (b + 4 * t) = .inr 6 ∧ φ.2.2 (b + 4 * t) 0 = some (b + 4 * t + 1) ∧ CBl Γ φ (b + 4 * t + 1)) ∧ (l.length ≤ 64) ∧ (∀ (t : Nat) (x : TK), l[t]? = some x → ETk φ (b + 4 * t) x)
theorem CTk.o {Γ : gm_T} {φ : ph_T} {b : Nat} {l : List TK} (h : CTk Γ φ b l) : ∀ t, t < 64 → Γ (b + 4 * t) = .inr 6 ∧ φ.2.2 (b + 4 * t) 0 = some (b + 4 * t + 1) ∧ CBl Γ φ (b + 4 * t + 1) := h.1
theorem CTk.le {Γ : gm_T} {φ : ph_T} {b : Nat} {l : List TK} (h : CTk Γ φ b l) : l.length ≤ 64 := h.2.1
theorem CTk.e {Γ : gm_T} {φ : ph_T} {b : Nat} {l : List TK} (h : CTk Γ φ b l) : ∀ (t : Nat) (x : TK), l[t]? = some x → ETk φ (b + 4 * t) x := h.2.2
theorem ETk.sm {φ φ' : ph_T} {y : Nat} {e : TK} (h : ETk φ y e) (s : Sm y (y + 4) φ φ') : ETk φ' y e := by
  unfold ETk
  rw [s.i (by omega) (by omega), s.l (by omega) (by omega), s.i (by omega) (by omega), s.l (by omega) (by omega), s.i (by omega) (by omega)]
  exact h
theorem CTk.sm {Γ : gm_T} {φ φ' : ph_T} {b : Nat} {l : List TK} (h : CTk Γ φ b l) (s : Sm b (b + 256) φ φ') : CTk Γ φ' b l := by
  refine ⟨fun t ht => ?_, h.le, fun t x hx => ?_⟩
  · obtain ⟨h1, h2, h3⟩ := h.o t ht
    exact ⟨h1, by rw [s.r (by omega) (by omega)]; exact h2, h3.up (s.r (by omega) (by omega))⟩
  · have hlt := (List.getElem?_eq_some_iff.mp hx).1
    have hle := h.le
    exact (h.e t x hx).sm (s.mono (by omega) (by omega))
/-- one ticket has changed -/
theorem CTk.set {Γ : gm_T} {φ φ' : ph_T} {b t : Nat} {l : List TK} {x x' : TK} (h : CTk Γ φ b l) (hx : l[t]? = some x) (f : Fr (b + 4 * t) (b + 4 * t + 4) φ φ') (e1 : φ'.2.2 = φ.2.2) (he : ETk φ' (b + 4 * t) x') : CTk Γ φ' b (l.set t x') := by
  have hlt := (List.getElem?_eq_some_iff.mp hx).1
  refine ⟨fun k hk => ?_, by rw [List.length_set]; exact h.le, fun k y hy => ?_⟩
  · obtain ⟨h1, h2, h3⟩ := h.o k hk
    exact ⟨h1, by rw [e1]; exact h2, h3.up (by rw [e1])⟩
  · by_cases hk : k = t
    · subst hk
      rw [List.getElem?_set_self hlt] at hy
      cases hy
      exact he
    · rw [List.getElem?_set_ne (fun hh => hk hh.symm)] at hy
      exact (h.e k y hy).sm (f.sm (by omega))
def CMa (Γ : gm_T) (φ : ph_T) (a b : Nat) (l : List TK) (m : Nat) (pat : Nat → Nat) (early : Bool) : Prop := (Γ a = .inr 7) ∧ (φ.2.2 a 0 = some (a + 1)) ∧ (φ.2.2 a 2 = some (a + 2)) ∧ (φ.2.2 a 3 = some (a + 3)) ∧ (gA Γ (a + 1) 0 = some 5) ∧ (gA Γ (a + 2) 6 = some 64) ∧ (gA Γ (a + 3) 6 = some 64) ∧ (∀ c, c < 5 → φ.1 (a + 1) c = nI (pat c)) ∧ (φ.1 a 1 = bI early) ∧ (∀ (i t : Nat), (tix l m true)[i]? = some t → φ.2.2 (a + 2) i = some (b + 4 * t)) ∧ (∀ (i t : Nat), (tix l m false)[i]? = some t → φ.2.2 (a + 3) i = some (b + 4 * t)) ∧ (φ.1 a 4 = nI (tix l m true).length) ∧ (φ.1 a 5 = nI (tix l m false).length) ∧ (φ.1 a 6 = nI (nSent l m true)) ∧ (φ.1 a 7 = nI (nSent l m false)) ∧ (φ.1 a 8 = nI (nFed l m)) ∧ (φ.1 a 9 = nI (nOpn l m))
theorem CMa.o {Γ : gm_T} {φ : ph_T} {a b : Nat} {l : List TK} {m : Nat} {pat : Nat → Nat} {early : Bool} (h : CMa Γ φ a b l m pat early) : Γ a = .inr 7 := h.1
theorem CMa.f0 {Γ : gm_T} {φ : ph_T} {a b : Nat} {l : List TK} {m : Nat} {pat : Nat → Nat} {early : Bool} (h : CMa Γ φ a b l m pat early) : φ.2.2 a 0 = some (a + 1) := h.2.1
theorem CMa.f2 {Γ : gm_T} {φ : ph_T} {a b : Nat} {l : List TK} {m : Nat} {pat : Nat → Nat} {early : Bool} (h : CMa Γ φ a b l m pat early) : φ.2.2 a 2 = some (a + 2) := h.2.2.1
theorem CMa.f3 {Γ : gm_T} {φ : ph_T} {a b : Nat} {l : List TK} {m : Nat} {pat : Nat → Nat} {early : Bool} (h : CMa Γ φ a b l m pat early) : φ.2.2 a 3 = some (a + 3) := h.2.2.2.1
theorem CMa.g0 {Γ : gm_T} {φ : ph_T} {a b : Nat} {l : List TK} {m : Nat} {pat : Nat → Nat} {early : Bool} (h : CMa Γ φ a b l m pat early) : gA Γ (a + 1) 0 = some 5 := h.2.2.2.2.1
theorem CMa.g2 {Γ : gm_T} {φ : ph_T} {a b : Nat} {l : List TK} {m : Nat} {pat : Nat → Nat} {early : Bool} (h : CMa Γ φ a b l m pat early) : gA Γ (a + 2) 6 = some 64 := h.2.2.2.2.2.1
theorem CMa.g3 {Γ : gm_T} {φ : ph_T} {a b : Nat} {l : List TK} {m : Nat} {pat : Nat → Nat} {early : Bool} (h : CMa Γ φ a b l m pat early) : gA Γ (a + 3) 6 = some 64 := h.2.2.2.2.2.2.1
theorem CMa.pt {Γ : gm_T} {φ : ph_T} {a b : Nat} {l : List TK} {m : Nat} {pat : Nat → Nat} {early : Bool} (h : CMa Γ φ a b l m pat early) : ∀ c, c < 5 → φ.1 (a + 1) c = nI (pat c) := h.2.2.2.2.2.2.2.1
theorem CMa.ea {Γ : gm_T} {φ : ph_T} {a b : Nat} {l : List TK} {m : Nat} {pat : Nat → Nat} {early : Bool} (h : CMa Γ φ a b l m pat early) : φ.1 a 1 = bI early := h.2.2.2.2.2.2.2.2.1
theorem CMa.wl {Γ : gm_T} {φ : ph_T} {a b : Nat} {l : List TK} {m : Nat} {pat : Nat → Nat} {early : Bool} (h : CMa Γ φ a b l m pat early) : ∀ (i t : Nat), (tix l m true)[i]? = some t → φ.2.2 (a + 2) i = some (b + 4 * t) := h.2.2.2.2.2.2.2.2.2.1
theorem CMa.rl {Γ : gm_T} {φ : ph_T} {a b : Nat} {l : List TK} {m : Nat} {pat : Nat → Nat} {early : Bool} (h : CMa Γ φ a b l m pat early) : ∀ (i t : Nat), (tix l m false)[i]? = some t → φ.2.2 (a + 3) i = some (b + 4 * t) := h.2.2.2.2.2.2.2.2.2.2.1
theorem CMa.cw {Γ : gm_T} {φ : ph_T} {a b : Nat} {l : List TK} {m : Nat} {pat : Nat → Nat} {early : Bool} (h : CMa Γ φ a b l m pat early) : φ.1 a 4 = nI (tix l m true).length := h.2.2.2.2.2.2.2.2.2.2.2.1
theorem CMa.cr {Γ : gm_T} {φ : ph_T} {a b : Nat} {l : List TK} {m : Nat} {pat : Nat → Nat} {early : Bool} (h : CMa Γ φ a b l m pat early) : φ.1 a 5 = nI (tix l m false).length := h.2.2.2.2.2.2.2.2.2.2.2.2.1
theorem CMa.sw {Γ : gm_T} {φ : ph_T} {a b : Nat} {l : List TK} {m : Nat} {pat : Nat → Nat} {early : Bool} (h : CMa Γ φ a b l m pat early) : φ.1 a 6 = nI (nSent l m true) := h.2.2.2.2.2.2.2.2.2.2.2.2.2.1
theorem CMa.sr {Γ : gm_T} {φ : ph_T} {a b : Nat} {l : List TK} {m : Nat} {pat : Nat → Nat} {early : Bool} (h : CMa Γ φ a b l m pat early) : φ.1 a 7 = nI (nSent l m false) := h.2.2.2.2.2.2.2.2.2.2.2.2.2.2.1
theorem CMa.fd {Γ : gm_T} {φ : ph_T} {a b : Nat} {l : List TK} {m : Nat} {pat : Nat → Nat} {early : Bool} (h : CMa Γ φ a b l m pat early) : φ.1 a 8 = nI (nFed l m) := h.2.2.2.2.2.2.2.2.2.2.2.2.2.2.2.1
theorem CMa.op {Γ : gm_T} {φ : ph_T} {a b : Nat} {l : List TK} {m : Nat} {pat : Nat → Nat} {early : Bool} (h : CMa Γ φ a b l m pat early) : φ.1 a 9 = nI (nOpn l m) := h.2.2.2.2.2.2.2.2.2.2.2.2.2.2.2.2
theorem CMa.sm {Γ : gm_T} {φ φ' : ph_T} {a b m : Nat} {l : List TK} {pat : Nat → Nat} {early : Bool} (h : CMa Γ φ a b l m pat early) (s : Sm a (a + 4) φ φ') : CMa Γ φ' a b l m pat early := by
  refine ⟨h.o, ?_, ?_, ?_, h.g0, h.g2, h.g3, ?_, ?_, ?_, ?_, ?_, ?_, ?_, ?_, ?_, ?_⟩
  · rw [s.r (by omega) (by omega)]; exact h.f0
  · rw [s.r (by omega) (by omega)]; exact h.f2
  · rw [s.r (by omega) (by omega)]; exact h.f3
  · rw [s.i (by omega) (by omega)]; exact h.pt
  · rw [s.i (by omega) (by omega)]; exact h.ea
  · rw [s.r (by omega) (by omega)]; exact h.wl
  · rw [s.r (by omega) (by omega)]; exact h.rl
  · rw [s.i (by omega) (by omega)]; exact h.cw
  · rw [s.i (by omega) (by omega)]; exact h.cr
  · rw [s.i (by omega) (by omega)]; exact h.sw
  · rw [s.i (by omega) (by omega)]; exact h.sr
  · rw [s.i (by omega) (by omega)]; exact h.fd
  · rw [s.i (by omega) (by omega)]; exact h.op
/-- the tickets that the master counts are the same -/
theorem CMa.cg {Γ : gm_T} {φ : ph_T} {a b m : Nat} {l l' : List TK} {pat : Nat → Nat} {early : Bool} (h : CMa Γ φ a b l m pat early) (e1 : ∀ wr, tix l' m wr = tix l m wr) (e2 : ∀ wr, nSent l' m wr = nSent l m wr) (e3 : nFed l' m = nFed l m) (e4 : nOpn l' m = nOpn l m) : CMa Γ φ a b l' m pat early :=
  ⟨h.o, h.f0, h.f2, h.f3, h.g0, h.g2, h.g3, h.pt, h.ea, by rw [e1]; exact h.wl, by rw [e1]; exact h.rl, by rw [e1]; exact h.cw, by rw [e1]; exact h.cr, by rw [e2]; exact h.sw, by rw [e2]; exact h.sr, by rw [e3]; exact h.fd, by rw [e4]; exact h.op⟩
/-- a place of a list of requests -/
theorem c_at {Γ : gm_T} {φ : ph_T} {a b : Nat} {L : List Nat} (g : gA Γ a 6 = some 64) (hl : ∀ (i t : Nat), L[i]? = some t → φ.2.2 a i = some (b + 4 * t)) (hle : L.length ≤ 64) (n : Nat) (hn : n ≤ 64) :
    f_Master_at Γ φ (some a) (nI n) (nI L.length) = some ((L[n]?).map (fun t => b + 4 * t), φ) := by
  unfold f_Master_at f_Master_at_L15 f_Master_at_L22
  rw [if_neg (zI_nneg (by omega))]
  simp (disch := first | assumption | omega) only [Option.bind_some, g, zI_le, zI_lt]
  by_cases h : n < L.length
  · obtain ⟨t, ht⟩ : ∃ t, L[n]? = some t := ⟨_, List.getElem?_eq_getElem h⟩
    rw [if_neg (by omega), if_pos (by omega), zix (by omega), Option.bind_some, hl n t ht, ht]
    rfl
  · rw [if_pos (by omega), List.getElem?_eq_none (by omega)]
    rfl
/-- the address wires -/
def adrH (o : Option TK) (on_ : Bool) (hd : Bool) (x : WI) (c : Nat) : WI := if hd = true then x else match o with
  | some t => if on_ = true then x.snd' c ⟨true, t.con, 0⟩ else x
  | none => x
theorem c_tellAdr {Γ : gm_T} {φ : ph_T} {a b ap m : Nat} {l : List TK} {pat : Nat → Nat} {early : Bool} {x : WI} {hd : Nat → Bool} {tr : Nat → Int32} (h : CMa Γ φ a b l m pat early) (ht : CTk Γ φ b l) (hp : CPt Γ φ ap x hd tr) {c time : Nat} (hc : c < 5) (hpt : pat c < 65536) (htm : time < 2 ^ 24) (o : Option Nat) (ho : ∀ t, o = some t → t < l.length) :
    ∃ φ', f_Master_tellAddress Γ φ a (some ap) (nI c) (o.map fun t => b + 4 * t) (nI time) = some ((), φ') ∧ CPt Γ φ' ap (adrH (o.bind fun t => l[t]?) (on (pat c) time) (hd c) x c) hd tr ∧ Fr ap (ap + 7) φ φ' := by
  have hh := hp.hd c hc
  have hpc := h.pt c hc
  unfold f_Master_tellAddress f_Master_tellAddress_L40 adrH
  simp (disch := first | assumption | omega) only [Option.bind_some, hp.o, if_true, hp.f2, hp.g2, zix, hh, bI_eqz, h.o, h.f0, h.g0, hpc, e_isOn]
  cases hdc : hd c with
  | true =>
    simp only [Bool.true_eq_false, if_false, if_true]
    exact ⟨φ, rfl, hp, Fr.refl _ _ _⟩
  | false =>
    simp only [if_true, Bool.false_eq_true, if_false]
    cases o with
    | none => exact ⟨φ, rfl, hp, Fr.refl _ _ _⟩
    | some t =>
      have hlt := ho t rfl
      obtain ⟨e, he⟩ : ∃ e, l[t]? = some e := ⟨_, List.getElem?_eq_getElem hlt⟩
      have hE := ht.e t e he
      have hle := ht.le
      obtain ⟨o1, o2, o3⟩ := ht.o t (by omega)
      simp only [Option.map_some, reduceCtorEq, if_false, Option.bind_some, he, o1, if_true, o2, o3.o]
      cases hon : on (pat c) time with
      | false => simp only [if_true, Bool.false_eq_true, if_false]; exact ⟨φ, rfl, hp, Fr.refl _ _ _⟩
      | true =>
        obtain ⟨φ2, s1, s2, s3⟩ := c_send hp hc e.con 0
        refine ⟨φ2, ?_, ?_, s3⟩
        · have e5 : φ.2.1 (b + 4 * t + 1) 0 = e.con := hE.2.2.2.2.2.1
          simp only [Bool.true_eq_false, if_false, e5, s1, Option.bind_some]
        · simp only [if_true]; exact s2
/-- the data wires -/
def datH (o : Option TK) (on_ early : Bool) (hd : Bool) (x : WI) : WI := if hd = true then x else match o with
  | some t => if on_ = true ∧ (early = true ∨ t.sent ≠ m1) then x.snd' 1 ⟨true, t.dat t.beats, t.rst t.beats⟩ else x
  | none => x
theorem c_tellDat {Γ : gm_T} {φ : ph_T} {a b ap m : Nat} {l : List TK} {pat : Nat → Nat} {early : Bool} {x : WI} {hd : Nat → Bool} {tr : Nat → Int32} (h : CMa Γ φ a b l m pat early) (ht : CTk Γ φ b l) (hp : CPt Γ φ ap x hd tr) {time : Nat} (hpt : pat 1 < 65536) (htm : time < 2 ^ 24) (o : Option Nat) (ho : ∀ t, o = some t → ∃ e, l[t]? = some e ∧ e.wr = true ∧ e.beats < leN e.con) :
    ∃ φ', f_Master_tellData Γ φ a (some ap) (o.map fun t => b + 4 * t) (nI time) = some ((), φ') ∧ CPt Γ φ' ap (datH (o.bind fun t => l[t]?) (on (pat 1) time) early (hd 1) x) hd tr ∧ Fr ap (ap + 7) φ φ' := by
  have hh := hp.hd 1 (by omega)
  have hpc := h.pt 1 (by omega)
  unfold f_Master_tellData f_Master_tellData_L26 f_Master_tellData_L85 datH
  simp (disch := first | assumption | omega) only [Option.bind_some, hp.o, if_true, hp.f2, hp.g2, zI_lit, zix, hh, bI_eq0, h.o, h.f0, h.g0, hpc, e_isOn, ↓zm1]
  cases hdc : hd 1 with
  | true =>
    simp only [Bool.true_eq_false, if_false, if_true]
    exact ⟨φ, rfl, hp, Fr.refl _ _ _⟩
  | false =>
    simp only [if_true, Bool.false_eq_true, if_false]
    cases o with
    | none => exact ⟨φ, rfl, hp, Fr.refl _ _ _⟩
    | some t =>
      obtain ⟨e, he, hwr, hbt⟩ := ho t rfl
      have hlt := (List.getElem?_eq_some_iff.mp he).1
      have hE := ht.e t e he
      have hle := ht.le
      have h16 := leN_le e.con
      obtain ⟨o1, o2, o3⟩ := ht.o t (by omega)
      obtain ⟨E1, E2, E3, E4, E5, E6, E7, E8, E9⟩ := hE
      obtain ⟨d1, d2⟩ := E8 hwr e.beats hbt
      simp only [Option.map_some, reduceCtorEq, if_false, Option.bind_some, he, o1, if_true]
      cases hon : on (pat 1) time with
      | false => simp only [if_true, Bool.false_eq_true, if_false, false_and]; exact ⟨φ, rfl, hp, Fr.refl _ _ _⟩
      | true =>
        simp only [Bool.true_eq_false, if_false, true_and, h.ea, bI_eq0, E3, o2]
        obtain ⟨φ2, s1, s2, s3⟩ := c_send hp (c := 1) (by omega) (e.dat e.beats) (e.rst e.beats)
        have hL48 : f_Master_tellData_L48 Γ φ (some ap) (some (b + 4 * t + 1)) = some ((), φ2) := by
          unfold f_Master_tellData_L48 f_Master_tellData_L85
          have d1' : φ.2.1 (b + 4 * t + 1 + 1) e.beats = e.dat e.beats := d1
          have d2' : φ.1 (b + 4 * t + 1 + 2) e.beats = e.rst e.beats := d2
          have s1' : f_Port_send Γ φ ap (nI 1) (e.dat e.beats) (e.rst e.beats) = some ((), φ2) := s1
          simp (disch := first | assumption | omega) only [Option.bind_some, o3.o, if_true, E7, o3.f6, o3.f7, o3.g6, o3.g7, zix, d1', d2', hp.o, ↓zm1, zI_ne_m, zI_m_ne, zI_lit, zI_le, zI_eq, zI_mul, zI_lt, zI_modn, zI_div, zI_sub, zI_add, zN_mod, s1']
          rw [if_neg (by omega)]
        cases early with
        | true => simp only [Bool.true_eq_false, if_false, true_or, if_true]; exact ⟨φ2, hL48, s2, s3⟩
        | false =>
          simp only [if_true, Bool.false_eq_true, false_or]
          by_cases hs : e.sent = m1
          · rw [if_pos hs, if_neg (fun hh => hh hs)]; exact ⟨φ, rfl, hp, Fr.refl _ _ _⟩
          · rw [if_neg hs, if_pos hs]; exact ⟨φ2, hL48, s2, s3⟩
def tlM (S : XS) (m : Nat) (hd : Nat → Bool) (x : WI) : WI :=
  ((adrH (S.tk.find? (isUns m false)) (on (S.mpat m 3) S.time) (hd 3) (datH (S.tk.find? (isUnf m)) (on (S.mpat m 1) S.time) (S.early m) (hd 1) (adrH (S.tk.find? (isUns m true)) (on (S.mpat m 0) S.time) (hd 0) x 0)) 3).rdy 2 (on (S.mpat m 2) S.time)).rdy 4 (on (S.mpat m 4) S.time)
theorem fi_bind {α : Type} {p : α → Bool} {l : List α} : ((l.findIdx? p).bind fun t => l[t]?) = l.find? p := by
  cases h : l.findIdx? p with
  | none => rw [fi_none h]; rfl
  | some t =>
    obtain ⟨e, he, hf, _⟩ := fi_some h
    rw [hf, Option.bind_some, he]
theorem c_mtell {Γ : gm_T} {φ : ph_T} {a b ap m : Nat} {S : XS} {x : WI} {hd : Nat → Bool} {tr : Nat → Int32} (hap : ap + 7 ≤ a ∨ a + 4 ≤ ap) (hbp : ap + 7 ≤ b ∨ b + 256 ≤ ap) (h : CMa Γ φ a b S.tk m (S.mpat m) (S.early m)) (ht : CTk Γ φ b S.tk) (hT : TkO S.tk) (hp : CPt Γ φ ap x hd tr) (hB : Bd S) :
    ∃ φ', f_Master_tell Γ φ a (some ap) (nI S.time) = some ((), φ') ∧ CPt Γ φ' ap (tlM S m hd x) hd tr ∧ Fr ap (ap + 7) φ φ' := by
  have htm := hB.time
  have hmp := hB.mpat m
  have hmp2 := hmp 2
  have hmp4 := hmp 4
  have hle := ht.le
  have lw := tix_len S.tk m true
  have lr := tix_len S.tk m false
  have sw := nSent_le S.tk m true
  have sr := nSent_le S.tk m false
  have hfd : nFed S.tk m ≤ S.tk.length := List.countP_le_length
  have a1 := c_at (φ := φ) (L := tix S.tk m true) h.g2 h.wl (by omega) (nSent S.tk m true) (by omega)
  rw [← uns_tix hT m true] at a1
  have hlt : ∀ {p : TK → Bool} {t : Nat}, S.tk.findIdx? p = some t → t < S.tk.length := fun hh => by
    obtain ⟨e, he, _, _⟩ := fi_some hh
    exact (List.getElem?_eq_some_iff.mp he).1
  obtain ⟨φ1, q1, q2, q3⟩ := c_tellAdr (c := 0) h ht hp (by omega) (hmp 0) htm (S.tk.findIdx? (isUns m true)) (fun t hh => hlt hh)
  rw [fi_bind] at q2
  have h1 : CMa Γ φ1 a b S.tk m (S.mpat m) (S.early m) := h.sm (q3.sm (by omega))
  have ht1 : CTk Γ φ1 b S.tk := ht.sm (q3.sm (by omega))
  have a2 := c_at (φ := φ1) (L := tix S.tk m true) h1.g2 h1.wl (by omega) (nFed S.tk m) (by omega)
  rw [← unf_tix hT m] at a2
  obtain ⟨φ2, r1, r2, r3⟩ := c_tellDat h1 ht1 q2 (hmp 1) htm (S.tk.findIdx? (isUnf m)) (fun t hh => by
    obtain ⟨e, he, _, hu⟩ := fi_some hh
    unfold isUnf at hu
    simp only [Bool.and_eq_true, decide_eq_true_eq] at hu
    exact ⟨e, he, hu.1.2, hu.2⟩)
  rw [fi_bind] at r2
  have h2 : CMa Γ φ2 a b S.tk m (S.mpat m) (S.early m) := h1.sm (r3.sm (by omega))
  have ht2 : CTk Γ φ2 b S.tk := ht1.sm (r3.sm (by omega))
  have a3 := c_at (φ := φ2) (L := tix S.tk m false) h2.g3 h2.rl (by omega) (nSent S.tk m false) (by omega)
  rw [← uns_tix hT m false] at a3
  obtain ⟨φ3, s1, s2, s3⟩ := c_tellAdr (c := 3) h2 ht2 r2 (by omega) (hmp 3) htm (S.tk.findIdx? (isUns m false)) (fun t hh => hlt hh)
  rw [fi_bind] at s2
  have h3 : CMa Γ φ3 a b S.tk m (S.mpat m) (S.early m) := h2.sm (s3.sm (by omega))
  obtain ⟨u1, u2⟩ := c_rdy s2 (c := 2) (by omega) (on (S.mpat m 2) S.time)
  have h4 : CMa Γ (uI φ3 (ap + 2) 2 (bI (on (S.mpat m 2) S.time))) a b S.tk m (S.mpat m) (S.early m) := h3.sm (u2.sm (by omega))
  obtain ⟨v1, v2⟩ := c_rdy u1 (c := 4) (by omega) (on (S.mpat m 4) S.time)
  refine ⟨_, ?_, v1, q3.trans (r3.trans (s3.trans (u2.trans v2)))⟩
  unfold f_Master_tell
  have p2 := h3.pt 2 (by omega)
  have p4 := h4.pt 4 (by omega)
  have q1' : f_Master_tellAddress Γ φ a (some ap) (0 : Int32) ((S.tk.findIdx? (isUns m true)).map fun t => b + 4 * t) (nI S.time) = some ((), φ1) := q1
  have s1' : f_Master_tellAddress Γ φ2 a (some ap) (3 : Int32) ((S.tk.findIdx? (isUns m false)).map fun t => b + 4 * t) (nI S.time) = some ((), φ3) := s1
  rw [if_pos h.o, h.f2, h.sw, h.cw, a1, Option.bind_some]
  simp only [q1', Option.bind_some, h1.f2, h1.fd, h1.cw, a2, r1, h2.f3, h2.sr, h2.cr, a3, s1', hp.o, if_true, h3.f0]
  simp (disch := first | assumption | omega) only [h.g0, Option.bind_some, zI_lit, zix, p2, e_isOn, s2.f1, hp.g1, bI_ok, if_true, h3.f0, p4, bI_ok2]
