/-! THE CLASS: ports -/
def CPt (Γ : gm_T) (φ : ph_T) (a : Nat) (x : WI) (hd : Nat → Bool) (tr : Nat → Int32) : Prop := (Γ a = .inr 5) ∧ (φ.2.2 a 0 = some (a + 1)) ∧ (φ.2.2 a 1 = some (a + 2)) ∧ (φ.2.2 a 2 = some (a + 3)) ∧ (φ.2.2 a 3 = some (a + 4)) ∧ (φ.2.2 a 4 = some (a + 5)) ∧ (φ.2.2 a 5 = some (a + 6)) ∧ (φ.2.2 a 6 = some (a + 7)) ∧ (gA Γ (a + 1) 2 = some 5) ∧ (gA Γ (a + 2) 2 = some 5) ∧ (gA Γ (a + 3) 2 = some 5) ∧ (gA Γ (a + 4) 1 = some 5) ∧ (gA Γ (a + 5) 0 = some 5) ∧ (gA Γ (a + 6) 0 = some 5) ∧ (∀ c, c < 5 → φ.1 (a + 1) c = bI (x.w c).v ∧ φ.1 (a + 2) c = bI (x.rd c) ∧ φ.2.1 (a + 4) c = (x.w c).c ∧ φ.1 (a + 5) c = (x.w c).r) ∧ (∀ c, c < 5 → φ.1 (a + 3) c = bI (hd c)) ∧ (∀ c, c < 5 → φ.1 (a + 6) c = tr c)
theorem CPt.o {Γ : gm_T} {φ : ph_T} {a : Nat} {x : WI} {hd : Nat → Bool} {tr : Nat → Int32} (h : CPt Γ φ a x hd tr) : Γ a = .inr 5 := h.1
theorem CPt.f0 {Γ : gm_T} {φ : ph_T} {a : Nat} {x : WI} {hd : Nat → Bool} {tr : Nat → Int32} (h : CPt Γ φ a x hd tr) : φ.2.2 a 0 = some (a + 1) := h.2.1
theorem CPt.f1 {Γ : gm_T} {φ : ph_T} {a : Nat} {x : WI} {hd : Nat → Bool} {tr : Nat → Int32} (h : CPt Γ φ a x hd tr) : φ.2.2 a 1 = some (a + 2) := h.2.2.1
theorem CPt.f2 {Γ : gm_T} {φ : ph_T} {a : Nat} {x : WI} {hd : Nat → Bool} {tr : Nat → Int32} (h : CPt Γ φ a x hd tr) : φ.2.2 a 2 = some (a + 3) := h.2.2.2.1
theorem CPt.f3 {Γ : gm_T} {φ : ph_T} {a : Nat} {x : WI} {hd : Nat → Bool} {tr : Nat → Int32} (h : CPt Γ φ a x hd tr) : φ.2.2 a 3 = some (a + 4) := h.2.2.2.2.1
theorem CPt.f4 {Γ : gm_T} {φ : ph_T} {a : Nat} {x : WI} {hd : Nat → Bool} {tr : Nat → Int32} (h : CPt Γ φ a x hd tr) : φ.2.2 a 4 = some (a + 5) := h.2.2.2.2.2.1
theorem CPt.f5 {Γ : gm_T} {φ : ph_T} {a : Nat} {x : WI} {hd : Nat → Bool} {tr : Nat → Int32} (h : CPt Γ φ a x hd tr) : φ.2.2 a 5 = some (a + 6) := h.2.2.2.2.2.2.1
theorem CPt.f6 {Γ : gm_T} {φ : ph_T} {a : Nat} {x : WI} {hd : Nat → Bool} {tr : Nat → Int32} (h : CPt Γ φ a x hd tr) : φ.2.2 a 6 = some (a + 7) := h.2.2.2.2.2.2.2.1
theorem CPt.g0 {Γ : gm_T} {φ : ph_T} {a : Nat} {x : WI} {hd : Nat → Bool} {tr : Nat → Int32} (h : CPt Γ φ a x hd tr) : gA Γ (a + 1) 2 = some 5 := h.2.2.2.2.2.2.2.2.1
theorem CPt.g1 {Γ : gm_T} {φ : ph_T} {a : Nat} {x : WI} {hd : Nat → Bool} {tr : Nat → Int32} (h : CPt Γ φ a x hd tr) : gA Γ (a + 2) 2 = some 5 := h.2.2.2.2.2.2.2.2.2.1
theorem CPt.g2 {Γ : gm_T} {φ : ph_T} {a : Nat} {x : WI} {hd : Nat → Bool} {tr : Nat → Int32} (h : CPt Γ φ a x hd tr) : gA Γ (a + 3) 2 = some 5 := h.2.2.2.2.2.2.2.2.2.2.1
theorem CPt.g3 {Γ : gm_T} {φ : ph_T} {a : Nat} {x : WI} {hd : Nat → Bool} {tr : Nat → Int32} (h : CPt Γ φ a x hd tr) : gA Γ (a + 4) 1 = some 5 := h.2.2.2.2.2.2.2.2.2.2.2.1
theorem CPt.g4 {Γ : gm_T} {φ : ph_T} {a : Nat} {x : WI} {hd : Nat → Bool} {tr : Nat → Int32} (h : CPt Γ φ a x hd tr) : gA Γ (a + 5) 0 = some 5 := h.2.2.2.2.2.2.2.2.2.2.2.2.1
theorem CPt.g5 {Γ : gm_T} {φ : ph_T} {a : Nat} {x : WI} {hd : Nat → Bool} {tr : Nat → Int32} (h : CPt Γ φ a x hd tr) : gA Γ (a + 6) 0 = some 5 := h.2.2.2.2.2.2.2.2.2.2.2.2.2.1
theorem CPt.w {Γ : gm_T} {φ : ph_T} {a : Nat} {x : WI} {hd : Nat → Bool} {tr : Nat → Int32} (h : CPt Γ φ a x hd tr) : ∀ c, c < 5 → φ.1 (a + 1) c = bI (x.w c).v ∧ φ.1 (a + 2) c = bI (x.rd c) ∧ φ.2.1 (a + 4) c = (x.w c).c ∧ φ.1 (a + 5) c = (x.w c).r := h.2.2.2.2.2.2.2.2.2.2.2.2.2.2.1
theorem CPt.hd {Γ : gm_T} {φ : ph_T} {a : Nat} {x : WI} {hd : Nat → Bool} {tr : Nat → Int32} (h : CPt Γ φ a x hd tr) : ∀ c, c < 5 → φ.1 (a + 3) c = bI (hd c) := h.2.2.2.2.2.2.2.2.2.2.2.2.2.2.2.1
theorem CPt.tr {Γ : gm_T} {φ : ph_T} {a : Nat} {x : WI} {hd : Nat → Bool} {tr : Nat → Int32} (h : CPt Γ φ a x hd tr) : ∀ c, c < 5 → φ.1 (a + 6) c = tr c := h.2.2.2.2.2.2.2.2.2.2.2.2.2.2.2.2
theorem CPt.sm {Γ : gm_T} {φ φ' : ph_T} {a : Nat} {x : WI} {hd : Nat → Bool} {tr : Nat → Int32} (h : CPt Γ φ a x hd tr) (s : Sm a (a + 7) φ φ') : CPt Γ φ' a x hd tr := by
  refine ⟨h.o, ?_, ?_, ?_, ?_, ?_, ?_, ?_, h.g0, h.g1, h.g2, h.g3, h.g4, h.g5, ?_, ?_, ?_⟩
  · rw [s.r (by omega) (by omega)]; exact h.f0
  · rw [s.r (by omega) (by omega)]; exact h.f1
  · rw [s.r (by omega) (by omega)]; exact h.f2
  · rw [s.r (by omega) (by omega)]; exact h.f3
  · rw [s.r (by omega) (by omega)]; exact h.f4
  · rw [s.r (by omega) (by omega)]; exact h.f5
  · rw [s.r (by omega) (by omega)]; exact h.f6
  · rw [s.i (by omega) (by omega), s.i (by omega) (by omega), s.l (by omega) (by omega), s.i (by omega) (by omega)]; exact h.w
  · rw [s.i (by omega) (by omega)]; exact h.hd
  · rw [s.i (by omega) (by omega)]; exact h.tr
/-- the fields' references are kept -/
theorem CPt.mk' {Γ : gm_T} {φ φ' : ph_T} {a : Nat} {x x' : WI} {hd hd' : Nat → Bool} {tr tr' : Nat → Int32} (h : CPt Γ φ a x hd tr) (e : φ'.2.2 = φ.2.2)
    (w : ∀ c, c < 5 → φ'.1 (a + 1) c = bI (x'.w c).v ∧ φ'.1 (a + 2) c = bI (x'.rd c) ∧ φ'.2.1 (a + 4) c = (x'.w c).c ∧ φ'.1 (a + 5) c = (x'.w c).r) (h1 : ∀ c, c < 5 → φ'.1 (a + 3) c = bI (hd' c)) (h2 : ∀ c, c < 5 → φ'.1 (a + 6) c = tr' c) : CPt Γ φ' a x' hd' tr' :=
  ⟨h.o, by rw [e]; exact h.f0, by rw [e]; exact h.f1, by rw [e]; exact h.f2, by rw [e]; exact h.f3, by rw [e]; exact h.f4, by rw [e]; exact h.f5, by rw [e]; exact h.f6, h.g0, h.g1, h.g2, h.g3, h.g4, h.g5, w, h1, h2⟩
theorem CPt.congr {Γ : gm_T} {φ : ph_T} {a : Nat} {x x' : WI} {hd hd' : Nat → Bool} {tr : Nat → Int32} (h : CPt Γ φ a x hd tr) (e : ∀ c, c < 5 → x'.w c = x.w c ∧ x'.rd c = x.rd c ∧ hd' c = hd c) : CPt Γ φ a x' hd' tr :=
  h.mk' rfl (fun c hc => by obtain ⟨e1, e2, e3⟩ := e c hc; rw [e1, e2]; exact h.w c hc) (fun c hc => by rw [(e c hc).2.2]; exact h.hd c hc) h.tr
def WI.sil (x : WI) (c : Nat) : WI := ⟨va_up x.w c WV0, va_up x.rd c false⟩
def WI.snd' (x : WI) (c : Nat) (v : WV) : WI := ⟨va_up x.w c v, x.rd⟩
def WI.rdy (x : WI) (c : Nat) (b : Bool) : WI := ⟨x.w, va_up x.rd c b⟩
theorem c_silence {Γ : gm_T} {φ : ph_T} {a : Nat} {x : WI} {hd : Nat → Bool} {tr : Nat → Int32} (h : CPt Γ φ a x hd tr) {c : Nat} (hc : c < 5) :
    ∃ φ', f_Port_silence Γ φ a (nI c) = some ((), φ') ∧ CPt Γ φ' a (x.sil c) hd tr ∧ Fr a (a + 7) φ φ' := by
  unfold f_Port_silence
  simp (disch := first | assumption | omega) only [h.o, h.f0, h.f1, h.f3, h.f4, h.g0, h.g1, h.g3, h.g4, Option.bind_some, if_true, zix]
  rw [if_pos (by decide), if_pos (by decide)]
  refine ⟨_, rfl, ?_, ?_⟩
  · refine h.mk' rfl (fun k hk => ?_) (fun k hk => ?_) (fun k hk => ?_)
    · simp (disch := first | assumption | omega) only [uI_1, uI_2, uI_3, uL_1, uL_2, uL_3, vz_at, Nat.add_left_cancel_iff, Nat.reduceEqDiff, if_false, zr1, zr2, if_true, WI.sil, WI.w_mk, WI.rd_mk, WI.w_w_w, WI.w_w_rd, WI.rd_w_w, WI.rd_w_rd, WV.v_mk, WV.c_mk, WV.r_mk, WV.v_w_v, WV.v_w_c, WV.v_w_r, WV.c_w_v, WV.c_w_c, WV.c_w_r, WV.r_w_v, WV.r_w_c, WV.r_w_r]
      by_cases e : k = c
      · simp only [if_pos e]; exact ⟨rfl, rfl, rfl, rfl⟩
      · simp only [if_neg e]; exact h.w k hk
    · simp (disch := first | assumption | omega) only [uI_1, uI_2, uI_3, uL_1, uL_2, uL_3, vz_at, Nat.add_left_cancel_iff, Nat.reduceEqDiff, if_false, zr1, zr2]; exact h.hd k hk
    · simp (disch := first | assumption | omega) only [uI_1, uI_2, uI_3, uL_1, uL_2, uL_3, vz_at, Nat.add_left_cancel_iff, Nat.reduceEqDiff, if_false, zr1, zr2]; exact h.tr k hk
  · repeat (first | exact Fr.refl _ _ _ | refine fr_uI ?_ (by omega) _ _ | refine fr_uL ?_ (by omega) _ _)
theorem c_send {Γ : gm_T} {φ : ph_T} {a : Nat} {x : WI} {hd : Nat → Bool} {tr : Nat → Int32} (h : CPt Γ φ a x hd tr) {c : Nat} (hc : c < 5) (v : Int64) (r : Int32) :
    ∃ φ', f_Port_send Γ φ a (nI c) v r = some ((), φ') ∧ CPt Γ φ' a (x.snd' c ⟨true, v, r⟩) hd tr ∧ Fr a (a + 7) φ φ' := by
  unfold f_Port_send
  simp (disch := first | assumption | omega) only [h.o, h.f0, h.f3, h.f4, h.g0, h.g3, h.g4, Option.bind_some, if_true, zix]
  rw [if_pos (by decide)]
  refine ⟨_, rfl, ?_, ?_⟩
  · refine h.mk' rfl (fun k hk => ?_) (fun k hk => ?_) (fun k hk => ?_)
    · simp (disch := first | assumption | omega) only [uI_1, uI_2, uI_3, uL_1, uL_2, uL_3, vz_at, Nat.add_left_cancel_iff, Nat.reduceEqDiff, if_false, zr1, zr2, if_true, WI.snd', WI.w_mk, WI.rd_mk, WI.w_w_w, WI.w_w_rd, WI.rd_w_w, WI.rd_w_rd, WV.v_mk, WV.c_mk, WV.r_mk, WV.v_w_v, WV.v_w_c, WV.v_w_r, WV.c_w_v, WV.c_w_c, WV.c_w_r, WV.r_w_v, WV.r_w_c, WV.r_w_r]
      by_cases e : k = c
      · simp only [if_pos e, WI.w_mk, WI.rd_mk, WI.w_w_w, WI.w_w_rd, WI.rd_w_w, WI.rd_w_rd, WV.v_mk, WV.c_mk, WV.r_mk, WV.v_w_v, WV.v_w_c, WV.v_w_r, WV.c_w_v, WV.c_w_c, WV.c_w_r, WV.r_w_v, WV.r_w_c, WV.r_w_r]; exact ⟨rfl, (h.w k hk).2.1, trivial, trivial⟩
      · simp only [if_neg e]; exact h.w k hk
    · simp (disch := first | assumption | omega) only [uI_1, uI_2, uI_3, uL_1, uL_2, uL_3, vz_at, Nat.add_left_cancel_iff, Nat.reduceEqDiff, if_false, zr1, zr2]; exact h.hd k hk
    · simp (disch := first | assumption | omega) only [uI_1, uI_2, uI_3, uL_1, uL_2, uL_3, vz_at, Nat.add_left_cancel_iff, Nat.reduceEqDiff, if_false, zr1, zr2]; exact h.tr k hk
  · repeat (first | exact Fr.refl _ _ _ | refine fr_uI ?_ (by omega) _ _ | refine fr_uL ?_ (by omega) _ _)
/-- ready is told -/
theorem c_rdy {Γ : gm_T} {φ : ph_T} {a : Nat} {x : WI} {hd : Nat → Bool} {tr : Nat → Int32} (h : CPt Γ φ a x hd tr) {c : Nat} (hc : c < 5) (b : Bool) :
    CPt Γ (uI φ (a + 2) c (bI b)) a (x.rdy c b) hd tr ∧ Fr a (a + 7) φ (uI φ (a + 2) c (bI b)) := by
  refine ⟨?_, fr_uI (Fr.refl _ _ _) (by omega) _ _⟩
  refine h.mk' rfl (fun k hk => ?_) (fun k hk => ?_) (fun k hk => ?_)
  · simp (disch := first | assumption | omega) only [uI_1, uI_2, uI_3, uL_1, uL_2, uL_3, vz_at, Nat.add_left_cancel_iff, Nat.reduceEqDiff, if_false, zr1, zr2, if_true, WI.rdy, WI.w_mk, WI.rd_mk, WI.w_w_w, WI.w_w_rd, WI.rd_w_w, WI.rd_w_rd, WV.v_mk, WV.c_mk, WV.r_mk, WV.v_w_v, WV.v_w_c, WV.v_w_r, WV.c_w_v, WV.c_w_c, WV.c_w_r, WV.r_w_v, WV.r_w_c, WV.r_w_r]
    by_cases e : k = c
    · simp only [if_pos e, WI.w_mk, WI.rd_mk, WI.w_w_w, WI.w_w_rd, WI.rd_w_w, WI.rd_w_rd, WV.v_mk, WV.c_mk, WV.r_mk, WV.v_w_v, WV.v_w_c, WV.v_w_r, WV.c_w_v, WV.c_w_c, WV.c_w_r, WV.r_w_v, WV.r_w_c, WV.r_w_r]; obtain ⟨h1, h2, h3, h4⟩ := h.w k hk; exact ⟨h1, trivial, h3, h4⟩
    · simp only [if_neg e]; exact h.w k hk
  · simp (disch := first | assumption | omega) only [uI_1, uI_2, uI_3, uL_1, uL_2, uL_3, vz_at, Nat.add_left_cancel_iff, Nat.reduceEqDiff, if_false, zr1, zr2]; exact h.hd k hk
  · simp (disch := first | assumption | omega) only [uI_1, uI_2, uI_3, uL_1, uL_2, uL_3, vz_at, Nat.add_left_cancel_iff, Nat.reduceEqDiff, if_false, zr1, zr2]; exact h.tr k hk
theorem c_moves {Γ : gm_T} {φ : ph_T} {a : Nat} {x : WI} {hd : Nat → Bool} {tr : Nat → Int32} (h : CPt Γ φ a x hd tr) {c : Nat} (hc : c < 5) : f_Port_moves Γ φ a (nI c) = some (bI (mvW x c), φ) := by
  obtain ⟨h1, h2, h3, h4⟩ := h.w c hc
  unfold f_Port_moves f_Port_moves_L22 f_Port_moves_L23
  simp (disch := first | assumption | omega) only [h.o, h.f0, h.f1, h.g0, h.g1, Option.bind_some, if_true, zix, h1, h2, zI_0, bI_eq0]
  unfold mvW
  cases (x.w c).v
  · simp [bI_f]
  · cases x.rd c
    · simp [bI_f]
    · simp [bI_t]; rfl
theorem c_count {Γ : gm_T} {φ : ph_T} {a : Nat} {x : WI} {hd : Nat → Bool} {tr : Nat → Int32} (h : CPt Γ φ a x hd tr) {c : Nat} (hc : c < 5) :
    ∃ φ', f_Port_count Γ φ a (nI c) = some (nI 1, φ') ∧ CPt Γ φ' a x hd (va_up tr c (tr c + 1)) ∧ Fr a (a + 7) φ φ' := by
  unfold f_Port_count
  simp (disch := first | assumption | omega) only [h.o, h.f5, h.g5, Option.bind_some, if_true, zix, h.tr c hc]
  refine ⟨_, rfl, ?_, ?_⟩
  · refine h.mk' rfl (fun k hk => ?_) (fun k hk => ?_) (fun k hk => ?_)
    · simp (disch := first | assumption | omega) only [uI_1, uI_2, uI_3, uL_1, uL_2, uL_3, vz_at, Nat.add_left_cancel_iff, Nat.reduceEqDiff, if_false, zr1, zr2]; exact h.w k hk
    · simp (disch := first | assumption | omega) only [uI_1, uI_2, uI_3, uL_1, uL_2, uL_3, vz_at, Nat.add_left_cancel_iff, Nat.reduceEqDiff, if_false, zr1, zr2]; exact h.hd k hk
    · simp (disch := first | assumption | omega) only [uI_1, uI_2, uI_3, uL_1, uL_2, uL_3, vz_at, Nat.add_left_cancel_iff, Nat.reduceEqDiff, if_false, zr1, zr2, if_true]
      by_cases e : k = c
      · simp only [if_pos e]
      · simp only [if_neg e]; exact h.tr k hk
  · repeat (first | exact Fr.refl _ _ _ | refine fr_uI ?_ (by omega) _ _ | refine fr_uL ?_ (by omega) _ _)
theorem c_silAll_L {Γ : gm_T} {a : Nat} {hd : Nat → Bool} {tr : Nat → Int32} : ∀ (d i fu : Nat) (φ : ph_T) (x : WI), i + d = 5 → d < fu → CPt Γ φ a x hd tr →
    ∃ φ', f_Port_silenceAll_L2 Γ fu φ a (nI i) = some ((), φ') ∧ CPt Γ φ' a ⟨fun c => if i ≤ c then WV0 else x.w c, fun c => if i ≤ c then false else x.rd c⟩ hd tr ∧ Fr a (a + 7) φ φ' := by
  intro d
  induction d with
  | zero =>
    intro i fu φ x hi hfu h
    match fu, hfu with
    | fu + 1, _ =>
      unfold f_Port_silenceAll_L2
      simp (disch := first | assumption | omega) only [↓zm1, zI_ne_m, zI_m_ne, zI_lit, zI_le, zI_eq, zI_mul, zI_lt, zI_modn, zI_div, zI_sub, zI_add, zN_mod]
      rw [if_pos (by omega)]
      refine ⟨φ, rfl, h.congr (fun c hc => ?_), Fr.refl _ _ _⟩
      simp only [WI.w_mk, WI.rd_mk, WI.w_w_w, WI.w_w_rd, WI.rd_w_w, WI.rd_w_rd]
      refine ⟨?_, ?_, ?_⟩
      · repeat' split
        all_goals first | rfl | (exfalso; omega) | simp_all
      · repeat' split
        all_goals first | rfl | (exfalso; omega) | simp_all
      · repeat' split
        all_goals first | rfl | trivial | (exfalso; omega) | simp_all
  | succ d ih =>
    intro i fu φ x hi hfu h
    match fu, hfu with
    | fu + 1, hfu =>
      obtain ⟨φ1, a1, a2, a3⟩ := c_silence h (c := i) (by omega)
      obtain ⟨φ2, b1, b2, b3⟩ := ih (i + 1) fu φ1 _ (by omega) (by omega) a2
      refine ⟨φ2, ?_, b2.congr (fun c hc => ?_), a3.trans b3⟩
      · unfold f_Port_silenceAll_L2
        simp (disch := first | assumption | omega) only [h.o, if_true, a1, Option.bind_some, ↓zm1, zI_ne_m, zI_m_ne, zI_lit, zI_le, zI_eq, zI_mul, zI_lt, zI_modn, zI_div, zI_sub, zI_add, zN_mod]
        rw [if_neg (by omega)]
        exact b1
      · simp only [WI.w_mk, WI.rd_mk, WI.w_w_w, WI.w_w_rd, WI.rd_w_w, WI.rd_w_rd, WI.sil, vz_at]
        refine ⟨?_, ?_, ?_⟩
        · repeat' split
          all_goals first | rfl | (exfalso; omega) | simp_all
        · repeat' split
          all_goals first | rfl | (exfalso; omega) | simp_all
        · repeat' split
          all_goals first | rfl | trivial | (exfalso; omega) | simp_all
theorem c_silAll {Γ : gm_T} {φ : ph_T} {a : Nat} {x : WI} {hd : Nat → Bool} {tr : Nat → Int32} (h : CPt Γ φ a x hd tr) :
    ∃ φ', f_Port_silenceAll Γ φ a = some ((), φ') ∧ CPt Γ φ' a WI0 hd tr ∧ Fr a (a + 7) φ φ' := by
  obtain ⟨φ', a1, a2, a3⟩ := c_silAll_L 5 0 jF φ x (by omega) (by unfold jF; omega) h
  refine ⟨φ', a1, a2.congr (fun c hc => ?_), a3⟩
  simp only [WI.w_mk, WI.rd_mk, WI.w_w_w, WI.w_w_rd, WI.rd_w_w, WI.rd_w_rd]
  refine ⟨?_, ?_, ?_⟩
  · repeat' split
    all_goals first | rfl | (exfalso; omega) | simp_all
  · repeat' split
    all_goals first | rfl | (exfalso; omega) | simp_all
  · repeat' split
    all_goals first | rfl | trivial | (exfalso; omega) | simp_all
/-- what is held stays -/
def WI.beg (x : WI) : WI := ⟨fun c => if hdW x c = true then x.w c else WV0, fun c => if hdW x c = true then x.rd c else false⟩
def WI.begF (x : WI) (i : Nat) : WI := ⟨fun c => if i ≤ c then x.beg.w c else x.w c, fun c => if i ≤ c then x.beg.rd c else x.rd c⟩
theorem c_begin_L {Γ : gm_T} {a : Nat} {tr : Nat → Int32} : ∀ (d i fu : Nat) (φ : ph_T) (x : WI) (hd : Nat → Bool), i + d = 5 → d < fu → CPt Γ φ a x hd tr →
    ∃ φ', f_Port_begin_L2 Γ fu φ a (nI i) = some ((), φ') ∧ CPt Γ φ' a (x.begF i) (fun c => if i ≤ c then hdW x c else hd c) tr ∧ Fr a (a + 7) φ φ' := by
  intro d
  induction d with
  | zero =>
    intro i fu φ x hd hi hfu h
    match fu, hfu with
    | fu + 1, _ =>
      unfold f_Port_begin_L2
      simp (disch := first | assumption | omega) only [↓zm1, zI_ne_m, zI_m_ne, zI_lit, zI_le, zI_eq, zI_mul, zI_lt, zI_modn, zI_div, zI_sub, zI_add, zN_mod]
      rw [if_pos (by omega)]
      refine ⟨φ, rfl, h.congr (fun c hc => ?_), Fr.refl _ _ _⟩
      simp only [WI.w_mk, WI.rd_mk, WI.w_w_w, WI.w_w_rd, WI.rd_w_w, WI.rd_w_rd, WI.begF]
      refine ⟨?_, ?_, ?_⟩
      · repeat' split
        all_goals first | rfl | (exfalso; omega) | simp_all
      · repeat' split
        all_goals first | rfl | (exfalso; omega) | simp_all
      · repeat' split
        all_goals first | rfl | trivial | (exfalso; omega) | simp_all
  | succ d ih =>
    intro i fu φ x hd hi hfu h
    match fu, hfu with
    | fu + 1, hfu =>
      obtain ⟨h1, h2, h3, h4⟩ := h.w i (by omega)
      -- held is noted
      have k1 : CPt Γ (uI φ (a + 3) i (bI (hdW x i))) a x (va_up hd i (hdW x i)) tr := by
        refine h.mk' rfl (fun k hk => ?_) (fun k hk => ?_) (fun k hk => ?_)
        · simp (disch := first | assumption | omega) only [uI_1, uI_2, uI_3, uL_1, uL_2, uL_3, vz_at, Nat.add_left_cancel_iff, Nat.reduceEqDiff, if_false, zr1, zr2]; exact h.w k hk
        · simp (disch := first | assumption | omega) only [uI_1, uI_2, uI_3, uL_1, uL_2, uL_3, vz_at, Nat.add_left_cancel_iff, Nat.reduceEqDiff, if_false, zr1, zr2, if_true]
          by_cases e : k = i
          · simp only [if_pos e]
          · simp only [if_neg e]; exact h.hd k hk
        · simp (disch := first | assumption | omega) only [uI_1, uI_2, uI_3, uL_1, uL_2, uL_3, vz_at, Nat.add_left_cancel_iff, Nat.reduceEqDiff, if_false, zr1, zr2]; exact h.tr k hk
      have k2 : Fr a (a + 7) φ (uI φ (a + 3) i (bI (hdW x i))) := fr_uI (Fr.refl _ _ _) (by omega) _ _
      have hk3 : (uI φ (a + 3) i (bI (hdW x i))).1 (a + 3) i = bI (hdW x i) := by rw [uI_s, vz_same]
      by_cases hh : hdW x i = true
      · obtain ⟨φ2, b1, b2, b3⟩ := ih (i + 1) fu _ _ _ (by omega) (by omega) k1
        refine ⟨φ2, ?_, b2.congr (fun c hc => ?_), k2.trans b3⟩
        · have hv : (x.w i).v = true ∧ x.rd i = false := by
            unfold hdW at hh
            simpa using hh
          rw [hh] at b1 hk3
          unfold f_Port_begin_L2 f_Port_begin_L34 f_Port_begin_L35 f_Port_begin_L50
          simp (disch := first | assumption | omega) only [h.o, h.f0, h.f1, h.f2, h.g0, h.g1, h.g2, if_true, h1, h2, hv.1, hv.2, bI_t, bI_f, Option.bind_some, zix, ↓zm1, zI_ne_m, zI_m_ne, zI_lit, zI_le, zI_eq, zI_mul, zI_lt, zI_modn, zI_div, zI_sub, zI_add, zN_mod]
          rw [if_neg (by omega), if_neg (by decide), if_pos (by decide)]
          have hk4 : (uI φ (a + 3) i (nI 1)).1 (a + 3) i = nI 1 := hk3
          rw [hk4, if_neg (by decide)]
          exact b1
        · simp only [WI.w_mk, WI.rd_mk, WI.w_w_w, WI.w_w_rd, WI.rd_w_w, WI.rd_w_rd, WI.begF, WI.beg, vz_at]
          by_cases e1 : c = i
          · subst e1
            simp only [hh, if_true]
            refine ⟨?_, ?_, ?_⟩
            · repeat' split
              all_goals first | rfl | (exfalso; omega) | simp_all
            · repeat' split
              all_goals first | rfl | (exfalso; omega) | simp_all
            · repeat' split
              all_goals first | rfl | trivial | (exfalso; omega) | simp_all
          · simp only [if_neg e1]
            refine ⟨?_, ?_, ?_⟩
            · repeat' split
              all_goals first | rfl | (exfalso; omega) | simp_all
            · repeat' split
              all_goals first | rfl | (exfalso; omega) | simp_all
            · repeat' split
              all_goals first | rfl | trivial | (exfalso; omega) | simp_all
      · have hf : hdW x i = false := by simpa using hh
        rw [hf] at k1 k2 hk3
        obtain ⟨φ1, s1, s2, s3⟩ := c_silence k1 (c := i) (by omega)
        obtain ⟨φ2, b1, b2, b3⟩ := ih (i + 1) fu _ _ _ (by omega) (by omega) s2
        refine ⟨φ2, ?_, b2.congr (fun c hc => ?_), k2.trans (s3.trans b3)⟩
        · unfold f_Port_begin_L2 f_Port_begin_L34 f_Port_begin_L35 f_Port_begin_L50
          have hk4 : (uI φ (a + 3) i (nI 0)).1 (a + 3) i = nI 0 := hk3
          have s1' : f_Port_silence Γ (uI φ (a + 3) i (nI 0)) a (nI i) = some ((), φ1) := s1
          cases hv : (x.w i).v with
          | false =>
            simp (disch := first | assumption | omega) only [h.o, h.f0, h.f2, h.g0, h.g2, if_true, h1, hv, bI_f, Option.bind_some, zix, ↓zm1, zI_ne_m, zI_m_ne, zI_lit, zI_le, zI_eq, zI_mul, zI_lt, zI_modn, zI_div, zI_sub, zI_add, zN_mod, hk4, s1']
            rw [if_neg (by omega), if_pos (by decide)]
            exact b1
          | true =>
            have hr : x.rd i = true := by
              unfold hdW at hf
              rw [hv] at hf
              simpa using hf
            simp (disch := first | assumption | omega) only [h.o, h.f0, h.f1, h.f2, h.g0, h.g1, h.g2, if_true, h1, h2, hv, hr, bI_t, Option.bind_some, zix, ↓zm1, zI_ne_m, zI_m_ne, zI_lit, zI_le, zI_eq, zI_mul, zI_lt, zI_modn, zI_div, zI_sub, zI_add, zN_mod, hk4, s1']
            rw [if_neg (by omega), if_neg (by decide), if_neg (by decide), if_pos (by decide)]
            exact b1
        · simp only [WI.w_mk, WI.rd_mk, WI.w_w_w, WI.w_w_rd, WI.rd_w_w, WI.rd_w_rd, WI.begF, WI.beg, WI.sil]
          by_cases e1 : c = i
          · subst e1
            simp only [hh, vz_same]
            refine ⟨?_, ?_, ?_⟩
            · repeat' split
              all_goals first | rfl | (exfalso; omega) | simp_all
            · repeat' split
              all_goals first | rfl | (exfalso; omega) | simp_all
            · repeat' split
              all_goals first | rfl | trivial | (exfalso; omega) | simp_all
          · have hw : hdW (⟨va_up x.w i WV0, va_up x.rd i false⟩ : WI) c = hdW x c := by
              unfold hdW
              simp only [WI.w_mk, WI.rd_mk, WI.w_w_w, WI.w_w_rd, WI.rd_w_w, WI.rd_w_rd, vz_at, if_neg e1]
            simp only [hw, vz_at, if_neg e1]
            refine ⟨?_, ?_, ?_⟩
            · repeat' split
              all_goals first | rfl | (exfalso; omega) | simp_all
            · repeat' split
              all_goals first | rfl | (exfalso; omega) | simp_all
            · repeat' split
              all_goals first | rfl | trivial | (exfalso; omega) | simp_all
theorem c_begin {Γ : gm_T} {φ : ph_T} {a : Nat} {x : WI} {hd : Nat → Bool} {tr : Nat → Int32} (h : CPt Γ φ a x hd tr) :
    ∃ φ', f_Port_begin Γ φ a = some ((), φ') ∧ CPt Γ φ' a x.beg (hdW x) tr ∧ Fr a (a + 7) φ φ' := by
  obtain ⟨φ', a1, a2, a3⟩ := c_begin_L 5 0 jF φ x hd (by omega) (by unfold jF; omega) h
  refine ⟨φ', a1, a2.congr (fun c hc => ?_), a3⟩
  simp only [WI.w_mk, WI.rd_mk, WI.w_w_w, WI.w_w_rd, WI.rd_w_w, WI.rd_w_rd, WI.begF]
  refine ⟨?_, ?_, ?_⟩
  · repeat' split
    all_goals first | rfl | (exfalso; omega) | simp_all
  · repeat' split
    all_goals first | rfl | (exfalso; omega) | simp_all
  · repeat' split
    all_goals first | rfl | trivial | (exfalso; omega) | simp_all
