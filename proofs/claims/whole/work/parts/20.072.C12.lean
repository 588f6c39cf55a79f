/-! THE CLASS: slaves pass -/
theorem CSl.cg {Γ : gm_T} {φ : ph_T} {a am : Nat} {S T : XS} {s : Nat} (h : CSl Γ φ a am S s) (e1 : T.sw s = S.sw s) (e2 : T.sr s = S.sr s) (e3 : T.spat s = S.spat s) (e4 : T.rgt s = S.rgt s) (e5 : T.delay s = S.delay s) (e6 : T.way s = S.way s) (e7 : ∀ i, T.chb s = some i → S.chb s = some i) (e8 : ∀ i, T.chr s = some i → S.chr s = some i) (e9 : T.lat s = S.lat s) : CSl Γ φ a am T s :=
  ⟨h.o, h.f0, h.f1, h.f2, h.f3, h.f4, h.f5, h.g1, h.g4, h.g5, by rw [e1]; exact h.sw, by rw [e2]; exact h.sr, by rw [e3]; exact h.pt, by rw [e4]; exact h.rg, by rw [e5]; exact h.dl, by rw [e6]; exact h.wy, fun i hi => h.cb i (e7 i hi), fun i hi => h.cr i (e8 i hi), by rw [e9]; exact h.lt⟩
/-- the writes' line alone has changed -/
theorem CSl.setW {Γ : gm_T} {φ φ' : ph_T} {a am : Nat} {S T : XS} {s : Nat} (h : CSl Γ φ a am S s) (f : Fr (a + 2) (a + 16) φ φ') {l : List Nat} (hl : CL Γ φ' (a + 2) 4 EWe l (T.sw s)) (e2 : T.sr s = S.sr s) (e3 : T.spat s = S.spat s) (e4 : T.rgt s = S.rgt s) (e5 : T.delay s = S.delay s) (e6 : T.way s = S.way s) (e7 : ∀ i, T.chb s = some i → S.chb s = some i) (e8 : ∀ i, T.chr s = some i → S.chr s = some i) (e9 : T.lat s = S.lat s) : CSl Γ φ' a am T s := by
  refine ⟨h.o, ?_, ?_, ?_, ?_, ?_, ?_, h.g1, h.g4, h.g5, ⟨l, hl⟩, ?_, ?_, ?_, ?_, ?_, ?_, ?_, ?_⟩
  · rw [f.r (by omega)]; exact h.f0
  · rw [f.r (by omega)]; exact h.f1
  · rw [f.r (by omega)]; exact h.f2
  · rw [f.r (by omega)]; exact h.f3
  · rw [f.r (by omega)]; exact h.f4
  · rw [f.r (by omega)]; exact h.f5
  · rw [e2]; obtain ⟨l, hl⟩ := h.sr; exact ⟨l, hl.sm (f.sm (by omega))⟩
  · rw [f.i (by omega), e3]; exact h.pt
  · rw [f.i (by omega), f.i (by omega), e4]; exact h.rg
  · rw [f.i (by omega), e5]; exact h.dl
  · rw [f.i (by omega), e6]; exact h.wy
  · rw [f.i (by omega)]; exact fun i hi => h.cb i (e7 i hi)
  · rw [f.i (by omega)]; exact fun i hi => h.cr i (e8 i hi)
  · rw [f.i (by omega), e9]; exact h.lt
theorem CSl.setQ {Γ : gm_T} {φ φ' : ph_T} {a am : Nat} {S T : XS} {s : Nat} (h : CSl Γ φ a am S s) (f : Fr (a + 16) (a + 30) φ φ') {l : List Nat} (hl : CL Γ φ' (a + 16) 4 EQe l (T.sr s)) (e2 : T.sw s = S.sw s) (e3 : T.spat s = S.spat s) (e4 : T.rgt s = S.rgt s) (e5 : T.delay s = S.delay s) (e6 : T.way s = S.way s) (e7 : ∀ i, T.chb s = some i → S.chb s = some i) (e8 : ∀ i, T.chr s = some i → S.chr s = some i) (e9 : T.lat s = S.lat s) : CSl Γ φ' a am T s := by
  refine ⟨h.o, ?_, ?_, ?_, ?_, ?_, ?_, h.g1, h.g4, h.g5, ?_, ⟨l, hl⟩, ?_, ?_, ?_, ?_, ?_, ?_, ?_⟩
  · rw [f.r (by omega)]; exact h.f0
  · rw [f.r (by omega)]; exact h.f1
  · rw [f.r (by omega)]; exact h.f2
  · rw [f.r (by omega)]; exact h.f3
  · rw [f.r (by omega)]; exact h.f4
  · rw [f.r (by omega)]; exact h.f5
  · rw [e2]; obtain ⟨l, hl⟩ := h.sw; exact ⟨l, hl.sm (f.sm (by omega))⟩
  · rw [f.i (by omega), e3]; exact h.pt
  · rw [f.i (by omega), f.i (by omega), e4]; exact h.rg
  · rw [f.i (by omega), e5]; exact h.dl
  · rw [f.i (by omega), e6]; exact h.wy
  · rw [f.i (by omega)]; exact fun i hi => h.cb i (e7 i hi)
  · rw [f.i (by omega)]; exact fun i hi => h.cr i (e8 i hi)
  · rw [f.i (by omega), e9]; exact h.lt
theorem c_pass0 {Γ : gm_T} {φ : ph_T} {a am ap : Nat} {S : XS} {s : Nat} {x : WI} {hd : Nat → Bool} {tr : Nat → Int32} (h : CSl Γ φ a am S s) (hp : CPt Γ φ ap x hd tr) (hr : (S.sw s).length < 4) (t : Int32) (p : Nat) :
    ∃ φ', f_Slave_pass Γ φ a (some ap) (nI 0) t = some ((), φ') ∧ CSl Γ φ' a am (S.w_sw (va_up S.sw s (S.sw s ++ [⟨(x.w 0).c, 0, fun _ => 0, fun _ => 0, 0, 0, p⟩]))) s ∧ Fr a (a + 32) φ φ' := by
  obtain ⟨l, hl⟩ := h.sw
  obtain ⟨w1, w2, w3, w4⟩ := hp.w 0 (by omega)
  obtain ⟨y, φ1, s1, s2, s3, s4, s5, s6, s7, s8, s9, s10, s11, s12, s13, s14⟩ := c_Ladd hl hr (x.w 0).c
  have hlp := leN_pos (x.w 0).c
  have hE0 : EWe φ1 y ⟨(x.w 0).c, 0, fun _ => 0, fun _ => 0, 0, 0, p⟩ := by
    refine ⟨s8, ?_, s11, ?_, ?_, fun i hi => absurd hi (Nat.not_lt_zero _)⟩
    · rw [s10]
      show nI 0 = bI (decide (0 = leN (x.w 0).c))
      rw [decide_eq_false (by omega)]; rfl
    · rw [s12]
      show m1 = if 0 = leN (x.w 0).c then _ else m1
      rw [if_neg (by omega)]
    · rw [s13]
      show nI 0 = if 0 = leN (x.w 0).c then _ else nI 0
      rw [if_neg (by omega)]
  refine ⟨φ1, ?_, ?_, s4.mono (by omega) (by omega)⟩
  · unfold f_Slave_pass f_Slave_pass_L125
    simp (disch := first | assumption | omega) only [zI_lit, if_true, h.o, Option.bind_some, hp.o, hp.f3, hp.g3, zix, w3, h.f2, hl.c.o, s1]
  · refine h.setW (s4.mono (by omega) (by omega)) (l := l) ?_ rfl rfl rfl rfl rfl (fun i hi => hi) (fun i hi => hi) rfl
    show CL Γ φ1 (a + 2) 4 EWe l (va_up S.sw s _ s)
    rw [vz_same]
    exact s14 _ hE0
theorem c_pass2 {Γ : gm_T} {φ : ph_T} {a am ap : Nat} {S : XS} {s i : Nat} (h : CSl Γ φ a am S s) (hc : S.chb s = some i) (hi : i < (S.sw s).length) (t : Int32) :
    ∃ φ', f_Slave_pass Γ φ a (some ap) (nI 2) t = some ((), φ') ∧ CSl Γ φ' a am ((S.w_sw (va_up S.sw s ((S.sw s).eraseIdx i))).w_chb (va_up S.chb s none)) s ∧ Fr a (a + 32) φ φ' := by
  obtain ⟨l, hl⟩ := h.sw
  obtain ⟨l2, φ2, r1, r2, r3⟩ := c_Lremove hl hi
  refine ⟨φ2, ?_, ?_, r3.mono (by omega) (by omega)⟩
  · unfold f_Slave_pass f_Slave_pass_L125
    rw [if_neg (by decide), if_neg (by decide), if_pos (by decide), if_pos h.o, h.f2, Option.bind_some, if_pos hl.c.o, h.cb i hc, r1, Option.bind_some]
  · refine h.setW (r3.mono (by omega) (by omega)) (l := l2) ?_ rfl rfl rfl rfl rfl (fun j hj => ?_) (fun i hi => hi) rfl
    · show CL Γ φ2 (a + 2) 4 EWe l2 (va_up S.sw s _ s)
      rw [vz_same]
      exact r2
    · have hj' : va_up S.chb s none s = some j := hj
      rw [vz_same] at hj'
      cases hj'
theorem c_pass4B {Γ : gm_T} {φ : ph_T} {a am ap : Nat} {S : XS} {s i : Nat} {e : QE} (h : CSl Γ φ a am S s) (hbd : e.got < leN e.con) (hc : S.chr s = some i) (he : (S.sr s)[i]? = some e) (t : Int32) :
    ∃ φ', f_Slave_pass Γ φ a (some ap) (nI 4) t = some ((), φ') ∧ CSl Γ φ' a am (((S.w_sr (va_up S.sr s (bmO (some i) (S.sr s)))).w_lat (va_up S.lat s (some (e.since, e.num)))).w_chr (va_up S.chr s none)) s ∧ Fr a (a + 32) φ φ' := by
  obtain ⟨l, hl⟩ := h.sr
  obtain ⟨y, hy, hE, hb, u1, u2, _⟩ := hl.get he
  have hi := (List.getElem?_eq_some_iff.mp he).1
  have l2 := leN_le e.con
  -- the latest is noted
  have f1 : Fr a (a + 1) φ (uI φ a 10 (nI e.since)) := fr_uI (Fr.refl _ _ _) (by omega) _ _
  have hl1 : CL Γ (uI φ a 10 (nI e.since)) (a + 16) 4 EQe l (S.sr s) := hl.sm (f1.sm (by omega))
  have h1 : CSl Γ (uI φ a 10 (nI e.since)) a am ((S.w_lat (va_up S.lat s (some (e.since, e.num)))).w_chr (va_up S.chr s none)) s := by
    refine ⟨h.o, h.f0, h.f1, h.f2, h.f3, h.f4, h.f5, h.g1, h.g4, h.g5, ?_, ⟨l, hl1⟩, ?_, ?_, ?_, ?_, ?_, ?_, ?_⟩
    · obtain ⟨l, hl⟩ := h.sw; exact ⟨l, hl.sm (f1.sm (by omega))⟩
    · rw [f1.i (by omega)]; exact h.pt
    · rw [f1.i (by omega), f1.i (by omega)]; exact h.rg
    · rw [uI_s, vz_ne _ (by decide)]; exact h.dl
    · rw [uI_s, vz_ne _ (by decide)]; exact h.wy
    · rw [uI_s, vz_ne _ (by decide)]; exact h.cb
    · intro j hj
      have hj' : va_up S.chr s none s = some j := hj
      rw [vz_same] at hj'
      cases hj'
    · rw [uI_s, vz_same]
      show nI e.since = oI ((va_up S.lat s (some (e.since, e.num)) s).map Prod.fst) m1
      rw [vz_same]; rfl
  have hya : y ≠ a := by omega
  have hE1 : EQe (uI φ a 10 (nI e.since)) y e := EQe_loc φ _ y e (f1.sm (by omega)) hE
  have f2 : Fr y (y + 3) (uI φ a 10 (nI e.since)) (uI (uI φ a 10 (nI e.since)) y 3 (nI (e.got + 1))) := fr_uI (Fr.refl _ _ _) (by omega) _ _
  have hE2 : EQe (uI (uI φ a 10 (nI e.since)) y 3 (nI (e.got + 1))) y (e.w_got (e.got + 1)) := by
    refine ⟨hE1.1, ?_, ?_, ?_⟩
    · rw [uI_s, vz_same]
    · rw [uI_s, vz_ne _ (by decide)]; exact hE1.2.2.1
    · intro j hj
      have := hE1.2.2.2 j hj
      rw [uI_d (show y + 2 ≠ y by omega)]
      exact this
  have hl2 := hl1.upd hy f2 (hb.up rfl) hE2
  have hsr : ∀ L : List QE, (((S.w_sr (va_up S.sr s L)).w_lat (va_up S.lat s (some (e.since, e.num)))).w_chr (va_up S.chr s none)).sr s = L := fun L => by show va_up S.sr s L s = L; rw [vz_same]
  have hpre : f_Slave_pass Γ φ a (some ap) (nI 4) t = (f_Slave_passReadBeat Γ φ a (some y)).bind fun q35 => some ((), q35.2) := by
    unfold f_Slave_pass f_Slave_pass_L125
    rw [if_neg (by decide), if_neg (by decide), if_neg (by decide), if_neg (by decide), if_pos h.o, h.f3, Option.bind_some, if_pos hl.c.o, h.cr i hc, c_Lat hl he hy, Option.bind_some]
  rw [hpre]
  have e3 : (uI φ a 10 (nI e.since)).1 y 3 = nI e.got := hE1.2.1
  have ey3 : ∀ v, (uI (uI φ a 10 (nI e.since)) y 3 v).1 y 3 = v := fun v => by rw [uI_s, vz_same]
  have f3' : (uI (uI φ a 10 (nI e.since)) y 3 (nI (e.got + 1))).2.2 a 3 = some (a + 16) := h.f3
  have e9' : (uI (uI φ a 10 (nI e.since)) y 3 (nI (e.got + 1))).1 a 9 = nI i := by
    rw [uI_d (fun hh => hya hh.symm), uI_s, vz_ne _ (by decide)]
    exact h.cr i hc
  unfold f_Slave_passReadBeat f_Slave_passReadBeat_L48 bmO
  simp (disch := first | assumption | omega) only [reduceCtorEq, if_false, Option.bind_some, hb.o, if_true, h.o, hE.1, hE.2.2.1, e3, e_Burst_lengthOf, ey3, ↓zm1, zI_ne_m, zI_m_ne, zI_lit, zI_le, zI_eq, zI_mul, zI_lt, zI_modn, zI_div, zI_sub, zI_add, zN_mod, f3', e9', hl.c.o, he]
  by_cases hlast : e.got + 1 = leN e.con
  · rw [if_neg (by omega), if_pos hlast]
    obtain ⟨l3, φ3, r1, r2, r3⟩ := c_Lremove hl2 (i := i) (by rw [List.length_set]; exact hi)
    rw [List.eraseIdx_set_eq] at r2
    refine ⟨φ3, ?_, ?_, ?_⟩
    · rw [r1, Option.bind_some]; rfl
    · have f23 : Fr (a + 16) (a + 30) (uI φ a 10 (nI e.since)) φ3 := (f2.mono (by omega) (by omega)).trans (r3.mono (by omega) (by omega))
      refine h1.setQ f23 (l := l3) ?_ rfl rfl rfl rfl rfl (fun i hi => hi) (fun i hi => hi) rfl
      rw [hsr]
      exact r2
    · exact (f1.mono (by omega) (by omega)).trans ((f2.mono (by omega) (by omega)).trans (r3.mono (by omega) (by omega)))
  · rw [if_pos (by omega), if_neg hlast]
    refine ⟨_, rfl, ?_, ?_⟩
    · refine h1.setQ (f2.mono (by omega) (by omega)) (l := l) ?_ rfl rfl rfl rfl rfl (fun i hi => hi) (fun i hi => hi) rfl
      rw [hsr]
      exact hl2
    · exact (f1.mono (by omega) (by omega)).trans (f2.mono (by omega) (by omega))
