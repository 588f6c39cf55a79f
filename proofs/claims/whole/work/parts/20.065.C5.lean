/-! THE CLASS: monitors take what moves -/
theorem c_takeReadBeat {Γ : gm_T} {φ : ph_T} {b : Nat} {o : MO} (h : CMo Γ φ b o) (x : Int32) (hi : ∀ e ∈ o.rs, e.n < leN e.con) :
    ∃ φ', f_Monitor_takeReadBeat Γ φ b x = some ((), φ') ∧ CMo Γ φ' b (o.goR x) ∧ Fr (b + 51) (b + 101) φ φ' := by
  obtain ⟨l, hl⟩ := h.rs
  have ha : f_Line_firstWithId Γ φ (b + 51) (nI (rId x)) = some (oI (o.rs.findIdx? (isMr (rId x))) m1, φ) := c_LwithId hl (fun e => idN e.con) (fun x e he => by rw [he.1]) (id := rId x) (rId_lt x)
  unfold f_Monitor_takeReadBeat f_Monitor_takeReadBeat_L58
  simp only [h.o, h.f1, hl.c.o, if_true, e_restId, Option.bind_some, ha]
  cases hf : o.rs.findIdx? (isMr (rId x)) with
  | none =>
    simp only [oI, c_Lat_m, Option.bind_some, if_true]
    refine ⟨φ, rfl, ?_, Fr.refl _ _ _⟩
    unfold MO.goR
    rw [bumpR_none hf]
    exact h
  | some i =>
    obtain ⟨e, he, hfe, hp⟩ := fi_some hf
    obtain ⟨y, hy, hE, hb, u1, u2, _⟩ := hl.get he
    have l1 := leN_pos e.con
    have l2 := leN_le e.con
    have l3 := hE.2.2
    have l4 := hi e (List.mem_of_getElem? he)
    have hil := (List.getElem?_eq_some_iff.mp he).1
    have f1 : Fr y (y + 3) φ (uI φ y 3 (nI (e.n + 1))) := fr_uI (Fr.refl _ _ _) (by omega) _ _
    have hE' : EMr (uI φ y 3 (nI (e.n + 1))) y (e.w_n (e.n + 1)) := ⟨hE.1, by rw [uI_s, vz_same], by show e.n + 1 ≤ 16; omega⟩
    have hl1 := hl.upd hy f1 (hb.up rfl) hE'
    have f1' : Fr (b + 51) (b + 101) φ (uI φ y 3 (nI (e.n + 1))) := f1.mono (by omega) (by omega)
    have hm := h.setR f1' hl1
    simp (disch := first | assumption | omega) only [oI, c_Lat hl he hy, Option.bind_some, reduceCtorEq, if_false, hE.1, hE.2.1, hb.o, if_true, e_Burst_lengthOf, uI_s, vz_same, ↓zm1, zI_ne_m, zI_m_ne, zI_lit, zI_le, zI_eq, zI_mul, zI_lt, zI_modn, zI_div, zI_sub, zI_add, zN_mod]
    unfold MO.goR
    rw [bumpR_some hf he]
    by_cases hlast : e.n + 1 = leN e.con
    · rw [if_neg (by omega), if_pos hlast]
      obtain ⟨l2, φ2, r1, r2, r3⟩ := c_Lremove hl1 (i := i) (by rw [List.length_set]; exact hil)
      have hset : (o.rs.set i (e.w_n (e.n + 1))).eraseIdx i = o.rs.eraseIdx i := by
        rw [List.eraseIdx_set_eq]
      rw [hset] at r2
      have e3 : (uI φ y 3 (nI (e.n + 1))).2.2 b 1 = some (b + 51) := h.f1
      simp only [e3, r1, Option.bind_some, hl.c.o, if_true]
      refine ⟨φ2, rfl, ?_, f1'.trans (r3.mono (by omega) (by omega))⟩
      exact hm.setR (r3.mono (by omega) (by omega)) r2
    · rw [if_pos (by omega), if_neg hlast]
      exact ⟨_, rfl, hm, f1'⟩
theorem c_takeB {Γ : gm_T} {φ : ph_T} {b : Nat} {o : MO} (h : CMo Γ φ b o) (x : Int32) :
    ∃ φ', ((f_Line_firstAnswerable Γ φ (b + 1) (nI (rId x))).bind fun q => f_Line_remove Γ q.2 (b + 1) q.1) = some ((), φ') ∧ CMo Γ φ' b (o.goB x) ∧ Fr (b + 1) (b + 51) φ φ' := by
  obtain ⟨l, hl⟩ := h.ws
  have ha := c_Lans hl (fun x e he => ⟨he.1, he.2.2.1, he.2.1⟩) (id := rId x) (rId_lt x)
  rw [ha, Option.bind_some]
  unfold MO.goB
  rw [List.eraseP_eq_eraseIdx]
  cases hf : o.ws.findIdx? (isMwA (rId x)) with
  | none => exact ⟨φ, c_Lremove_m, h, Fr.refl _ _ _⟩
  | some i =>
    obtain ⟨e, he, _, _⟩ := fi_some hf
    have hil := (List.getElem?_eq_some_iff.mp he).1
    obtain ⟨l2, φ2, r1, r2, r3⟩ := c_Lremove hl hil
    exact ⟨φ2, r1, h.setW (r3.mono (by omega) (by omega)) r2, r3.mono (by omega) (by omega)⟩
theorem c_takeAnswers {Γ : gm_T} {φ : ph_T} {a b : Nat} {o : MO} {x : WI} {hd : Nat → Bool} {tr : Nat → Int32} (h : CMo Γ φ b o) (hp : CPt Γ φ a x hd tr) (hd' : a + 7 ≤ b) (hi : ∀ e ∈ o.rs, e.n < leN e.con) :
    ∃ φ', f_Monitor_takeAnswers Γ φ b (some a) = some ((), φ') ∧ CMo Γ φ' b ((o.go1 x).go2 x) ∧ Fr b (b + 104) φ φ' := by
  obtain ⟨l, hl⟩ := h.ws
  have K : ∀ (φ1 : ph_T) (o1 : MO), CMo Γ φ1 b o1 → CPt Γ φ1 a x hd tr → (∀ e ∈ o1.rs, e.n < leN e.con) → ∃ φ', f_Monitor_takeAnswers_L31 Γ φ1 b (some a) = some ((), φ') ∧ CMo Γ φ' b (o1.go2 x) ∧ Fr b (b + 104) φ1 φ' := by
    intro φ1 o1 h1 hp1 hi1
    obtain ⟨w1, w2, w3, w4⟩ := hp1.w 4 (by omega)
    unfold f_Monitor_takeAnswers_L31 f_Monitor_takeAnswers_L49 MO.go2
    have hm := c_moves hp1 (c := 4) (by omega)
    simp (disch := first | assumption | omega) only [hp1.o, hp1.f4, hp1.g4, if_true, Option.bind_some, zI_lit, hm, bI_eq0, zix, w4, h1.o]
    cases hmv : mvW x 4 with
    | false => simp only [if_true, Bool.false_eq_true, if_false]; exact ⟨φ1, rfl, h1, Fr.refl _ _ _⟩
    | true =>
      obtain ⟨φ2, t1, t2, t3⟩ := c_takeReadBeat h1 (x.w 4).r hi1
      simp only [Bool.true_eq_false, if_false, t1, Option.bind_some, if_true]
      exact ⟨φ2, rfl, t2, t3.mono (by omega) (by omega)⟩
  obtain ⟨w1, w2, w3, w4⟩ := hp.w 2 (by omega)
  have hm := c_moves hp (c := 2) (by omega)
  unfold f_Monitor_takeAnswers
  simp (disch := first | assumption | omega) only [hp.o, hp.f4, hp.g4, if_true, Option.bind_some, zI_lit, hm, bI_eq0, zix, w4, h.o, h.f0, hl.c.o, e_restId]
  unfold MO.go1
  cases hmv : mvW x 2 with
  | false => simp only [if_true, Bool.false_eq_true, if_false]; exact K φ o h hp hi
  | true =>
    obtain ⟨φ2, t1, t2, t3⟩ := c_takeB h (x.w 2).r
    cases hfa : f_Line_firstAnswerable Γ φ (b + 1) (nI (rId (x.w 2).r)) with
    | none => rw [hfa] at t1; cases t1
    | some q =>
      rw [hfa, Option.bind_some] at t1
      simp only [Bool.true_eq_false, if_false, t1, Option.bind_some, if_true]
      obtain ⟨φ3, s1, s2, s3⟩ := K φ2 _ t2 (hp.sm (t3.sm (by omega))) hi
      exact ⟨φ3, s1, s2, (t3.mono (by omega) (by omega)).trans s3⟩
theorem c_brokenWB {Γ : gm_T} {φ : ph_T} {y k : Nat} {e : MW} (hb : CBl Γ φ y) (hE : EMw φ y e) (hh : e.has = true) (hk : k < e.n) : f_Monitor_brokenWriteBeat Γ φ (some y) (nI k) = some (nI (badB e k), φ) := by
  obtain ⟨e1, e2, e3, e4, e5, e6⟩ := hE
  have l1 := leN_pos e.con
  have l2 := leN_le e.con
  have hla := laN_lt (baN e.con k) (szN_cases e.con)
  have hst := rSt_lt (e.rst k)
  have hand : rSt (e.rst k) &&& (255 ^^^ laN (baN e.con k) (szN e.con)) ≤ rSt (e.rst k) := Nat.and_le_left
  have hL37 : ∀ y0 : Bool, f_Monitor_brokenWriteBeat_L37 Γ φ (some y) (nI k) (e.rst k) (bI y0) = some (nI (if y0 ≠ rLa (e.rst k) ∨ leN e.con ≤ k then 7 else if rSt (e.rst k) &&& (255 ^^^ laN (baN e.con k) (szN e.con)) ≠ 0 then 8 else 0), φ) := by
    intro y0
    unfold f_Monitor_brokenWriteBeat_L37 f_Monitor_brokenWriteBeat_L57 f_Monitor_brokenWriteBeat_L89
    simp only [e_restLast, Option.bind_some, bI_eq, hb.o, if_true, e2 hh, e_Burst_lengthOf]
    rw [e_Burst_beatLanes Γ φ e.con (k := k) (by omega)]
    simp only [Option.bind_some, ↓zm1, zI_lit, rSt_eq]
    rw [nt_nI (show laN (baN e.con k) (szN e.con) < 2 ^ 32 by omega), zI_and, and_nt hst hla]
    simp (disch := first | assumption | omega) only [zI_eq, zI_lt]
    by_cases c1 : y0 = rLa (e.rst k)
    · rw [if_pos c1]
      by_cases c2 : k < leN e.con
      · rw [if_pos c2, if_neg (show ¬ (y0 ≠ rLa (e.rst k) ∨ leN e.con ≤ k) from by rintro (h | h); exact h c1; omega)]
        by_cases c3 : rSt (e.rst k) &&& (255 ^^^ laN (baN e.con k) (szN e.con)) = 0
        · rw [if_pos c3, if_neg (fun h => h c3)]
        · rw [if_neg c3, if_pos c3]
      · rw [if_neg c2, if_pos (Or.inr (by omega))]
    · rw [if_neg c1, if_pos (Or.inl c1)]
  unfold f_Monitor_brokenWriteBeat f_Monitor_brokenWriteBeat_L10
  simp (disch := first | assumption | omega) only [hb.o, hb.f7, hb.g7, if_true, Option.bind_some, e2 hh, e_Burst_lengthOf, e6 k hk, zix, ↓zm1, zI_ne_m, zI_m_ne, zI_lit, zI_le, zI_eq, zI_mul, zI_lt, zI_modn, zI_div, zI_sub, zI_add, zN_mod]
  rw [if_neg (by omega), if_pos (by omega)]
  unfold badB
  by_cases c1 : k = leN e.con - 1
  · rw [if_pos c1, ← bI_t, hL37 true]
    simp [c1]
  · rw [if_neg c1, ← bI_f, hL37 false]
    simp [c1]
theorem c_tWA_L {Γ : gm_T} {φ : ph_T} {y : Nat} {e : MW} (hb : CBl Γ φ y) (hE : EMw φ y e) (hh : e.has = true) : ∀ (d k fu : Nat), k + d = e.n → d < fu →
    f_Monitor_takeWriteAddress_L51 Γ fu φ (some y) (nI 0) (nI k) = some (nI (badAll e d k), φ) := by
  have h16 := hE.2.2.2.2.1
  have hn := hE.2.2.2.1
  intro d
  induction d with
  | zero =>
    intro k fu hd hfu
    match fu, hfu with
    | fu + 1, _ =>
      unfold f_Monitor_takeWriteAddress_L51 f_Monitor_takeWriteAddress_L79
      simp (disch := first | assumption | omega) only [hb.o, if_true, Option.bind_some, hn, ↓zm1, zI_ne_m, zI_m_ne, zI_lit, zI_le, zI_eq, zI_mul, zI_lt, zI_modn, zI_div, zI_sub, zI_add, zN_mod]
      rw [if_pos (by omega)]
      rfl
  | succ d ih =>
    intro k fu hd hfu
    match fu, hfu with
    | fu + 1, hfu =>
      have hr := ih (k + 1) fu (by omega) (by omega)
      have hw := c_brokenWB hb hE hh (k := k) (by omega)
      unfold f_Monitor_takeWriteAddress_L51 badAll
      simp (disch := first | assumption | omega) only [hb.o, if_true, Option.bind_some, hn, hw, ↓zm1, zI_ne_m, zI_m_ne, zI_lit, zI_le, zI_eq, zI_mul, zI_lt, zI_modn, zI_div, zI_sub, zI_add, zN_mod]
      rw [if_neg (by omega)]
      by_cases c0 : badB e k = 0
      · rw [if_neg (fun h => h c0), c0]
        exact hr
      · rw [if_pos c0]
        have hlt : badB e k < 13 := by unfold badB; repeat' split <;> try omega
        match fu, hfu with
        | fu + 1, _ =>
          unfold f_Monitor_takeWriteAddress_L51 f_Monitor_takeWriteAddress_L79
          simp (disch := first | assumption | omega) only [hb.o, if_true, Option.bind_some, hn, ↓zm1, zI_ne_m, zI_m_ne, zI_lit, zI_le, zI_eq, zI_mul, zI_lt, zI_modn, zI_div, zI_sub, zI_add, zN_mod]
          rw [if_neg c0]
          split <;> rfl
