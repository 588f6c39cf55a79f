/-! THE CLASS: the crossbar moves answers -/
theorem and_m49 (x : Int32) : x &&& (-49 : Int32) = x - nI (16 * (rId x / 16)) := by
  apply zI_inj
  rw [Int32.toBitVec_and, Int32.toBitVec_sub]
  apply BitVec.eq_of_toNat_eq
  rw [BitVec.toNat_and, BitVec.toNat_sub, zI_bv, BitVec.toNat_ofNat]
  have h49 : (-49 : Int32).toBitVec.toNat = 2 ^ 6 * (2 ^ 26 - 1) + 15 := by decide
  rw [h49]
  unfold rId
  have hx := x.toBitVec.isLt
  generalize x.toBitVec.toNat = y at hx
  have e1 : y = 2 ^ 6 * (y / 64) + y % 64 := by omega
  have e2 : y &&& (2 ^ 6 * (2 ^ 26 - 1) + 15) = 2 ^ 6 * (y / 64) + y % 64 % 16 := by
    apply Nat.eq_of_testBit_eq
    intro j
    rw [Nat.testBit_and, Nat.testBit_two_pow_mul_add _ (show 15 < 2 ^ 6 by omega), Nat.testBit_two_pow_mul_add _ (show y % 64 % 16 < 2 ^ 6 by omega)]
    by_cases hj : j < 6
    · rw [if_pos hj, if_pos hj, show (15 : Nat) = 2 ^ 4 - 1 from rfl, Nat.testBit_two_pow_sub_one, show y % 64 % 16 = y % 2 ^ 4 by omega, Nat.testBit_mod_two_pow, Bool.and_comm]
    · rw [if_neg hj, if_neg hj, Nat.testBit_two_pow_sub_one, show (64 : Nat) = 2 ^ 6 from rfl, Nat.testBit_div_two_pow, show j - 6 + 6 = j by omega]
      by_cases hj2 : j - 6 < 26
      · simp [hj2]
      · have : Nat.testBit y j = false := Nat.testBit_lt_two_pow (Nat.lt_of_lt_of_le hx (Nat.pow_le_pow_right (by omega) (by omega)))
        simp [this]
  rw [e2]
  omega
theorem rId_m49 (x : Int32) : rId (x - nI (16 * (rId x / 16))) = rId x % 16 := by
  unfold rId
  rw [Int32.toBitVec_sub, BitVec.toNat_sub, zI_bv, BitVec.toNat_ofNat]
  have hx := x.toBitVec.isLt
  generalize x.toBitVec.toNat = y at hx
  omega
theorem er_filter {l : List UE} {m x : Nat} : (l.eraseP (fun u => decide (u.m = m) && decide (u.id = x))).filter (isM m) = (l.filter (isM m)).eraseP (fun u => decide (u.id = x)) := by
  induction l with
  | nil => rfl
  | cons u l ih =>
    rw [List.eraseP_cons, List.filter_cons]
    by_cases h1 : u.m = m
    · have hm : isM m u = true := by unfold isM; simp [h1]
      rw [hm]
      simp only [if_true]
      rw [List.eraseP_cons]
      by_cases h2 : u.id = x
      · simp [h1, h2]
      · simp only [h1, h2, decide_true, decide_false, Bool.and_false, cond_false]
        rw [List.filter_cons, hm]
        simp only [if_true]
        rw [ih]
    · have hm : isM m u = false := by unfold isM; simp [h1]
      rw [hm]
      simp only [h1, decide_false, Bool.false_and, cond_false, Bool.false_eq_true, if_false]
      rw [List.filter_cons, hm]
      simp only [Bool.false_eq_true, if_false]
      exact ih
theorem er_filter_ne {l : List UE} {m m' x : Nat} (hne : m' ≠ m) : (l.eraseP (fun u => decide (u.m = m) && decide (u.id = x))).filter (isM m') = l.filter (isM m') := by
  induction l with
  | nil => rfl
  | cons u l ih =>
    rw [List.eraseP_cons, List.filter_cons]
    by_cases h1 : u.m = m
    · have hm : isM m' u = false := by unfold isM; simp [h1]; exact fun hh => hne hh.symm
      rw [hm]
      simp only [Bool.false_eq_true, if_false]
      by_cases h2 : u.id = x
      · simp [h1, h2]
      · simp only [h1, h2, decide_true, decide_false, Bool.and_false, cond_false]
        rw [List.filter_cons, hm]
        simp only [Bool.false_eq_true, if_false]
        exact ih
    · simp only [h1, decide_false, Bool.false_and, cond_false, Bool.false_eq_true, if_false]
      rw [List.filter_cons, ih]
theorem c_gives {Γ : gm_T} {φ : ph_T} {w m t c : Nat} {S : XS} (h : CSw Γ φ w S) (ht : t < S.ns + 1) (hm : m < S.nm) (hc : c < 5) : f_Switch_gives Γ φ w (nI t) (nI m) (nI c) = some (bI (S.gives m c t), φ) := by
  have h4 := h.lay.nm4
  have h5 := h.lay.ns4
  have hr := h.row (5 * (4 + t) + c) (Or.inr (by omega))
  unfold f_Switch_gives f_Switch_gives_L35 f_Switch_gives_L36 XS.gives
  rw [if_pos h.lay.o, c_ofTarget h ht hc, Option.bind_some]
  simp only [Option.bind_some, hr.o, if_true, c_holds hr, bI_eqz]
  cases hrow : S.row (5 * (4 + t) + c) with
  | nil => simp [bI_f]; rfl
  | cons e l =>
    rw [hrow] at hr
    have hlt := rId_lt e.r
    rw [if_neg (by simp)]
    simp only [c_firstRest hr, Option.bind_some, e_restId]
    rw [if_neg (by decide), show (16 : Int32) = nI 16 from rfl, zI_div (by omega) (by omega), zI_eq_ite (by omega) (by omega)]
    by_cases hd : rId e.r / 16 = m
    · rw [if_pos hd, if_pos (by decide)]; simp [hd, bI_t]; rfl
    · rw [if_neg hd, if_pos (by decide)]; simp [hd, bI_f]; rfl
theorem c_giver_L {Γ : gm_T} {φ : ph_T} {w m c st : Nat} {S : XS} {la : Option Nat} (h : CSw Γ φ w S) (hm : m < S.nm) (hc : c < 5) (hst : st < 10) (hla : oI la m1 + (1 : Int32) = nI st) (hmod : st % (S.ns + 1) = nxt la (S.ns + 1)) : ∀ (d i fu : Nat), i + d = S.ns + 1 → d < fu →
    f_Switch_giverFor_L11 Γ fu φ w (nI m) (nI c) (oI la m1) (nI (S.ns + 1)) (nI i) = some (oI (((List.range' i d).find? fun i => S.gives m c ((nxt la (S.ns + 1) + i) % (S.ns + 1))).map fun i => (nxt la (S.ns + 1) + i) % (S.ns + 1)) m1, φ) := by
  have h5 := h.lay.ns4
  intro d
  induction d with
  | zero =>
    intro i fu hd hfu
    match fu, hfu with
    | fu + 1, _ =>
      unfold f_Switch_giverFor_L11
      rw [if_pos (by rw [zI_le (by omega) (by omega)]; omega)]
      rfl
  | succ d ih =>
    intro i fu hd hfu
    match fu, hfu with
    | fu + 1, hfu =>
      have hr := ih (i + 1) fu (by omega) (by omega)
      have hlt : (st + i) % (S.ns + 1) < S.ns + 1 := Nat.mod_lt _ (by omega)
      have hm2 : (nxt la (S.ns + 1) + i) % (S.ns + 1) = (st + i) % (S.ns + 1) := by rw [← hmod, Nat.mod_add_mod]
      have hix : (oI la m1 + (1 : Int32) + nI i) - (oI la m1 + (1 : Int32) + nI i) / nI (S.ns + 1) * nI (S.ns + 1) = nI ((st + i) % (S.ns + 1)) := by rw [hla, zI_add, zI_mod (by omega) (by omega)]
      have hg := c_gives h hlt hm hc
      rw [List.range'_succ, List.find?_cons, hm2]
      unfold f_Switch_giverFor_L11
      rw [if_neg (by rw [zI_le (by omega) (by omega)]; omega), if_neg (by rw [zI_0, zI_eq (by omega) (by omega)]; omega), if_pos h.lay.o, hix, hg, Option.bind_some]
      simp only [bI_eqz]
      rw [show nI i + (1 : Int32) = nI (i + 1) from by rw [zI_1, zI_add], hr]
      cases hgv : S.gives m c ((st + i) % (S.ns + 1)) with
      | false => rw [if_pos rfl]
      | true =>
        rw [if_neg (by decide)]
        simp only [Option.map_some, oI, hm2]
theorem c_giver {Γ : gm_T} {φ : ph_T} {w m c : Nat} {S : XS} {la : Option Nat} (h : CSw Γ φ w S) (hm : m < S.nm) (hc : c < 5) (hL : ∀ o, la = some o → o ≤ S.ns) : f_Switch_giverFor Γ φ w (nI m) (nI c) (oI la m1) = some (oI (S.giv m c la) m1, φ) := by
  have h5 := h.lay.ns4
  have hstart : ∃ st, st < 10 ∧ oI la m1 + (1 : Int32) = nI st ∧ st % (S.ns + 1) = nxt la (S.ns + 1) := by
    cases la with
    | none => exact ⟨0, by omega, by decide, by unfold nxt; exact Nat.zero_mod _⟩
    | some o => exact ⟨o + 1, by have := hL o rfl; omega, by show nI o + 1 = nI (o + 1); rw [zI_1, zI_add], rfl⟩
  obtain ⟨st, s1, s2, s3⟩ := hstart
  unfold f_Switch_giverFor XS.giv
  rw [if_pos h.lay.o, h.ob.ns, show nI S.ns + (1 : Int32) = nI (S.ns + 1) from by rw [zI_1, zI_add], zI_0, c_giver_L h hm hc s1 s2 s3 (S.ns + 1) 0 jF (by omega) (by unfold jF; omega), List.range_eq_range']
theorem c_moveBack {Γ : gm_T} {φ : ph_T} {w m t c : Nat} {S : XS} {e : RE} {l : List RE} (h : CSw Γ φ w S) (hm : m < S.nm) (ht : t < S.ns + 1) (hc : c = 2 ∨ c = 4) (hr : S.row (5 * (4 + t) + c) = e :: l) (hrm : S.hasRm (5 * m + c) = true) (hid : rId e.r / 16 = m) :
    ∃ φ', f_Switch_moveBack Γ φ (some (rA w S.nm (5 * (4 + t) + c))) (some (rA w S.nm (5 * m + c))) = some (e.r - nI (16 * m), φ') ∧ CSw Γ φ' w ((S.drop (5 * (4 + t) + c)).put (5 * m + c) ⟨e.c, e.r - nI (16 * m), S.time⟩) ∧ Fr (w + 3) (swA w S.nm S.ns) φ φ' := by
  have h4 := h.lay.nm4
  have h5 := h.lay.ns4
  have okT : okR S.nm S.ns (5 * (4 + t) + c) := Or.inr (by omega)
  have okM : okR S.nm S.ns (5 * m + c) := Or.inl (by omega)
  have rT := h.row _ okT
  have rM := h.row _ okM
  rw [hr] at rT
  obtain ⟨φ1, φ2, b1, b2, b3, b4, b5⟩ := c_mvRow (i := 5 * (4 + t) + c) (j := 5 * m + c) (e := e) (l := l) (x := ⟨e.c, e.r - nI (16 * m), S.time⟩) h okT okM (by omega) hr hrm (nI 0) (fun hh => by
    have : tmF (5 * m + c) = false := by
      unfold tmF
      rw [show (5 * m + c) % 5 = c by omega]
      rcases hc with rfl | rfl <;> simp
    rw [this] at hh; cases hh)
  have b1' : f_Row_put Γ φ (rA w S.nm (5 * m + c)) e.c (e.r - nI (16 * m)) (0 : Int32) = some ((), φ1) := b1
  have hand : e.r &&& (-49 : Int32) = e.r - nI (16 * m) := by rw [and_m49, hid]
  refine ⟨φ2, ?_, b3, b4⟩
  unfold f_Switch_moveBack
  rw [Option.bind_some, if_pos rT.o, c_firstRest rT, Option.bind_some]
  dsimp only
  rw [c_firstContent rT, Option.bind_some, Option.bind_some, if_pos rM.o, hand]
  dsimp only
  rw [b1', Option.bind_some]
  dsimp only
  rw [b2, Option.bind_some]
theorem giv_some {S : XS} {m c : Nat} {la : Option Nat} {t : Nat} (h : S.giv m c la = some t) : S.gives m c t = true ∧ t < S.ns + 1 := by
  rw [giv_eq] at h
  exact givF_some h
theorem gives_id {S : XS} {m c t : Nat} {e : RE} {l : List RE} (h : S.gives m c t = true) (hr : S.row (5 * (4 + t) + c) = e :: l) : rId e.r / 16 = m := by
  unfold XS.gives at h
  rw [hr] at h
  simpa using h
theorem c_movB {Γ : gm_T} {φ : ph_T} {w m : Nat} {S : XS} (h : CSw Γ φ w S) (hB : Bd S) (hm : m < S.nm) (hz : ∀ t, ∀ e ∈ S.row (5 * (4 + t) + 2), e.c = 0) :
    ∃ φ', f_Switch_moveAnswer Γ φ w (nI m) = some ((), φ') ∧ CSw Γ φ' w (S.movB m) ∧ Fr w (w + swZ S.nm S.ns) φ φ' := by
  have h4 := h.lay.nm4
  have h5 := h.lay.ns4
  have eA : swA w S.nm S.ns = w + 24 + 20 * S.nm + 20 * S.ns := rfl
  have eB : swB w S.nm S.ns = w + 26 + 30 * S.nm + 20 * S.ns := rfl
  have eZ : swZ S.nm S.ns = 31 + 30 * S.nm + 20 * S.ns := rfl
  have okM : okR S.nm S.ns (5 * m + 2) := Or.inl (by omega)
  have rM := h.row _ okM
  have hroom : f_Row_hasRoom Γ φ (rA w S.nm (5 * m + 2)) = some (bI (S.hasRm (5 * m + 2)), φ) := c_hasRoom rM
  have qM : f_Switch_ofMaster Γ φ w (nI m) (2 : Int32) = some (some (rA w S.nm (5 * m + 2)), φ) := c_ofMaster (c := 2) h hm (by omega)
  have hgv : f_Switch_giverFor Γ φ w (nI m) (2 : Int32) (oI (S.lb m) m1) = some (oI (S.giv m 2 (S.lb m)) m1, φ) := c_giver (c := 2) h hm (by omega) (fun o ho => hB.lb m o ho)
  unfold f_Switch_moveAnswer
  rw [if_pos h.lay.o, qM, Option.bind_some, Option.bind_some, if_pos rM.o]
  dsimp only
  rw [hroom, Option.bind_some]
  simp only [bI_eqz]
  unfold XS.movB
  cases hrm : S.hasRm (5 * m + 2) with
  | false =>
    rw [if_pos rfl, if_pos rfl]
    exact ⟨φ, rfl, h, Fr.refl _ _ _⟩
  | true =>
    rw [if_neg (by decide), if_neg (by decide), h.lay.f10, Option.bind_some, h.lay.g10, Option.bind_some, zix (by omega), Option.bind_some, h.lb m hm, hgv, Option.bind_some]
    dsimp only
    cases hg : S.giv m 2 (S.lb m) with
    | none => exact ⟨φ, rfl, h, Fr.refl _ _ _⟩
    | some t =>
      obtain ⟨g1, ht⟩ := giv_some hg
      obtain ⟨e, l, hr⟩ := gives_row g1
      have hid := gives_id g1 hr
      have hc0 : e.c = 0 := hz t e (by rw [hr]; exact List.mem_cons_self ..)
      obtain ⟨φ1, a1, a2, a3⟩ := c_moveBack (c := 2) h hm ht (Or.inl rfl) hr hrm hid
      have qT : f_Switch_ofTarget Γ φ w (nI t) (2 : Int32) = some (some (rA w S.nm (5 * (4 + t) + 2)), φ) := c_ofTarget (c := 2) h ht (by omega)
      obtain ⟨b1, b2⟩ := a2.lbU m t
      have b1' : CSw Γ (uI φ1 (swB w S.nm S.ns + 2) m (nI t)) w (((S.drop (5 * (4 + t) + 2)).put (5 * m + 2) ⟨e.c, e.r - nI (16 * m), S.time⟩).w_lb (va_up S.lb m (some t))) := b1
      have hu : CUw Γ (uI φ1 (swB w S.nm S.ns + 2) m (nI t)) (swA w S.nm S.ns + 2 + 10 * m) (S.uw.filter (isM m)) := b1'.uw m hm
      have hrid : rId (e.r - nI (16 * m)) = rId e.r % 16 := by rw [← hid]; exact rId_m49 e.r
      obtain ⟨φ3, c1, c2, c3⟩ := c_removeFirst hu (id := rId e.r % 16) (by omega)
      have h3 := b1'.uwU (l := S.uw.eraseP (fun u => decide (u.m = m) && decide (u.id = rId e.r % 16))) hm (c3.mono (by show swA w S.nm S.ns + 2 + 10 * m ≤ _; omega) (by show _ ≤ swA w S.nm S.ns + 7 + 10 * m; omega)) (by rw [er_filter]; exact c2) (fun m' hne => er_filter_ne hne)
      refine ⟨φ3, ?_, ?_, (a3.mono (by omega) (by omega)).trans ((b2.mono (by show w ≤ swB w S.nm S.ns + 2; omega) (by show swB w S.nm S.ns + 3 ≤ _; omega)).trans (c3.mono (by omega) (by omega)))⟩
      · unfold f_Switch_moveAnswer_L30
        have f10' : φ1.2.2 w 10 = some (swB w S.nm S.ns + 2) := by rw [a3.r (by omega)]; exact h.lay.f10
        have f6' : φ1.2.2 w 6 = some (swA w S.nm S.ns) := by rw [a3.r (by omega)]; exact h.lay.f6
        have fu' : φ1.2.2 (swA w S.nm S.ns) m = some (swA w S.nm S.ns + 2 + 10 * m) := by rw [a3.r (by omega)]; exact h.lay.uw m hm
        rw [if_neg (show ¬ oI (some t) m1 = (-1 : Int32) from zI_ne_m1 (by omega)), if_pos h.lay.o]
        show (f_Switch_ofTarget Γ φ w (nI t) (2 : Int32)).bind _ = _
        rw [qT, Option.bind_some]
        dsimp only
        rw [a1, Option.bind_some]
        dsimp only
        rw [f10', Option.bind_some, h.lay.g10, Option.bind_some, zix (by omega), Option.bind_some, f6', Option.bind_some, h.lay.g6, Option.bind_some, zix (by omega), Option.bind_some, e_restId, Option.bind_some, fu', Option.bind_some, if_pos hu.o, hrid]
        show (f_UnderWay_removeFirst Γ (uI φ1 (swB w S.nm S.ns + 2) m (nI t)) (swA w S.nm S.ns + 2 + 10 * m) (nI (rId e.r % 16))).bind _ = _
        rw [c1, Option.bind_some]
      · dsimp only
        rw [hr]
        refine h3.cg rfl rfl rfl rfl rfl rfl rfl rfl ?_ rfl rfl rfl rfl rfl rfl rfl
        rw [hc0]
