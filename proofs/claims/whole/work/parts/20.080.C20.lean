/-! THE CLASS: masters pass, the rest -/
/-- only the counts of fed and open have changed -/
theorem CMa.cnt {Γ : gm_T} {φ φ' : ph_T} {a b m : Nat} {l l' : List TK} {pat : Nat → Nat} {early : Bool} (h : CMa Γ φ a b l m pat early) (f : Fr a (a + 1) φ φ') (er : φ'.2.2 = φ.2.2) (ei : ∀ k, k ≠ 8 → k ≠ 9 → φ'.1 a k = φ.1 a k) (e1 : ∀ wr, tix l' m wr = tix l m wr) (e2 : ∀ wr, nSent l' m wr = nSent l m wr) (e8 : φ'.1 a 8 = nI (nFed l' m)) (e9 : φ'.1 a 9 = nI (nOpn l' m)) : CMa Γ φ' a b l' m pat early := by
  refine ⟨h.o, by rw [er]; exact h.f0, by rw [er]; exact h.f2, by rw [er]; exact h.f3, h.g0, h.g2, h.g3, ?_, ?_, ?_, ?_, ?_, ?_, ?_, ?_, e8, e9⟩
  · rw [f.i (by omega)]; exact h.pt
  · rw [ei 1 (by decide) (by decide)]; exact h.ea
  · rw [e1, er]; exact h.wl
  · rw [e1, er]; exact h.rl
  · rw [ei 4 (by decide) (by decide), e1]; exact h.cw
  · rw [ei 5 (by decide) (by decide), e1]; exact h.cr
  · rw [ei 6 (by decide) (by decide), e2]; exact h.sw
  · rw [ei 7 (by decide) (by decide), e2]; exact h.sr
/-- data was sent -/
theorem c_mpassW {Γ : gm_T} {φ : ph_T} {a b ap m time : Nat} {l : List TK} {pat : Nat → Nat} {early : Bool} (hab : a + 4 ≤ b ∨ b + 256 ≤ a) (h : CMa Γ φ a b l m pat early) (ht : CTk Γ φ b l) (hT : TkO l) {t : Nat} (hf : l.findIdx? (isUnf m) = some t) :
    ∃ φ', f_Master_pass Γ φ a (some ap) (nI 1) (nI time) = some ((), φ') ∧ CMa Γ φ' a b (updF (isUnf m) (fun t => ((t.w_beats (t.beats + 1)).w_seed (lcg t.seed))) l) m pat early ∧ CTk Γ φ' b (updF (isUnf m) (fun t => ((t.w_beats (t.beats + 1)).w_seed (lcg t.seed))) l) ∧ TkO (updF (isUnf m) (fun t => ((t.w_beats (t.beats + 1)).w_seed (lcg t.seed))) l) ∧ OthM l (updF (isUnf m) (fun t => ((t.w_beats (t.beats + 1)).w_seed (lcg t.seed))) l) m ∧ FrP (pMt a b) φ φ' := by
  obtain ⟨e, he, _, hu⟩ := fi_some hf
  obtain ⟨sd, hsd⟩ : ∃ sd, sd = lcg e.seed := ⟨_, rfl⟩
  rw [updF_some hf he, ← hsd]
  unfold isUnf at hu
  simp only [Bool.and_eq_true, decide_eq_true_eq] at hu
  obtain ⟨⟨hme, hwe⟩, hbt⟩ := hu
  have h16 := leN_le e.con
  have hlt := (List.getElem?_eq_some_iff.mp he).1
  have h64 := ht.le
  generalize he' : (((e.w_beats (e.beats + 1)).w_seed (sd)) : TK) = e'
  have q1 : e'.m = e.m := by rw [← he']
  have q2 : e'.wr = e.wr := by rw [← he']
  have q3 : e'.sent = e.sent := by rw [← he']
  have q4 : e'.done = e.done := by rw [← he']
  have q5 : e'.beats = e.beats + 1 := by rw [← he']
  have q6 : e'.con = e.con := by rw [← he']
  have q7 : e'.dat = e.dat := by rw [← he']
  have q8 : e'.rst = e.rst := by rw [← he']
  have q9 : e'.asked = e.asked := by rw [← he']
  have q10 : e'.resp = e.resp := by rw [← he']
  have hno : ∀ m', nOpn (l.set t e') m' = nOpn l m' := fun m' => nOpn_keep he q1 (by rw [q4])
  have htx : ∀ m' wr', tix (l.set t e') m' wr' = tix l m' wr' := fun m' wr' => tix_set he q1 q2 m' wr'
  obtain ⟨o1, o2, o3⟩ := ht.o t (by omega)
  have f1 : Fr (b + 4 * t) (b + 4 * t + 4) φ (uI φ (b + 4 * t + 1) 3 (nI (e.beats + 1))) := fr_uI (Fr.refl _ _ _) (by omega) _ _
  have hE := ht.e t e he
  obtain ⟨E1, E2, E3, E4, E5, E6, E7, E8, E9⟩ := hE
  have hE1 : ETk (uI φ (b + 4 * t + 1) 3 (nI (e.beats + 1))) (b + 4 * t) e' := by
    unfold ETk
    rw [q2, q9, q3, q4, q10, q6, q5, q7, q8]
    rw [uI_d (show b + 4 * t ≠ b + 4 * t + 1 by omega), uI_d (show b + 4 * t + 3 ≠ b + 4 * t + 1 by omega)]
    refine ⟨E1, E2, E3, E4, E5, E6, ?_, E8, fun hh => ?_⟩
    · rw [uI_s, vz_same]
    · rw [hwe] at hh; cases hh
  have ht1 := ht.set he f1 rfl hE1
  have h1 : CMa Γ (uI φ (b + 4 * t + 1) 3 (nI (e.beats + 1))) a b l m pat early := h.sm (f1.sm (by omega))
  have lw := tix_len l m true
  have hfd : nFed l m ≤ l.length := List.countP_le_length
  have a1 := c_at (φ := φ) (L := tix l m true) h.g2 h.wl (by omega) (nFed l m) (by omega)
  rw [← unf_tix hT m, hf] at a1
  have fp1 : FrP (pMt a b) φ (uI φ (b + 4 * t + 1) 3 (nI (e.beats + 1))) := f1.toP (fun x h1 h2 => Or.inr (by omega))
  have e33 : ∀ v, (uI φ (b + 4 * t + 1) 3 v).1 (b + 4 * t + 1) 3 = v := fun v => by rw [uI_s, vz_same]
  unfold f_Master_pass f_Master_pass_L176 f_Master_feed f_Master_feed_L48
  rw [if_neg (by decide), if_pos (by decide), if_pos h.o, h.f2, h.fd, h.cw, a1, Option.bind_some]
  simp (disch := first | assumption | omega) only [Option.map_some, reduceCtorEq, if_false, Option.bind_some, o1, if_true, o2, o3.o, E7, E6, e_Burst_lengthOf, e33, h.o, ↓zm1, zI_ne_m, zI_m_ne, zI_lit, zI_le, zI_eq, zI_mul, zI_lt, zI_modn, zI_div, zI_sub, zI_add, zN_mod]
  by_cases hlast : e.beats + 1 < leN e.con
  · rw [if_pos hlast]
    obtain ⟨k1, k2, k3⟩ := hT.keep (e' := e') he q1 q2 q3 (fun _ => by rw [q5, q6]; omega)
    refine ⟨_, rfl, h1.cg (fun wr => htx m wr) (fun wr => k2 m wr) (k3 m) (hno m), ht1, k1, fun m' hne => ⟨fun wr => ⟨htx m' wr, k2 m' wr⟩, k3 m', hno m'⟩, fp1⟩
  · rw [if_neg hlast]
    obtain ⟨k1, k2, k3, k4⟩ := hT.fed (e' := e') hf he q1 q2 q3 (by rw [q5, q6]; exact hlast)
    have f2 : Fr a (a + 1) (uI φ (b + 4 * t + 1) 3 (nI (e.beats + 1))) (uI (uI φ (b + 4 * t + 1) 3 (nI (e.beats + 1))) a 8 (nI (nFed l m + 1))) := fr_uI (Fr.refl _ _ _) (by omega) _ _
    have e8 : (uI φ (b + 4 * t + 1) 3 (nI (e.beats + 1))).1 a 8 = nI (nFed l m) := h1.fd
    refine ⟨uI (uI φ (b + 4 * t + 1) 3 (nI (e.beats + 1))) a 8 (nI (nFed l m + 1)), ?_, ?_, ht1.sm (f2.sm (by omega)), k1, fun m' hne => ⟨fun wr => ⟨htx m' wr, k2 m' wr⟩, k4 m' hne, hno m'⟩, fp1.trans (f2.toP (fun x h1 h2 => Or.inl (by omega)))⟩
    · rw [e8, zI_add]
      rfl
    · refine h1.cnt f2 rfl (fun k hk _ => by rw [uI_s, vz_ne _ hk]) (fun wr => htx m wr) (fun wr => k2 m wr) ?_ ?_
      · rw [uI_s, vz_same, k3]
      · rw [uI_s, vz_ne _ (by decide), hno]; exact h1.op
/-- an answer came -/
theorem c_mpassB {Γ : gm_T} {φ : ph_T} {a b ap m time : Nat} {l : List TK} {pat : Nat → Nat} {early : Bool} {x : WI} {hd : Nat → Bool} {tr : Nat → Int32} (hab : a + 4 ≤ b ∨ b + 256 ≤ a) (h : CMa Γ φ a b l m pat early) (ht : CTk Γ φ b l) (hT : TkO l) (hp : CPt Γ φ ap x hd tr) (htm : time < 2 ^ 24) :
    ∃ φ', f_Master_pass Γ φ a (some ap) (nI 2) (nI time) = some ((), φ') ∧ CMa Γ φ' a b (updF (isAns m true (rId (x.w 2).r)) (fun t => ((t.w_resp (rRe (x.w 2).r)).w_done (nI time))) l) m pat early ∧ CTk Γ φ' b (updF (isAns m true (rId (x.w 2).r)) (fun t => ((t.w_resp (rRe (x.w 2).r)).w_done (nI time))) l) ∧ TkO (updF (isAns m true (rId (x.w 2).r)) (fun t => ((t.w_resp (rRe (x.w 2).r)).w_done (nI time))) l) ∧ OthM l (updF (isAns m true (rId (x.w 2).r)) (fun t => ((t.w_resp (rRe (x.w 2).r)).w_done (nI time))) l) m ∧ FrP (pMt a b) φ φ' := by
  obtain ⟨w1, w2, w3, w4⟩ := hp.w 2 (by omega)
  generalize hrr : (x.w 2).r = rr at *
  have hun := c_unans (id := rId rr) hT h.g2 h.wl ht (rId_lt rr)
  have hpre : f_Master_pass Γ φ a (some ap) (nI 2) (nI time) = (f_Master_takeAnswer Γ φ a ((l.findIdx? (isAns m true (rId rr))).map fun t => b + 4 * t) rr (nI time)).bind fun q => some ((), q.2) := by
    unfold f_Master_pass f_Master_pass_L176
    rw [if_neg (by decide), if_neg (by decide), if_pos (by decide), if_pos h.o]
    simp (disch := first | assumption | omega) only [Option.bind_some, hp.o, if_true, hp.f4, hp.g4, zI_lit, zix, w4, e_restId, h.f2, h.sw, hun]
  rw [hpre]
  cases hf : l.findIdx? (isAns m true (rId rr)) with
  | none =>
    rw [updF_none hf]
    exact ⟨φ, rfl, h, ht, hT, OthM.refl l m, FrP.refl _ _⟩
  | some t =>
    obtain ⟨e, he, _, hu⟩ := fi_some hf
    rw [updF_some hf he]
    have hlt := (List.getElem?_eq_some_iff.mp he).1
    have h64 := ht.le
    unfold isAns at hu
    simp only [Bool.and_eq_true, decide_eq_true_eq] at hu
    obtain ⟨⟨⟨⟨hme, hwe⟩, hide⟩, hse⟩, hde⟩ := hu
    generalize he' : (((e.w_resp (rRe rr)).w_done (nI time)) : TK) = e'
    have q1 : e'.m = e.m := by rw [← he']
    have q2 : e'.wr = e.wr := by rw [← he']
    have q3 : e'.sent = e.sent := by rw [← he']
    have q4 : e'.done = nI time := by rw [← he']
    have q5 : e'.beats = e.beats := by rw [← he']
    have q6 : e'.con = e.con := by rw [← he']
    have q7 : e'.dat = e.dat := by rw [← he']
    have q8 : e'.rst = e.rst := by rw [← he']
    have q9 : e'.asked = e.asked := by rw [← he']
    have q10 : e'.resp = rRe rr := by rw [← he']
    have htx : ∀ m' wr', tix (l.set t e') m' wr' = tix l m' wr' := fun m' wr' => tix_set he q1 q2 m' wr'
    obtain ⟨k1, k2, k3⟩ := hT.keep (e' := e') he q1 q2 q3 (fun _ => by rw [q5, q6])
    have hdn : e'.done ≠ m1 := by rw [q4]; exact zI_ne_m1 (by omega)
    have hop := nOpn_done he q1 hme hde hdn
    obtain ⟨o1, o2, o3⟩ := ht.o t (by omega)
    have f1 : Fr (b + 4 * t) (b + 4 * t + 4) φ (uI (uI φ (b + 4 * t) 5 (nI (rRe rr))) (b + 4 * t) 4 (nI time)) := by repeat (first | exact Fr.refl _ _ _ | refine fr_uI ?_ (by omega) _ _)
    have hE := ht.e t e he
    obtain ⟨E1, E2, E3, E4, E5, E6, E7, E8, E9⟩ := hE
    have hE1 : ETk (uI (uI φ (b + 4 * t) 5 (nI (rRe rr))) (b + 4 * t) 4 (nI time)) (b + 4 * t) e' := by
      unfold ETk
      rw [q2, q9, q3, q4, q10, q6, q5, q7, q8]
      simp only [uI_s, uI_d (show b + 4 * t + 1 ≠ b + 4 * t by omega), uI_d (show b + 4 * t + 3 ≠ b + 4 * t by omega), vz_at]
      exact ⟨E1, E2, E3, rfl, rfl, E6, E7, E8, E9⟩
    have ht1 := ht.set he f1 rfl hE1
    have h1 : CMa Γ (uI (uI φ (b + 4 * t) 5 (nI (rRe rr))) (b + 4 * t) 4 (nI time)) a b l m pat early := h.sm (f1.sm (by omega))
    have e9 : (uI (uI φ (b + 4 * t) 5 (nI (rRe rr))) (b + 4 * t) 4 (nI time)).1 a 9 = nI (nOpn l m) := h1.op
    have f2 : Fr a (a + 1) (uI (uI φ (b + 4 * t) 5 (nI (rRe rr))) (b + 4 * t) 4 (nI time)) (uI (uI (uI φ (b + 4 * t) 5 (nI (rRe rr))) (b + 4 * t) 4 (nI time)) a 9 (nI (nOpn l m - 1))) := fr_uI (Fr.refl _ _ _) (by omega) _ _
    refine ⟨uI (uI (uI φ (b + 4 * t) 5 (nI (rRe rr))) (b + 4 * t) 4 (nI time)) a 9 (nI (nOpn l m - 1)), ?_, ?_, ht1.sm (f2.sm (by omega)), k1, fun m' hne => ⟨fun wr => ⟨htx m' wr, k2 m' wr⟩, k3 m', nOpn_ne he q1 (by rw [hme]; exact fun hh => hne hh.symm)⟩, (f1.toP (fun x h1 h2 => Or.inr (by omega))).trans (f2.toP (fun x h1 h2 => Or.inl (by omega)))⟩
    · unfold f_Master_takeAnswer f_Master_takeAnswer_L18 f_Master_finish
      simp (disch := first | assumption | omega) only [Option.map_some, reduceCtorEq, if_false, e_restResponse, Option.bind_some, o1, if_true, h.o, e9, zI_lit, zI_sub]
    · refine h1.cnt f2 rfl (fun k _ hk => by rw [uI_s, vz_ne _ hk]) (fun wr => htx m wr) (fun wr => k2 m wr) ?_ ?_
      · rw [uI_s, vz_ne _ (by decide), k3]; exact h1.fd
      · rw [uI_s, vz_same]; congr 1; omega
