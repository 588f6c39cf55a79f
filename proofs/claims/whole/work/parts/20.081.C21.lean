/-! THE CLASS: masters take a read's beat -/
/-- a beat of a read came -/
theorem c_mpassR {Γ : gm_T} {φ : ph_T} {a b ap m time : Nat} {l : List TK} {pat : Nat → Nat} {early : Bool} {x : WI} {hd : Nat → Bool} {tr : Nat → Int32} (hab : a + 4 ≤ b ∨ b + 256 ≤ a) (hpb : ap + 7 ≤ b ∨ b + 256 ≤ ap) (h : CMa Γ φ a b l m pat early) (ht : CTk Γ φ b l) (hT : TkO l) (hp : CPt Γ φ ap x hd tr) (htm : time < 2 ^ 24) (hk : ∀ e ∈ l, e.resp < 4 ∧ (e.done = m1 → e.wr = false → e.beats < leN e.con)) :
    ∃ φ', f_Master_pass Γ φ a (some ap) (nI 4) (nI time) = some ((), φ') ∧ CMa Γ φ' a b (updF (isAns m false (rId (x.w 4).r)) (fun t => ((((t.w_dat (va_up t.dat t.beats (x.w 4).c)).w_beats (t.beats + 1)).w_resp (max t.resp (rRe (x.w 4).r))).w_done (if t.beats + 1 = leN t.con then nI time else m1))) l) m pat early ∧ CTk Γ φ' b (updF (isAns m false (rId (x.w 4).r)) (fun t => ((((t.w_dat (va_up t.dat t.beats (x.w 4).c)).w_beats (t.beats + 1)).w_resp (max t.resp (rRe (x.w 4).r))).w_done (if t.beats + 1 = leN t.con then nI time else m1))) l) ∧ TkO (updF (isAns m false (rId (x.w 4).r)) (fun t => ((((t.w_dat (va_up t.dat t.beats (x.w 4).c)).w_beats (t.beats + 1)).w_resp (max t.resp (rRe (x.w 4).r))).w_done (if t.beats + 1 = leN t.con then nI time else m1))) l) ∧ OthM l (updF (isAns m false (rId (x.w 4).r)) (fun t => ((((t.w_dat (va_up t.dat t.beats (x.w 4).c)).w_beats (t.beats + 1)).w_resp (max t.resp (rRe (x.w 4).r))).w_done (if t.beats + 1 = leN t.con then nI time else m1))) l) m ∧ FrP (pMt a b) φ φ' := by
  obtain ⟨w1, w2, w3, w4⟩ := hp.w 4 (by omega)
  generalize hrr : (x.w 4).r = rr at *
  generalize hcc : (x.w 4).c = c at *
  have hun := c_unans (id := rId rr) hT h.g3 h.rl ht (rId_lt rr)
  have hpre : f_Master_pass Γ φ a (some ap) (nI 4) (nI time) = (f_Master_takeBeat Γ φ a ((l.findIdx? (isAns m false (rId rr))).map fun t => b + 4 * t) (some ap) (nI time)).bind fun q => some ((), q.2) := by
    unfold f_Master_pass f_Master_pass_L176
    rw [if_neg (by decide), if_neg (by decide), if_neg (by decide), if_neg (by decide), if_pos h.o]
    simp (disch := first | assumption | omega) only [Option.bind_some, hp.o, if_true, hp.f4, hp.g4, zI_lit, zix, w4, e_restId, h.f3, h.sr, hun]
  rw [hpre]
  cases hf : l.findIdx? (isAns m false (rId rr)) with
  | none =>
    rw [updF_none hf]
    exact ⟨φ, rfl, h, ht, hT, OthM.refl l m, FrP.refl _ _⟩
  | some t =>
    obtain ⟨e, he, _, hu⟩ := fi_some hf
    rw [updF_some hf he]
    have hlt := (List.getElem?_eq_some_iff.mp he).1
    have h64 := ht.le
    have hr4 := rRe_lt rr
    unfold isAns at hu
    simp only [Bool.and_eq_true, decide_eq_true_eq] at hu
    obtain ⟨⟨⟨⟨hme, hwe⟩, hide⟩, hse⟩, hde⟩ := hu
    have hwf : e.wr = false := by simpa using hwe
    obtain ⟨hres, hbts⟩ := hk e (lmem he)
    have hbt := hbts hde hwf
    have h16 := leN_le e.con
    generalize he' : (((((e.w_dat (va_up e.dat e.beats c)).w_beats (e.beats + 1)).w_resp (max e.resp (rRe rr))).w_done (if e.beats + 1 = leN e.con then nI time else m1)) : TK) = e'
    have q1 : e'.m = e.m := by rw [← he']
    have q2 : e'.wr = e.wr := by rw [← he']
    have q3 : e'.sent = e.sent := by rw [← he']
    have q4 : e'.done = if e.beats + 1 = leN e.con then nI time else m1 := by rw [← he']
    have q5 : e'.beats = e.beats + 1 := by rw [← he']
    have q6 : e'.con = e.con := by rw [← he']
    have q7 : e'.dat = va_up e.dat e.beats c := by rw [← he']
    have q8 : e'.rst = e.rst := by rw [← he']
    have q9 : e'.asked = e.asked := by rw [← he']
    have q10 : e'.resp = max e.resp (rRe rr) := by rw [← he']
    have htx : ∀ m' wr', tix (l.set t e') m' wr' = tix l m' wr' := fun m' wr' => tix_set he q1 q2 m' wr'
    obtain ⟨k1, k2, k3⟩ := hT.keep (e' := e') he q1 q2 q3 (fun hh => by rw [hwf] at hh; cases hh)
    obtain ⟨o1, o2, o3⟩ := ht.o t (by omega)
    have hE := ht.e t e he
    obtain ⟨E1, E2, E3, E4, E5, E6, E7, E8, E9⟩ := hE
    have htb := c_takeBeat o3 E7 (by omega) c rr
    -- the beat and the answer
    let ψ := uI (uI (uI (uL φ (b + 4 * t + 1 + 1) e.beats c) (b + 4 * t + 1 + 2) e.beats rr) (b + 4 * t + 1) 3 (nI (e.beats + 1))) (b + 4 * t) 5 (nI (max e.resp (rRe rr)))
    have f1 : Fr (b + 4 * t) (b + 4 * t + 4) φ ψ := by
      show Fr (b + 4 * t) (b + 4 * t + 4) φ (uI (uI (uI (uL φ (b + 4 * t + 1 + 1) e.beats c) (b + 4 * t + 1 + 2) e.beats rr) (b + 4 * t + 1) 3 (nI (e.beats + 1))) (b + 4 * t) 5 (nI (max e.resp (rRe rr))))
      repeat (first | exact Fr.refl _ _ _ | refine fr_uI ?_ (by omega) _ _ | refine fr_uL ?_ (by omega) _ _)
    have z1 : ∀ k, k ≠ 5 → ψ.1 (b + 4 * t) k = φ.1 (b + 4 * t) k := by
      intro k hk5
      show (uI (uI (uI (uL φ (b + 4 * t + 1 + 1) e.beats c) (b + 4 * t + 1 + 2) e.beats rr) (b + 4 * t + 1) 3 (nI (e.beats + 1))) (b + 4 * t) 5 (nI (max e.resp (rRe rr)))).1 (b + 4 * t) k = _
      rw [uI_s, vz_ne _ hk5, uI_d (by omega), uI_d (by omega)]
      rfl
    have z2 : ψ.1 (b + 4 * t) 5 = nI (max e.resp (rRe rr)) := by show (uI _ (b + 4 * t) 5 _).1 (b + 4 * t) 5 = _; rw [uI_s, vz_same]
    have z3 : ψ.2.1 (b + 4 * t + 1) 0 = e.con := by
      show (uL φ (b + 4 * t + 1 + 1) e.beats c).2.1 (b + 4 * t + 1) 0 = _
      rw [uL_2, if_neg (by omega)]; exact E6
    have z4 : ψ.1 (b + 4 * t + 1) 3 = nI (e.beats + 1) := by
      show (uI (uI (uI (uL φ (b + 4 * t + 1 + 1) e.beats c) (b + 4 * t + 1 + 2) e.beats rr) (b + 4 * t + 1) 3 (nI (e.beats + 1))) (b + 4 * t) 5 (nI (max e.resp (rRe rr)))).1 (b + 4 * t + 1) 3 = _
      rw [uI_d (by omega), uI_s, vz_same]
    have z5 : ∀ k, k < e.beats + 1 → ψ.2.1 (b + 4 * t + 2) k = va_up e.dat e.beats c k := by
      intro k hk5
      show (uL φ (b + 4 * t + 1 + 1) e.beats c).2.1 (b + 4 * t + 1 + 1) k = _
      rw [uL_2, if_pos rfl, vz_at, vz_at]
      by_cases hkb : k = e.beats
      · rw [if_pos hkb, if_pos hkb]
      · rw [if_neg hkb, if_neg hkb]; exact E9 hwf k (by omega)
    have h1 : CMa Γ ψ a b l m pat early := h.sm (f1.sm (by omega))
    have hp1 : ∀ φ2, φ2 = uI (uI (uL φ (b + 4 * t + 1 + 1) e.beats c) (b + 4 * t + 1 + 2) e.beats rr) (b + 4 * t + 1) 3 (nI (e.beats + 1)) → φ2.1 (ap + 5) 4 = rr ∧ φ2.1 (b + 4 * t) 5 = nI e.resp := by
      intro φ2 h2
      subst h2
      constructor
      · rw [uI_d (by omega), uI_d (by omega)]; exact w4
      · rw [uI_d (by omega), uI_d (by omega)]; exact E5
    obtain ⟨y1, y2⟩ := hp1 _ rfl
    have hmax : f_Math_max Γ (uI (uI (uL φ (b + 4 * t + 1 + 1) e.beats c) (b + 4 * t + 1 + 2) e.beats rr) (b + 4 * t + 1) 3 (nI (e.beats + 1))) (nI e.resp) (nI (rRe rr)) = some (nI (max e.resp (rRe rr)), uI (uI (uL φ (b + 4 * t + 1 + 1) e.beats c) (b + 4 * t + 1 + 2) e.beats rr) (b + 4 * t + 1) 3 (nI (e.beats + 1))) := by
      unfold f_Math_max f_Math_max_L10
      simp (disch := first | assumption | omega) only [zI_lt]
      by_cases hlt2 : e.resp < rRe rr
      · rw [if_pos hlt2, Nat.max_eq_right (by omega)]
      · rw [if_neg hlt2, Nat.max_eq_left (by omega)]
    have z4' : (uI (uI (uI (uL φ (b + 4 * t + 1 + 1) e.beats c) (b + 4 * t + 1 + 2) e.beats rr) (b + 4 * t + 1) 3 (nI (e.beats + 1))) (b + 4 * t) 5 (nI (max e.resp (rRe rr)))).1 (b + 4 * t + 1) 3 = nI (e.beats + 1) := z4
    have z3' : (uI (uI (uL φ (b + 4 * t + 1 + 1) e.beats c) (b + 4 * t + 1 + 2) e.beats rr) (b + 4 * t + 1) 3 (nI (e.beats + 1))).2.1 (b + 4 * t + 1) 0 = e.con := z3
    have hg5 : (uI (uI (uL φ (b + 4 * t + 1 + 1) e.beats c) (b + 4 * t + 1 + 2) e.beats rr) (b + 4 * t + 1) 3 (nI (e.beats + 1))).2.2 ap 4 = some (ap + 5) := hp.f4
    have ho2 : (uI (uI (uL φ (b + 4 * t + 1 + 1) e.beats c) (b + 4 * t + 1 + 2) e.beats rr) (b + 4 * t + 1) 3 (nI (e.beats + 1))).2.2 (b + 4 * t) 0 = some (b + 4 * t + 1) := o2
    have hval : f_Master_takeBeat Γ φ a (some (b + 4 * t)) (some ap) (nI time) = if e.beats + 1 < leN e.con then some ((), ψ) else (f_Master_finish Γ ψ a (some (b + 4 * t)) (nI time)).bind fun q => some ((), q.2) := by
      unfold f_Master_takeBeat f_Master_takeBeat_L70
      simp (disch := first | assumption | omega) only [reduceCtorEq, if_false, Option.bind_some, o1, if_true, hp.o, hp.f3, hp.g3, hp.f4, hp.g4, zI_lit, zix, w3, w4, o2, o3.o, htb, hg5, y1, y2, e_restResponse, hmax, ho2, z3', e_Burst_lengthOf, z4', zI_lt, h.o]
      rfl
    simp only [Option.map_some]
    rw [hval]
    by_cases hlast : e.beats + 1 = leN e.con
    · rw [if_neg (by omega)]
      rw [if_pos hlast] at q4
      have hdn : e'.done ≠ m1 := by rw [q4]; exact zI_ne_m1 (by omega)
      have hop := nOpn_done he q1 hme hde hdn
      have f2 : Fr (b + 4 * t) (b + 4 * t + 4) ψ (uI ψ (b + 4 * t) 4 (nI time)) := fr_uI (Fr.refl _ _ _) (by omega) _ _
      have hE1 : ETk (uI ψ (b + 4 * t) 4 (nI time)) (b + 4 * t) e' := by
        unfold ETk
        rw [q2, q9, q3, q4, q10, q6, q5, q7, q8]
        simp only [uI_s, uI_d (show b + 4 * t + 1 ≠ b + 4 * t by omega), uI_d (show b + 4 * t + 3 ≠ b + 4 * t by omega), vz_at]
        refine ⟨(z1 1 (by decide)).trans E1, (z1 2 (by decide)).trans E2, (z1 3 (by decide)).trans E3, rfl, z2, z3, z4, (fun hh => absurd (hwf.symm.trans hh) (by decide)), (fun _ => z5)⟩
      have ht1 := ht.set he (f1.trans f2) rfl hE1
      have h2 : CMa Γ (uI ψ (b + 4 * t) 4 (nI time)) a b l m pat early := h1.sm (f2.sm (by omega))
      have e9 : (uI ψ (b + 4 * t) 4 (nI time)).1 a 9 = nI (nOpn l m) := h2.op
      have f3 : Fr a (a + 1) (uI ψ (b + 4 * t) 4 (nI time)) (uI (uI ψ (b + 4 * t) 4 (nI time)) a 9 (nI (nOpn l m - 1))) := fr_uI (Fr.refl _ _ _) (by omega) _ _
      refine ⟨uI (uI ψ (b + 4 * t) 4 (nI time)) a 9 (nI (nOpn l m - 1)), ?_, ?_, ht1.sm (f3.sm (by omega)), k1, fun m' hne => ⟨fun wr => ⟨htx m' wr, k2 m' wr⟩, k3 m', nOpn_ne he q1 (by rw [hme]; exact fun hh => hne hh.symm)⟩, ((f1.trans f2).toP (fun x h1 h2 => Or.inr (by omega))).trans (f3.toP (fun x h1 h2 => Or.inl (by omega)))⟩
      · unfold f_Master_finish
        simp (disch := first | assumption | omega) only [Option.bind_some, o1, if_true, h.o, e9, zI_lit, zI_sub]
      · refine h2.cnt f3 rfl (fun k _ hk => by rw [uI_s, vz_ne _ hk]) (fun wr => htx m wr) (fun wr => k2 m wr) ?_ ?_
        · rw [uI_s, vz_ne _ (by decide), k3]; exact h2.fd
        · rw [uI_s, vz_same]; congr 1; omega
    · rw [if_pos (by omega)]
      rw [if_neg hlast] at q4
      have hno : ∀ m', nOpn (l.set t e') m' = nOpn l m' := fun m' => nOpn_keep he q1 (by rw [q4, hde])
      have hE1 : ETk ψ (b + 4 * t) e' := by
        unfold ETk
        rw [q2, q9, q3, q4, q10, q6, q5, q7, q8]
        refine ⟨(z1 1 (by decide)).trans E1, (z1 2 (by decide)).trans E2, (z1 3 (by decide)).trans E3, (z1 4 (by decide)).trans (E4.trans hde), z2, z3, z4, (fun hh => absurd (hwf.symm.trans hh) (by decide)), (fun _ => z5)⟩
      have ht1 := ht.set he f1 rfl hE1
      exact ⟨ψ, rfl, h1.cg (fun wr => htx m wr) (fun wr => k2 m wr) (k3 m) (hno m), ht1, k1, fun m' hne => ⟨fun wr => ⟨htx m' wr, k2 m' wr⟩, k3 m', hno m'⟩, f1.toP (fun x h1 h2 => Or.inr (by omega))⟩
