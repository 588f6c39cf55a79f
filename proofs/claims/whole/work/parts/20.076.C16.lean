/-! THE CLASS: slaves take a write's beat, the whole -/
theorem findIdx?_cg {α : Type} {f g : α → Bool} : ∀ {l : List α}, (∀ z ∈ l, f z = g z) → l.findIdx? f = l.findIdx? g := by
  intro l
  induction l with
  | nil => intro _; rfl
  | cons x l ih =>
    intro h
    rw [List.findIdx?_cons, List.findIdx?_cons, h x (List.mem_cons_self ..), ih (fun z hz => h z (List.mem_cons_of_mem _ hz))]
theorem stN_cg {e f : WE} (h1 : f.con = e.con) (h2 : f.rst = e.rst) (h3 : f.dat = e.dat) (mem : Nat → Nat) : ∀ k, stN f k mem = stN e k mem := by
  intro k
  induction k with
  | zero => rfl
  | succ k ih =>
    show stB (stN f k mem) (baN f.con k) (rSt (f.rst k)) (f.dat k) = stB (stN e k mem) (baN e.con k) (rSt (e.rst k)) (e.dat k)
    rw [ih, h1, h2, h3]
theorem rgN_cg {e f : WE} (h1 : f.con = e.con) (h2 : f.rst = e.rst) (g : Nat → Option (Nat × Nat)) : ∀ k, rgN f k g = rgN e k g := by
  intro k
  induction k with
  | zero => rfl
  | succ k ih => rw [rgN_succ, rgN_succ, ih, h1, h2]
theorem doWrite_cg {S T : XS} {s : Nat} {e f : WE} (h1 : f.con = e.con) (h2 : f.rst = e.rst) (h3 : f.dat = e.dat) (hspo : T.spo = S.spo) (hrg : T.rgt = S.rgt) (hmem : T.mem = S.mem) :
    (T.doWrite s f).2 = (S.doWrite s e).2 ∧ (T.doWrite s f).1.mem = (S.doWrite s e).1.mem ∧ (T.doWrite s f).1.rgt = (S.doWrite s e).1.rgt := by
  have hb : badW T.spo f = badW S.spo e := by unfold badW; rw [h1, h2, hspo]
  have hg : gEx T s f = gEx S s e := by unfold gEx; rw [h1, hrg]
  rw [doWrite_st, doWrite_st, hb, hg, h1, hrg, hmem, stN_cg h1 h2 h3, rgN_cg h1 h2]
  split
  · exact ⟨rfl, hmem, rfl⟩
  · split
    · exact ⟨rfl, hmem, rfl⟩
    · exact ⟨rfl, rfl, rfl⟩
theorem doWrite_oth (S : XS) (s : Nat) (e : WE) : (S.doWrite s e).1.sr = S.sr ∧ (S.doWrite s e).1.spat = S.spat ∧ (S.doWrite s e).1.delay = S.delay ∧ (S.doWrite s e).1.way = S.way ∧ (S.doWrite s e).1.chb = S.chb ∧ (S.doWrite s e).1.chr = S.chr ∧ (S.doWrite s e).1.lat = S.lat := by
  rw [doWrite_st]
  split
  · exact ⟨rfl, rfl, rfl, rfl, rfl, rfl, rfl⟩
  · split
    · exact ⟨rfl, rfl, rfl, rfl, rfl, rfl, rfl⟩
    · exact ⟨rfl, rfl, rfl, rfl, rfl, rfl, rfl⟩
theorem c_pass1 {Γ : gm_T} {φ : ph_T} {a am ap : Nat} {S : XS} {s i : Nat} {e : WE} {x : WI} {hd : Nat → Bool} {tr : Nat → Int32} (hma : am + 3 ≤ a ∨ a + 32 ≤ am) (h : CSl Γ φ a am S s) (hp : CPt Γ φ ap x hd tr) (hm : CMem Γ φ am S.mem S.spo) (hR : ∀ j q, S.rgt s j = some q → q.1 < 65536 ∧ q.2 < 129) (hW : ∀ x ∈ S.sw s, x.got ≤ leN x.con ∧ ruN x.con = 0) (hi : (S.sw s).findIdx? lackP = some i) (he : (S.sw s)[i]? = some e) :
    ∃ φ', f_Slave_pass Γ φ a (some ap) (nI 1) (nI S.time) = some ((), φ') ∧ CSl Γ φ' a am (S.bc s i e (x.w 1).c (x.w 1).r) s ∧ CMem Γ φ' am (S.bc s i e (x.w 1).c (x.w 1).r).mem S.spo ∧ FrP (fun b => (a ≤ b ∧ b < a + 32) ∨ (am ≤ b ∧ b < am + 3)) φ φ' := by
  obtain ⟨l, hl⟩ := h.sw
  obtain ⟨w1, w2, w3, w4⟩ := hp.w 1 (by omega)
  generalize hcc : (x.w 1).c = c at *
  generalize hrr : (x.w 1).r = rr at *
  obtain ⟨y, hy, hE, hb, u1, u2, _⟩ := hl.get he
  obtain ⟨hgle, hru⟩ := hW e (lmem he)
  have hle := leN_le e.con
  obtain ⟨e2, he2, _, hlk⟩ := fi_some hi
  rw [he] at he2
  cases he2
  have hlt : e.got < leN e.con := by unfold lackP at hlk; simpa using hlk
  have hun := c_LunE hl (fun e => decide (e.got = leN e.con)) (fun x e he => he.2.1)
  have hfi : (S.sw s).findIdx? (fun e => !decide (e.got = leN e.con)) = some i := by
    rw [← hi]
    apply findIdx?_cg
    intro z hz
    have := (hW z hz).1
    unfold lackP
    by_cases h1 : z.got = leN z.con
    · simp [h1]
    · have : z.got < leN z.con := by omega
      simp [h1, this]
  rw [hfi] at hun
  obtain ⟨e0, e1, e2, e3, e4, e5⟩ := hE
  rw [if_neg (by omega)] at e4 e3
  rw [decide_eq_false (by omega)] at e1
  have ht := c_takeBeat hb e2 (by omega) c rr
  -- after the beat
  let ψ := uI (uI (uL φ (y + 1) e.got c) (y + 2) e.got rr) y 3 (nI (e.got + 1))
  have fψ : Fr y (y + 3) φ (uI (uI (uL φ (y + 1) e.got c) (y + 2) e.got rr) y 3 (nI (e.got + 1))) := by repeat (first | exact Fr.refl _ _ _ | refine fr_uI ?_ (by omega) _ _ | refine fr_uL ?_ (by omega) _ _)
  have p0 : ψ.2.1 y 0 = e.con := by show (uI (uI (uL φ (y + 1) e.got c) (y + 2) e.got rr) y 3 (nI (e.got + 1))).2.1 y 0 = _; simp (disch := first | assumption | omega) only [uI_1, uI_2, uI_3, uL_1, uL_2, uL_3, vz_at, Nat.add_left_cancel_iff, Nat.reduceEqDiff, if_false, zr1, zr2]; exact e0
  have p3 : ψ.1 y 3 = nI (e.got + 1) := by show (uI _ y 3 _).1 y 3 = _; rw [uI_s, vz_same]
  have pI : ∀ k, k ≠ 3 → ψ.1 y k = φ.1 y k := by
    intro k hk
    show (uI (uI (uL φ (y + 1) e.got c) (y + 2) e.got rr) y 3 (nI (e.got + 1))).1 y k = _
    simp (disch := first | assumption | omega) only [uI_1, uI_2, uI_3, uL_1, uL_2, uL_3, vz_at, Nat.add_left_cancel_iff, Nat.reduceEqDiff, if_false, zr1, zr2, if_true]
    rw [if_neg hk]
  have pd : ∀ j, j < e.got + 1 → ψ.2.1 (y + 1) j = (e.beat c rr).dat j ∧ ψ.1 (y + 2) j = (e.beat c rr).rst j := by
    intro j hj
    show (uI (uI (uL φ (y + 1) e.got c) (y + 2) e.got rr) y 3 (nI (e.got + 1))).2.1 (y + 1) j = va_up e.dat e.got c j ∧ (uI (uI (uL φ (y + 1) e.got c) (y + 2) e.got rr) y 3 (nI (e.got + 1))).1 (y + 2) j = va_up e.rst e.got rr j
    simp (disch := first | assumption | omega) only [uI_1, uI_2, uI_3, uL_1, uL_2, uL_3, vz_at, Nat.add_left_cancel_iff, Nat.reduceEqDiff, if_false, zr1, zr2, if_true]
    by_cases hje : j = e.got
    · rw [if_pos hje, if_pos hje, if_pos hje, if_pos hje]; exact ⟨rfl, rfl⟩
    · rw [if_neg hje, if_neg hje, if_neg hje, if_neg hje]; exact e5 j (by omega)
  have hpre : ∀ r : Option Nat × ph_T, f_Slave_takeBeat Γ φ (some y) (some ap) (nI S.time) = some r → f_Slave_pass Γ φ a (some ap) (nI 1) (nI S.time) = (f_Slave_doWrite Γ r.2 a r.1).bind fun q => some ((), q.2) := by
    intro r hr
    unfold f_Slave_pass f_Slave_pass_L125
    rw [if_neg (by decide), if_pos (by decide), if_pos h.o, h.f2, Option.bind_some, if_pos hl.c.o, hun, Option.bind_some]
    simp only [oI, c_Lat hl he hy, Option.bind_some, hr]
  have hψ3 : (uI (uI (uL φ (y + 1) e.got c) (y + 2) e.got rr) y 3 (nI (e.got + 1))).1 y 3 = nI (e.got + 1) := p3
  have hψ0 : (uI (uI (uL φ (y + 1) e.got c) (y + 2) e.got rr) y 3 (nI (e.got + 1))).2.1 y 0 = e.con := p0
  by_cases hlast : e.got + 1 = leN e.con
  · -- the write is complete
    have htb : f_Slave_takeBeat Γ φ (some y) (some ap) (nI S.time) = some (some y, uI (uI ψ y 2 (nI 1)) y 4 (nI S.time)) := by
      unfold f_Slave_takeBeat
      rw [if_neg (by simp), Option.bind_some, if_pos hp.o]
      simp (disch := first | assumption | omega) only [hp.f3, hp.g3, hp.f4, hp.g4, Option.bind_some, zI_lit, zix, w3, w4, hb.o, if_true, ht, hψ0, e_Burst_lengthOf, hψ3, zI_le]
      rw [if_pos (by omega), if_pos (by decide)]
    have f1 : Fr y (y + 3) φ (uI (uI ψ y 2 (nI 1)) y 4 (nI S.time)) := fψ.trans (by repeat (first | exact Fr.refl _ _ _ | refine fr_uI ?_ (by omega) _ _))
    have hE1 : EWe (uI (uI ψ y 2 (nI 1)) y 4 (nI S.time)) y ((((e.beat c rr)).w_since (S.time)).w_resp (0)) := by
      refine ⟨p0, ?_, ?_, ?_, ?_, ?_⟩
      · rw [uI_s, vz_ne _ (by decide), uI_s, vz_same]
        show nI 1 = bI (decide (e.got + 1 = leN e.con))
        rw [decide_eq_true hlast]; rfl
      · rw [uI_s, vz_ne _ (by decide), uI_s, vz_ne _ (by decide)]; exact p3
      · rw [uI_s, vz_same]
        show nI S.time = if e.got + 1 = leN e.con then nI S.time else m1
        rw [if_pos hlast]
      · rw [uI_s, vz_ne _ (by decide), uI_s, vz_ne _ (by decide), pI 5 (by decide), e4]
        show nI 0 = if e.got + 1 = leN e.con then nI 0 else nI 0
        rw [if_pos hlast]
      · intro j hj
        rw [uI_d (show y + 2 ≠ y by omega), uI_d (show y + 2 ≠ y by omega)]
        exact pd j hj
    have hl1 := hl.upd hy f1 (hb.up rfl) hE1
    have hil := (List.getElem?_eq_some_iff.mp he).1
    have h1 : CSl Γ (uI (uI ψ y 2 (nI 1)) y 4 (nI S.time)) a am (S.w_sw (va_up S.sw s ((S.sw s).set i ((((e.beat c rr)).w_since (S.time)).w_resp (0))))) s := by
      refine h.setW (f1.mono (by omega) (by omega)) (l := l) ?_ rfl rfl rfl rfl rfl (fun i hi => hi) (fun i hi => hi) rfl
      show CL Γ _ (a + 2) 4 EWe l (va_up S.sw s _ s)
      rw [vz_same]
      exact hl1
    have hsw : (S.w_sw (va_up S.sw s ((S.sw s).set i ((((e.beat c rr)).w_since (S.time)).w_resp (0))))).sw s = (S.sw s).set i ((((e.beat c rr)).w_since (S.time)).w_resp (0)) := by
      show va_up S.sw s _ s = _
      rw [vz_same]
    obtain ⟨φ2, t1, t2, t3, t4⟩ := c_doWrite (i := i) (e := ((((e.beat c rr)).w_since (S.time)).w_resp (0))) (l := l) (y := y) hma h1 (by rw [hsw]; exact hl1) (hm.sm (f1.sm (by omega))) hR hy (by rw [hsw, List.getElem?_set_self hil]) hlast hru rfl
    have hcg := doWrite_cg (S := S) (T := S.w_sw (va_up S.sw s ((S.sw s).set i ((((e.beat c rr)).w_since (S.time)).w_resp (0))))) (s := s) (e := e.beat c rr) (f := ((((e.beat c rr)).w_since (S.time)).w_resp (0))) rfl rfl rfl rfl rfl rfl
    refine ⟨φ2, ?_, ?_, ?_, (f1.toP (fun b h1 h2 => Or.inl (by omega))).trans t4⟩
    · rw [hpre _ htb]
      show (f_Slave_doWrite Γ (uI (uI ψ y 2 (nI 1)) y 4 (nI S.time)) a (some y)).bind _ = _
      rw [t1, Option.bind_some]
    · have hbc : S.bc s i e c rr = (S.doWrite s (e.beat c rr)).1.w_sw (va_up S.sw s ((S.sw s).set i ((((e.beat c rr)).w_since (S.time)).w_resp ((S.doWrite s (e.beat c rr)).2)))) := by unfold XS.bc; rw [if_pos hlast]
      rw [hbc]
      obtain ⟨o1, o2, o3, o4, o5, o6, o7⟩ := doWrite_oth S s (e.beat c rr)
      obtain ⟨v1, v2, v3, v4, v5, v6, v7⟩ := doWrite_oth (S.w_sw (va_up S.sw s ((S.sw s).set i ((((e.beat c rr)).w_since (S.time)).w_resp (0))))) s ((((e.beat c rr)).w_since (S.time)).w_resp (0))
      refine t2.cg ?_ ?_ ?_ ?_ ?_ ?_ ?_ ?_ ?_
      · show va_up S.sw s _ s = va_up (va_up S.sw s _) s _ s
        rw [vz_same, vz_same, hsw, List.set_set, hcg.1]
      · exact (congrFun o1 s).trans (congrFun v1 s).symm
      · exact (congrFun o2 s).trans (congrFun v2 s).symm
      · exact (congrFun hcg.2.2 s).symm
      · exact (congrFun o3 s).trans (congrFun v3 s).symm
      · exact (congrFun o4 s).trans (congrFun v4 s).symm
      · intro j hj
        exact ((congrFun v5 s).trans (congrFun o5 s).symm).trans hj
      · intro j hj
        exact ((congrFun v6 s).trans (congrFun o6 s).symm).trans hj
      · exact (congrFun o7 s).trans (congrFun v7 s).symm
    · have hbc : (S.bc s i e c rr).mem = (S.doWrite s (e.beat c rr)).1.mem := by unfold XS.bc; rw [if_pos hlast]; rfl
      rw [hbc, ← hcg.2.1]
      exact t3
  · have htb : f_Slave_takeBeat Γ φ (some y) (some ap) (nI S.time) = some (none, ψ) := by
      unfold f_Slave_takeBeat
      rw [if_neg (by simp), Option.bind_some, if_pos hp.o]
      simp (disch := first | assumption | omega) only [hp.f3, hp.g3, hp.f4, hp.g4, Option.bind_some, zI_lit, zix, w3, w4, hb.o, if_true, ht, hψ0, e_Burst_lengthOf, hψ3, zI_le]
      rw [if_neg (by omega)]
    have hE1 : EWe ψ y (e.beat c rr) := by
      refine ⟨p0, ?_, p3, ?_, ?_, pd⟩
      · rw [pI 2 (by decide), e1]
        show bI false = bI (decide (e.got + 1 = leN e.con))
        rw [decide_eq_false hlast]
      · rw [pI 4 (by decide), e3]
        show m1 = if e.got + 1 = leN e.con then _ else m1
        rw [if_neg hlast]
      · rw [pI 5 (by decide), e4]
        show nI 0 = if e.got + 1 = leN e.con then _ else nI 0
        rw [if_neg hlast]
    have hl1 := hl.upd hy fψ (hb.up rfl) hE1
    have hbc : S.bc s i e c rr = S.swAt s i (e.beat c rr) := by unfold XS.bc; rw [if_neg hlast]
    rw [hbc]
    refine ⟨ψ, ?_, ?_, hm.sm (fψ.sm (by omega)), fψ.toP (fun b h1 h2 => Or.inl (by omega))⟩
    · rw [hpre _ htb]
      rfl
    · refine h.setW (fψ.mono (by omega) (by omega)) (l := l) ?_ rfl rfl rfl rfl rfl (fun i hi => hi) (fun i hi => hi) rfl
      show CL Γ _ (a + 2) 4 EWe l (va_up S.sw s _ s)
      rw [vz_same]
      exact hl1
