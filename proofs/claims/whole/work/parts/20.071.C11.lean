/-! THE CLASS: slaves tell -/
theorem c_stl158 {Γ : gm_T} {φ : ph_T} {a am ap : Nat} {S : XS} {s : Nat} {x : WI} {hd : Nat → Bool} {tr : Nat → Int32} (hap : ap + 7 ≤ a ∨ a + 32 ≤ ap) (h : CSl Γ φ a am S s) (hp : CPt Γ φ ap x hd tr) (hB : Bd S) (hn : ∀ e ∈ S.sr s, ∀ q, S.lat s = some q → (q.1 < e.since ↔ q.2 < e.num)) :
    ∃ φ', f_Slave_tell_L158 Γ φ a (some ap) (nI S.time) = some ((), φ') ∧ CSl Γ φ' a am (S.w_chr (va_up S.chr s (chRh S s hd))) s ∧ CPt Γ φ' ap (tlR S s hd x) hd tr ∧ FrP (pSl ap a) φ φ' := by
  have h5 := hB.time
  have h6 := hB.spat s 4
  have hh := hp.hd 4 (by omega)
  have hpt := h.pt 4 (by omega)
  unfold f_Slave_tell_L158 tlR chRh
  simp (disch := first | assumption | omega) only [hp.o, if_true, hp.f2, hp.g2, Option.bind_some, zI_lit, zix, hh, bI_eq0, h.o, h.f1, h.g1, hpt, e_isOn, h.f3, ↓zm1]
  cases hd4 : hd 4 with
  | true =>
    simp only [Bool.true_eq_false, if_false, if_true]
    refine ⟨φ, rfl, ?_, hp, FrP.refl _ _⟩
    rw [vz_self, XS.w_chr_self]
    exact h
  | false =>
    simp only [Bool.false_eq_true, if_false, if_true]
    cases ho : on (S.spat s 4) S.time with
    | false =>
      obtain ⟨φ1, r1, r2, r3, r4⟩ := c_stl195 hap h hp hB none (fun i hi => by cases hi)
      exact ⟨φ1, r1, r2, r3, r4⟩
    | true =>
      obtain ⟨φ1, r1, r2, r3, r4⟩ := c_stl195 hap h hp hB (S.chR s) (chR_lt S s)
      refine ⟨φ1, ?_, r2, r3, r4⟩
      simp only [Bool.true_eq_false, if_false, c_chooseR h hB hn, Option.bind_some]
      exact r1
theorem c_stl140 {Γ : gm_T} {φ : ph_T} {a am ap : Nat} {S : XS} {s : Nat} {x : WI} {hd : Nat → Bool} {tr : Nat → Int32} (hap : ap + 7 ≤ a ∨ a + 32 ≤ ap) (h : CSl Γ φ a am S s) (hp : CPt Γ φ ap x hd tr) (hB : Bd S) (o : Option Nat) (ho : ∀ i, o = some i → i < (S.sw s).length) (hg : ∀ i e, o = some i → (S.sw s)[i]? = some e → e.got = leN e.con) :
    ∃ φ', f_Slave_tell_L140 Γ φ a (some ap) (nI S.time) (oI o m1) a = f_Slave_tell_L158 Γ φ' a (some ap) (nI S.time) ∧ CSl Γ φ' a am (S.w_chb (va_up S.chb s o)) s ∧ CPt Γ φ' ap (match o.bind (fun i => (S.sw s)[i]?) with
      | some e => x.snd' 2 (wvB e)
      | none => x) hd tr ∧ FrP (pSl ap a) φ φ' := by
  have h1 := h.setB o
  have f1 : Fr a (a + 1) φ (uI φ a 8 (oI o m1)) := fr_uI (Fr.refl _ _ _) (by omega) _ _
  have fp1 : FrP (pSl ap a) φ (uI φ a 8 (oI o m1)) := f1.toP (fun b hb1 hb2 => by unfold pSl; omega)
  have hp1 : CPt Γ (uI φ a 8 (oI o m1)) ap x hd tr := hp.sm (f1.sm (by omega))
  obtain ⟨l, hl⟩ := h1.sw
  have hl' : CL Γ (uI φ a 8 (oI o m1)) (a + 2) 4 EWe l (S.sw s) := hl
  have e9 : (uI φ a 8 (oI o m1)).1 a 8 = oI o m1 := by rw [uI_s, vz_same]
  unfold f_Slave_tell_L140
  simp only [h.o, if_true, h.f2, Option.bind_some, hl'.c.o, e9]
  cases o with
  | none =>
    simp only [oI, c_Lat_m, Option.bind_some]
    unfold f_Slave_sendAnswer f_Slave_sendAnswer_L25
    exact ⟨_, rfl, h1, hp1, fp1⟩
  | some i =>
    have hi := ho i rfl
    obtain ⟨e, he⟩ : ∃ e, (S.sw s)[i]? = some e := ⟨_, List.getElem?_eq_getElem hi⟩
    obtain ⟨y, hy, hE, hb, _, _, _⟩ := hl'.get he
    obtain ⟨φ2, s1, s2, s3⟩ := c_send hp1 (c := 2) (by omega) 0 (nI (ansR (idN e.con) e.resp false))
    refine ⟨φ2, ?_, h1.sm (s3.sm (by omega)), ?_, fp1.trans (s3.toP (fun b hb1 hb2 => by unfold pSl; omega))⟩
    · have hat : f_Line_at Γ (uI φ a 8 (nI i)) (a + 2) (nI i) = some (some y, uI φ a 8 (nI i)) := c_Lat hl' he hy
      simp only [oI, hat, Option.bind_some]
      unfold f_Slave_sendAnswer f_Slave_sendAnswer_L25
      have e0 : (uI φ a 8 (nI i)).2.1 y 0 = e.con := hE.1
      have e5 : (uI φ a 8 (nI i)).1 y 5 = nI e.resp := by
        have := hE.2.2.2.2.1
        rw [if_pos (hg i e rfl he)] at this
        exact this
      have har : f_Bus_answerRest Γ (uI φ a 8 (nI i)) (nI (idN e.con)) (nI e.resp) (0 : Int32) = some (nI (ansR (idN e.con) e.resp false), uI φ a 8 (nI i)) := e_answerRest Γ _ _ _ false
      have s1' : f_Port_send Γ (uI φ a 8 (nI i)) ap (2 : Int32) (0 : Int64) (nI (ansR (idN e.con) e.resp false)) = some ((), φ2) := s1
      simp only [reduceCtorEq, if_false, Option.bind_some, hb.o, if_true, e0, e5, e_Burst_idOf, har, hp.o, s1']
    · rw [Option.bind_some, he]
      exact s2
theorem chW_got {S : XS} {s i : Nat} {e : WE} (h : S.chW s = some i) (he : (S.sw s)[i]? = some e) : e.got = leN e.con := by
  have := lstN_p h
  unfold XS.canW at this
  rw [he] at this
  simp only [XS.ripeW, Bool.and_eq_true, decide_eq_true_eq] at this
  exact this.1.1
/-- writes answered, then reads -/
theorem c_stlBR {Γ : gm_T} {φ : ph_T} {a am ap : Nat} {S : XS} {s : Nat} {x : WI} {hd : Nat → Bool} {tr : Nat → Int32} (hap : ap + 7 ≤ a ∨ a + 32 ≤ ap) (h : CSl Γ φ a am S s) (hp : CPt Γ φ ap x hd tr) (hB : Bd S) (hn : ∀ e ∈ S.sr s, ∀ q, S.lat s = some q → (q.1 < e.since ↔ q.2 < e.num)) (b : Bool) :
    ∃ φ', f_Slave_tell_L102 Γ φ a (some ap) (nI S.time) (bI b) (nI 3) (some (ap + 2)) = some ((), φ') ∧ CSl Γ φ' a am ((S.w_chb (va_up S.chb s (chBh S s hd))).w_chr (va_up S.chr s (chRh S s hd))) s ∧ CPt Γ φ' ap (tlR S s hd (tlB S s hd (x.rdy 3 b))) hd tr ∧ FrP (pSl ap a) φ φ' := by
  obtain ⟨hp1, f1⟩ := c_rdy hp (c := 3) (by omega) b
  have h1 : CSl Γ (uI φ (ap + 2) 3 (bI b)) a am S s := h.sm (f1.sm (by omega))
  have fp1 : FrP (pSl ap a) φ (uI φ (ap + 2) 3 (bI b)) := f1.toP (fun b hb1 hb2 => by unfold pSl; omega)
  have h5 := hB.time
  have h6 := hB.spat s 2
  have hh := hp1.hd 2 (by omega)
  have hpt := h1.pt 2 (by omega)
  unfold f_Slave_tell_L102
  simp (disch := first | assumption | omega) only [Option.bind_some, hp.g1, zix, bI_ok2, if_true, hp.o, hp.f2, hp.g2, zI_lit, hh, bI_eq0, h.o, h.f1, h.g1, hpt, e_isOn, ↓zm1]
  have hf2' : (uI φ (ap + 2) 3 (bI b)).2.2 a 2 = some (a + 2) := h.f2
  cases hd2 : hd 2 with
  | true =>
    simp only [Bool.true_eq_false, if_false]
    obtain ⟨φ2, r1, r2, r3, r4⟩ := c_stl158 hap h1 hp1 hB hn
    refine ⟨φ2, r1, ?_, ?_, fp1.trans r4⟩
    · have e : chBh S s hd = S.chb s := by unfold chBh; rw [hd2, if_pos rfl]
      rw [e, vz_self, XS.w_chb_self]
      exact r2
    · have e : tlB S s hd (x.rdy 3 b) = x.rdy 3 b := by unfold tlB; rw [hd2, if_pos rfl]
      rw [e]
      exact r3
  | false =>
    have hBS : ∀ o, Bd (S.w_chb (va_up S.chb s o)) := fun o => ⟨hB.nm, hB.ns, hB.lim, hB.pol, hB.time, hB.db, hB.moved, hB.pages, hB.mpat, hB.spat, hB.delay, hB.way, hB.mem, hB.sw, hB.sr, hB.rnum, hB.lat, hB.uw, hB.ur, hB.la, hB.lr, hB.lb, hB.lg, hB.rgt, hB.rowT, hB.tk⟩
    simp only [if_true]
    cases ho : on (S.spat s 2) S.time with
    | false =>
      have e1 : chBh S s hd = none := by unfold chBh; rw [hd2, ho]; rfl
      have e2 : tlB S s hd (x.rdy 3 b) = x.rdy 3 b := by unfold tlB; rw [hd2, e1]; rfl
      obtain ⟨φ2, r1, r2, r3, r4⟩ := c_stl140 hap h1 hp1 hB none (fun i hi => by cases hi) (fun i e hi => by cases hi)
      obtain ⟨φ3, t1, t2, t3, t4⟩ := c_stl158 hap r2 r3 (hBS none) hn
      refine ⟨φ3, ?_, ?_, ?_, fp1.trans (r4.trans t4)⟩
      · simp only [if_true]
        exact r1.trans t1
      · rw [e1]; exact t2
      · rw [e2]; exact t3
    | true =>
      have e1 : chBh S s hd = S.chW s := by unfold chBh; rw [hd2, ho]; rfl
      obtain ⟨φ2, r1, r2, r3, r4⟩ := c_stl140 hap h1 hp1 hB (S.chW s) (chW_lt S s) (fun i e hi he => chW_got hi he)
      obtain ⟨φ3, t1, t2, t3, t4⟩ := c_stl158 hap r2 r3 (hBS _) hn
      refine ⟨φ3, ?_, ?_, ?_, fp1.trans (r4.trans t4)⟩
      · simp only [Bool.true_eq_false, if_false, hf2', c_chooseW h1 hB, Option.bind_some]
        exact r1.trans t1
      · rw [e1]; exact t2
      · have e2 : tlB S s hd (x.rdy 3 b) = (match (S.chW s).bind (fun i => (S.sw s)[i]?) with
          | some e => (x.rdy 3 b).snd' 2 (wvB e)
          | none => x.rdy 3 b) := by unfold tlB; rw [hd2, e1]; rfl
        rw [e2]; exact t3
def tlS (S : XS) (s : Nat) (hd : Nat → Bool) (x : WI) : WI := tlR S s hd (tlB S s hd (((x.rdy 0 (on (S.spat s 0) S.time && decide ((S.sw s).length < 4))).rdy 1 (on (S.spat s 1) S.time && lacks (S.sw s))).rdy 3 (on (S.spat s 3) S.time && decide ((S.sr s).length < 4))))
theorem c_stell {Γ : gm_T} {φ : ph_T} {a am ap : Nat} {S : XS} {s : Nat} {x : WI} {hd : Nat → Bool} {tr : Nat → Int32} (hap : ap + 7 ≤ a ∨ a + 32 ≤ ap) (h : CSl Γ φ a am S s) (hp : CPt Γ φ ap x hd tr) (hB : Bd S) (hn : ∀ e ∈ S.sr s, ∀ q, S.lat s = some q → (q.1 < e.since ↔ q.2 < e.num)) :
    ∃ φ', f_Slave_tell Γ φ a (some ap) (nI S.time) = some ((), φ') ∧ CSl Γ φ' a am ((S.w_chb (va_up S.chb s (chBh S s hd))).w_chr (va_up S.chr s (chRh S s hd))) s ∧ CPt Γ φ' ap (tlS S s hd x) hd tr ∧ FrP (pSl ap a) φ φ' := by
  have h5 := hB.time
  have hs0 := hB.spat s 0
  have hs1 := hB.spat s 1
  have hs3 := hB.spat s 3
  have hpA := h.pt 0 (by omega)
  -- the last: AR
  have K3 : ∀ (φ1 : ph_T) (x1 : WI) (b : Bool), CSl Γ φ1 a am S s → CPt Γ φ1 ap x1 hd tr → ∃ φ', f_Slave_tell_L68 Γ φ1 a (some ap) (nI S.time) (bI b) (nI 1) (some (ap + 2)) = some ((), φ') ∧ CSl Γ φ' a am ((S.w_chb (va_up S.chb s (chBh S s hd))).w_chr (va_up S.chr s (chRh S s hd))) s ∧ CPt Γ φ' ap (tlR S s hd (tlB S s hd ((x1.rdy 1 b).rdy 3 (on (S.spat s 3) S.time && decide ((S.sr s).length < 4))))) hd tr ∧ FrP (pSl ap a) φ1 φ' := by
    intro φ1 x1 b g1 q1
    obtain ⟨hp2, f2⟩ := c_rdy q1 (c := 1) (by omega) b
    have h2 : CSl Γ (uI φ1 (ap + 2) 1 (bI b)) a am S s := g1.sm (f2.sm (by omega))
    have fp2 : FrP (pSl ap a) φ1 (uI φ1 (ap + 2) 1 (bI b)) := f2.toP (fun b hb1 hb2 => by unfold pSl; omega)
    obtain ⟨l, hl⟩ := h2.sr
    have hpt := h2.pt 3 (by omega)
    obtain ⟨φ3, r1, r2, r3, r4⟩ := c_stlBR hap h2 hp2 hB hn (on (S.spat s 3) S.time && decide ((S.sr s).length < 4))
    refine ⟨φ3, ?_, r2, r3, fp2.trans r4⟩
    have f1' : (uI φ1 (ap + 2) 1 (bI b)).2.2 a 3 = some (a + 16) := h2.f3
    unfold f_Slave_tell_L68 f_Slave_tell_L101
    simp (disch := first | assumption | omega) only [Option.bind_some, q1.g1, zix, bI_ok2, if_true, q1.o, q1.f1, zI_lit, bI_eq0, g1.o, g1.f1, g1.g1, hpt, e_isOn, f1', hl.c.o, c_LhasRoom hl]
    cases ho : on (S.spat s 3) S.time with
    | false =>
      rw [ho] at r1
      simp only [if_true]
      exact r1
    | true =>
      rw [ho] at r1
      simp only [Bool.true_eq_false, if_false]
      cases hr : decide ((S.sr s).length < 4) with
      | false => rw [hr] at r1; simp only [if_true]; exact r1
      | true => rw [hr] at r1; simp only [Bool.true_eq_false, if_false]; exact r1
  -- W
  have K1 : ∀ (φ1 : ph_T) (x1 : WI) (b : Bool), CSl Γ φ1 a am S s → CPt Γ φ1 ap x1 hd tr → ∃ φ', f_Slave_tell_L33 Γ φ1 a (some ap) (nI S.time) (bI b) (nI 0) (some (ap + 2)) = some ((), φ') ∧ CSl Γ φ' a am ((S.w_chb (va_up S.chb s (chBh S s hd))).w_chr (va_up S.chr s (chRh S s hd))) s ∧ CPt Γ φ' ap (tlR S s hd (tlB S s hd (((x1.rdy 0 b).rdy 1 (on (S.spat s 1) S.time && lacks (S.sw s))).rdy 3 (on (S.spat s 3) S.time && decide ((S.sr s).length < 4))))) hd tr ∧ FrP (pSl ap a) φ1 φ' := by
    intro φ1 x1 b g1 q1
    obtain ⟨hp2, f2⟩ := c_rdy q1 (c := 0) (by omega) b
    have h2 : CSl Γ (uI φ1 (ap + 2) 0 (bI b)) a am S s := g1.sm (f2.sm (by omega))
    have fp2 : FrP (pSl ap a) φ1 (uI φ1 (ap + 2) 0 (bI b)) := f2.toP (fun b hb1 hb2 => by unfold pSl; omega)
    obtain ⟨l, hl⟩ := h2.sw
    have hle := hl.c.le
    have hpt := h2.pt 1 (by omega)
    obtain ⟨φ3, r1, r2, r3, r4⟩ := K3 _ _ (on (S.spat s 1) S.time && lacks (S.sw s)) h2 hp2
    refine ⟨φ3, ?_, r2, r3, fp2.trans r4⟩
    have f1' : (uI φ1 (ap + 2) 0 (bI b)).2.2 a 2 = some (a + 2) := h2.f2
    have hun := c_LunE hl (fun e => decide (e.got = leN e.con)) (fun x e he => he.2.1)
    have hla : (oI ((S.sw s).findIdx? (fun e => !decide (e.got = leN e.con))) m1 = m1) ↔ lacks (S.sw s) = false := by
      unfold lacks
      rw [List.any_eq_false]
      cases hc : (S.sw s).findIdx? (fun e => !decide (e.got = leN e.con)) with
      | none =>
        simp only [oI, true_iff]
        intro e he
        have := List.findIdx?_eq_none_iff.mp hc e he
        simp at this ⊢
        omega
      | some j =>
        obtain ⟨e, he, _, hpe⟩ := fi_some hc
        have hj := (List.getElem?_eq_some_iff.mp he).1
        simp only [oI]
        rw [zI_ne_m (by omega)]
        simp only [false_iff]
        intro hall
        have := hall e (lmem he)
        have h2 := (hB.sw s e (lmem he)).2.1
        simp at this hpe
        omega
    unfold f_Slave_tell_L33 f_Slave_tell_L67
    simp (disch := first | assumption | omega) only [Option.bind_some, q1.g1, zix, bI_ok2, if_true, q1.o, q1.f1, zI_lit, bI_eq0, g1.o, g1.f1, g1.g1, hpt, e_isOn, f1', hl.c.o, hun, ↓zm1, hla]
    cases ho : on (S.spat s 1) S.time with
    | false =>
      rw [ho] at r1
      simp only [if_true]
      exact r1
    | true =>
      rw [ho] at r1
      simp only [Bool.true_eq_false, if_false]
      cases hr : lacks (S.sw s) with
      | false => rw [hr] at r1; simp only [if_true]; exact r1
      | true => rw [hr] at r1; simp only [Bool.true_eq_false, if_false]; exact r1
  obtain ⟨l, hl⟩ := h.sw
  obtain ⟨φ3, r1, r2, r3, r4⟩ := K1 φ x (on (S.spat s 0) S.time && decide ((S.sw s).length < 4)) h hp
  refine ⟨φ3, ?_, r2, r3, r4⟩
  unfold f_Slave_tell f_Slave_tell_L32
  simp (disch := first | assumption | omega) only [Option.bind_some, zix, if_true, hp.o, hp.f1, zI_lit, bI_eq0, h.o, h.f1, h.g1, hpA, e_isOn, h.f2, hl.c.o, c_LhasRoom hl]
  cases ho : on (S.spat s 0) S.time with
  | false =>
    rw [ho] at r1
    simp only [if_true]
    exact r1
  | true =>
    rw [ho] at r1
    simp only [Bool.true_eq_false, if_false]
    cases hr : decide ((S.sw s).length < 4) with
    | false => rw [hr] at r1; simp only [if_true]; exact r1
    | true => rw [hr] at r1; simp only [Bool.true_eq_false, if_false]; exact r1
