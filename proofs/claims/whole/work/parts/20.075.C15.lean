/-! THE CLASS: slaves take a write's beat -/
theorem c_hasRight {Γ : gm_T} {φ : ph_T} {a am : Nat} {S : XS} {s : Nat} (h : CSl Γ φ a am S s) (hR : ∀ j q, S.rgt s j = some q → q.1 < 65536 ∧ q.2 < 129) (c : Int64) : f_Slave_hasRight Γ φ a c = some (bI (decide (S.rgt s (idN c) = some (adN c, leN c * szN c))), φ) := by
  have hid := idN_lt c
  have had := adN_lt c
  have hle := leN_le c
  have hsz := szN_le c
  have hmul : leN c * szN c ≤ 16 * 8 := Nat.mul_le_mul hle hsz
  obtain ⟨g1, g2⟩ := h.rg (idN c) hid
  cases hq : S.rgt s (idN c) with
  | none =>
    have e1' : φ.1 (a + 30) (idN c) = m1 := by rw [g1, hq]; rfl
    unfold f_Slave_hasRight f_Slave_hasRight_L35 f_Slave_hasRight_L36
    simp (disch := first | assumption | omega) only [e_Burst_idOf, Option.bind_some, h.o, if_true, h.f4, h.f5, h.g4, h.g5, zix, e_Burst_addressOf, e_rangeOf, e1', zI_m_ne, if_false]
    simp [bI_f]; rfl
  | some q =>
    obtain ⟨b1, b2⟩ := hR (idN c) q hq
    have e1' : φ.1 (a + 30) (idN c) = nI q.1 := by rw [g1, hq]; rfl
    have e2' := g2 q hq
    unfold f_Slave_hasRight f_Slave_hasRight_L35 f_Slave_hasRight_L36
    simp (disch := first | assumption | omega) only [e_Burst_idOf, Option.bind_some, h.o, if_true, h.f4, h.f5, h.g4, h.g5, zix, e_Burst_addressOf, e_rangeOf, e1', e2', zI_eq]
    by_cases e1 : q.1 = adN c
    · rw [if_pos e1]
      by_cases e2 : q.2 = leN c * szN c
      · rw [if_pos e2, if_pos (by decide)]
        have : q = (adN c, leN c * szN c) := Prod.ext e1 e2
        simp [this, bI_t]; rfl
      · rw [if_neg e2, if_pos (by decide)]
        have : ¬ q = (adN c, leN c * szN c) := fun hh => e2 (by rw [hh])
        simp [this, bI_f]; rfl
    · rw [if_neg e1, if_pos (by decide)]
      have : ¬ q = (adN c, leN c * szN c) := fun hh => e1 (by rw [hh])
      simp [this, bI_f]; rfl
theorem bI_eqz (b : Bool) : (bI b = 0) ↔ b = false := bI_eq0 b
def pMg (a am : Nat) (b : Nat) : Prop := (am ≤ b ∧ b < am + 3) ∨ b = a + 30
theorem CSl.setGP {Γ : gm_T} {φ φ' : ph_T} {a am : Nat} {S T : XS} {s : Nat} (hma : am + 3 ≤ a ∨ a + 32 ≤ am) (h : CSl Γ φ a am S s) (f : FrP (pMg a am) φ φ') (hg : Rg φ' a (T.rgt s)) (e1 : T.sw s = S.sw s) (e2 : T.sr s = S.sr s) (e3 : T.spat s = S.spat s) (e5 : T.delay s = S.delay s) (e6 : T.way s = S.way s) (e7 : T.chb s = S.chb s) (e8 : T.chr s = S.chr s) (e9 : T.lat s = S.lat s) : CSl Γ φ' a am T s := by
  have f1 : Sm a (a + 30) φ φ' := f.sm (fun b h1 h2 => by unfold pMg; omega)
  refine ⟨h.o, ?_, ?_, ?_, ?_, ?_, ?_, h.g1, h.g4, h.g5, ?_, ?_, ?_, hg, ?_, ?_, ?_, ?_, ?_⟩
  · rw [f1.r (by omega) (by omega)]; exact h.f0
  · rw [f1.r (by omega) (by omega)]; exact h.f1
  · rw [f1.r (by omega) (by omega)]; exact h.f2
  · rw [f1.r (by omega) (by omega)]; exact h.f3
  · rw [f1.r (by omega) (by omega)]; exact h.f4
  · rw [f1.r (by omega) (by omega)]; exact h.f5
  · rw [e1]; obtain ⟨l, hl⟩ := h.sw; exact ⟨l, hl.sm (f1.mono (by omega) (by omega))⟩
  · rw [e2]; obtain ⟨l, hl⟩ := h.sr; exact ⟨l, hl.sm (f1.mono (by omega) (by omega))⟩
  · rw [f1.i (by omega) (by omega), e3]; exact h.pt
  · rw [f1.i (by omega) (by omega), e5]; exact h.dl
  · rw [f1.i (by omega) (by omega), e6]; exact h.wy
  · rw [f1.i (by omega) (by omega), e7]; exact h.cb
  · rw [f1.i (by omega) (by omega), e8]; exact h.cr
  · rw [f1.i (by omega) (by omega), e9]; exact h.lt
/-- the answer is set -/
theorem CSl.setA {Γ : gm_T} {φ : ph_T} {a am y : Nat} {S : XS} {s i : Nat} {e : WE} {l : List Nat} (h : CSl Γ φ a am S s) (hl : CL Γ φ (a + 2) 4 EWe l (S.sw s)) (hy : l[i]? = some y) (he : (S.sw s)[i]? = some e) (hg : e.got = leN e.con) (v : Nat) :
    CSl Γ (uI φ y 5 (nI v)) a am (S.w_sw (va_up S.sw s ((S.sw s).set i (e.w_resp (v))))) s ∧ Fr y (y + 3) φ (uI φ y 5 (nI v)) := by
  obtain ⟨y', hy', hE, hb, u1, u2, _⟩ := hl.get he
  rw [hy] at hy'
  cases hy'
  have f : Fr y (y + 3) φ (uI φ y 5 (nI v)) := fr_uI (Fr.refl _ _ _) (by omega) _ _
  have hE' : EWe (uI φ y 5 (nI v)) y (e.w_resp (v)) := by
    obtain ⟨e0, e1, e2, e3, e4, e5⟩ := hE
    refine ⟨e0, ?_, ?_, ?_, ?_, ?_⟩
    · rw [uI_s, vz_ne _ (by decide)]; exact e1
    · rw [uI_s, vz_ne _ (by decide)]; exact e2
    · rw [uI_s, vz_ne _ (by decide)]; exact e3
    · rw [uI_s, vz_same]
      show nI v = if e.got = leN e.con then nI v else nI 0
      rw [if_pos hg]
    · intro j hj
      rw [uI_d (show y + 2 ≠ y by omega)]
      exact e5 j hj
  refine ⟨?_, f⟩
  refine h.setW (f.mono (by omega) (by omega)) (l := l) ?_ rfl rfl rfl rfl rfl (fun i hi => hi) (fun i hi => hi) rfl
  show CL Γ _ (a + 2) 4 EWe l (va_up S.sw s _ s)
  rw [vz_same]
  exact hl.upd hy f (hb.up rfl) hE'
theorem c_doWrite {Γ : gm_T} {φ : ph_T} {a am y : Nat} {S : XS} {s i : Nat} {e : WE} {l : List Nat} (hma : am + 3 ≤ a ∨ a + 32 ≤ am) (h : CSl Γ φ a am S s) (hl : CL Γ φ (a + 2) 4 EWe l (S.sw s)) (hm : CMem Γ φ am S.mem S.spo) (hR : ∀ j q, S.rgt s j = some q → q.1 < 65536 ∧ q.2 < 129) (hy : l[i]? = some y) (he : (S.sw s)[i]? = some e) (hg : e.got = leN e.con) (hru : ruN e.con = 0) (hz : e.resp = 0) :
    ∃ φ', f_Slave_doWrite Γ φ a (some y) = some ((), φ') ∧ CSl Γ φ' a am ((S.doWrite s e).1.w_sw (va_up S.sw s ((S.sw s).set i (e.w_resp ((S.doWrite s e).2))))) s ∧ CMem Γ φ' am (S.doWrite s e).1.mem S.spo ∧ FrP (fun b => (a ≤ b ∧ b < a + 32) ∨ (am ≤ b ∧ b < am + 3)) φ φ' := by
  obtain ⟨y', hy', hE, hb, u1, u2, _⟩ := hl.get he
  rw [hy] at hy'
  cases hy'
  have hid := idN_lt e.con
  have hex := exN_lt e.con
  -- the right that an exclusive write uses up
  have hEx : ∃ φ1, Fr (a + 30) (a + 31) φ φ1 ∧ φ1.2.2 = φ.2.2 ∧ Rg φ1 a (gEx S s e) ∧ ∀ al : Bool, f_Slave_doWrite_L33 Γ φ a (some y) (nI (exN e.con)) (bI al) = f_Slave_doWrite_L51 Γ φ1 a (some y) (nI (exN e.con)) (bI al) := by
    by_cases hx : exN e.con = 1
    · refine ⟨uI φ (a + 30) (idN e.con) m1, fr_uI (Fr.refl _ _ _) (by omega) _ _, rfl, ?_, ?_⟩
      · intro j hj
        obtain ⟨g1, g2⟩ := h.rg j hj
        unfold gEx
        rw [if_pos hx]
        simp (disch := first | assumption | omega) only [uI_1, uI_2, uI_3, uL_1, uL_2, uL_3, vz_at, Nat.add_left_cancel_iff, Nat.reduceEqDiff, if_false, zr1, zr2, if_true]
        by_cases ej : j = idN e.con
        · rw [if_pos ej, if_pos ej]; exact ⟨rfl, fun q hq => by cases hq⟩
        · rw [if_neg ej, if_neg ej]; exact ⟨g1, g2⟩
      · intro al
        unfold f_Slave_doWrite_L33
        rw [hx, if_neg (by decide), if_pos h.o, Option.bind_some, if_pos hb.o]
        simp (disch := first | assumption | omega) only [hE.1, e_Burst_idOf, Option.bind_some, h.f4, h.g4, zix]
        rfl
    · refine ⟨φ, Fr.refl _ _ _, rfl, ?_, ?_⟩
      · unfold gEx
        rw [if_neg hx]
        exact h.rg
      · intro al
        unfold f_Slave_doWrite_L33
        rw [if_pos (by rw [show exN e.con = 0 by omega]; rfl)]
  obtain ⟨φ1, k1, k2, k3, k4⟩ := hEx
  have hbG : ∀ j q, gEx S s e j = some q → q.1 < 65536 ∧ q.2 < 129 := by
    intro j q hq
    unfold gEx at hq
    split at hq
    · rw [vz_at] at hq
      split at hq
      · cases hq
      · exact hR j q hq
    · exact hR j q hq
  have k1p : FrP (pMg a am) φ φ1 := k1.toP (fun b h1 h2 => by unfold pMg; omega)
  have hm1 : CMem Γ φ1 am S.mem S.spo := hm.sm (k1.sm (by omega))
  have hb1 : CBl Γ φ1 y := hb.up (by rw [k2])
  have hE1 : EWe φ1 y e := EWe_loc φ φ1 y e (k1.sm (by omega)) hE
  have hf0 : φ1.2.2 a 0 = some am := by rw [k2]; exact h.f0
  have hf4 : φ1.2.2 a 4 = some (a + 30) := by rw [k2]; exact h.f4
  have hf5 : φ1.2.2 a 5 = some (a + 31) := by rw [k2]; exact h.f5
  have h1 : CSl Γ φ1 a am (S.w_rgt (va_up S.rgt s (gEx S s e))) s := by
    refine h.setGP hma k1p ?_ rfl rfl rfl rfl rfl rfl rfl rfl
    show Rg φ1 a (va_up S.rgt s _ s)
    rw [vz_same]
    exact k3
  have hl1 : CL Γ φ1 (a + 2) 4 EWe l (S.sw s) := hl.sm (k1.sm (by omega))
  have k1q : FrP (fun b => (a ≤ b ∧ b < a + 32) ∨ (am ≤ b ∧ b < am + 3)) φ φ1 := k1.toP (fun b h1 h2 => Or.inl (by omega))
  -- what comes then
  have K : ∀ al : Bool, al = (decide (exN e.con ≠ 1) || decide (S.rgt s (idN e.con) = some (adN e.con, leN e.con * szN e.con))) → ∃ φ', f_Slave_doWrite_L51 Γ φ1 a (some y) (nI (exN e.con)) (bI al) = some ((), φ') ∧ CSl Γ φ' a am ((S.doWrite s e).1.w_sw (va_up S.sw s ((S.sw s).set i (e.w_resp ((S.doWrite s e).2))))) s ∧ CMem Γ φ' am (S.doWrite s e).1.mem S.spo ∧ FrP (fun b => (a ≤ b ∧ b < a + 32) ∨ (am ≤ b ∧ b < am + 3)) φ1 φ' := by
    intro al hal
    have hsp := c_spoilt hru hg h.o hf0 hb1 hE1.1 hE1.2.2.1 hE1.2.2.2.2.2 hm1
    unfold f_Slave_doWrite_L51 f_Slave_doWrite_L86 f_Slave_doWrite_L89
    rw [if_pos h.o, hsp, Option.bind_some]
    simp only [bI_eqz]
    rw [doWrite_st]
    cases hbad : badW S.spo e with
    | true =>
      simp only [Bool.true_eq_false, if_false, if_true, Option.bind_some, hb.o]
      obtain ⟨r1, r2⟩ := h1.setA hl1 hy he hg 2
      exact ⟨_, rfl, r1, hm1.sm (r2.sm (by omega)), r2.toP (fun b h1 h2 => Or.inl (by omega))⟩
    | false =>
      simp only [if_true, Bool.false_eq_true, if_false]
      by_cases hno : exN e.con = 1 ∧ decide (S.rgt s (idN e.con) = some (adN e.con, leN e.con * szN e.con)) = false
      · have hal' : al = false := by simp only [hal, hno.1, hno.2]; rfl
        rw [if_pos hno, hal']
        simp only [if_true]
        refine ⟨φ1, rfl, ?_, hm1, FrP.refl _ _⟩
        have hset : (S.sw s).set i (e.w_resp (0)) = S.sw s := by
          have e0 : ((e.w_resp (0)) : WE) = e := by rw [← hz]
          rw [e0]
          obtain ⟨hi, hei⟩ := List.getElem?_eq_some_iff.mp he
          rw [← hei]
          exact List.set_getElem_self hi
        refine h1.cg ?_ rfl rfl rfl rfl rfl (fun i hi => hi) (fun i hi => hi) rfl
        show va_up S.sw s _ s = S.sw s
        rw [vz_same, hset]
      · have hal' : al = true := by
          rw [hal]
          by_cases hx : exN e.con = 1
          · have : ¬ decide (S.rgt s (idN e.con) = some (adN e.con, leN e.con * szN e.con)) = false := fun hh => hno ⟨hx, hh⟩
            simp at this
            simp [this]
          · simp [hx]
        rw [if_neg hno, hal', if_neg (by decide)]
        obtain ⟨φ3, t1, t2, t3, t4⟩ := c_store_L (mem := S.mem) (spo := S.spo) (g := gEx S s e) hru hg h.o h.g4 h.g5 hbG hma (show a + 4 ≤ y by omega) (show y + 3 ≤ a + 16 by omega) (leN e.con) 0 jF φ1 (by omega) (by have := leN_le e.con; unfold jF; omega) hf0 hf4 hf5 hb1 hE1.1 hE1.2.2.1 hE1.2.2.2.2.2 hm1 k3
        have t2p : FrP (pMg a am) φ1 φ3 := t2
        have h3 : CSl Γ φ3 a am (S.mr (stN e (leN e.con) S.mem) (va_up S.rgt s (rgN e (leN e.con) (gEx S s e)))) s := by
          refine h1.setGP hma t2p ?_ rfl rfl rfl rfl rfl rfl rfl rfl
          show Rg φ3 a (va_up S.rgt s _ s)
          rw [vz_same]
          exact t4
        have hl3 : CL Γ φ3 (a + 2) 4 EWe l (S.sw s) := hl1.sm (t2p.sm (fun b h1 h2 => by unfold pMg; omega))
        have t2q : FrP (fun b => (a ≤ b ∧ b < a + 32) ∨ (am ≤ b ∧ b < am + 3)) φ1 φ3 := t2.mono (fun b hb => by rcases hb with hb | hb; exact Or.inr hb; exact Or.inl (by omega))
        have t1' : f_Slave_storeBeats Γ φ1 a (some y) = some ((), φ3) := t1
        rw [t1', Option.bind_some]
        by_cases hx : exN e.con = 1
        · rw [hx, if_neg (by decide), Option.bind_some, if_pos hb.o, if_pos rfl]
          obtain ⟨r1, r2⟩ := h3.setA hl3 hy he hg 1
          exact ⟨_, rfl, r1, t3.sm (r2.sm (by omega)), t2q.trans (r2.toP (fun b h1 h2 => Or.inl (by omega)))⟩
        · rw [show exN e.con = 0 by omega, if_pos (by rfl), Option.bind_some, if_pos hb.o, if_neg (by decide)]
          obtain ⟨r1, r2⟩ := h3.setA hl3 hy he hg 0
          exact ⟨_, rfl, r1, t3.sm (r2.sm (by omega)), t2q.trans (r2.toP (fun b h1 h2 => Or.inl (by omega)))⟩
  unfold f_Slave_doWrite f_Slave_doWrite_L28
  rw [if_neg (by simp), Option.bind_some, if_pos hb.o]
  simp only [hE.1, e_Burst_isExclusive, Option.bind_some, h.o, if_true, c_hasRight h hR]
  by_cases hx : exN e.con = 1
  · rw [if_neg (by rw [hx]; decide)]
    cases hh : decide (S.rgt s (idN e.con) = some (adN e.con, leN e.con * szN e.con)) with
    | false =>
      obtain ⟨φ', r1, r2, r3, r4⟩ := K false (by rw [hh, hx]; rfl)
      refine ⟨φ', ?_, r2, r3, k1q.trans r4⟩
      rw [if_pos (by rfl)]
      exact (k4 false).trans r1
    | true =>
      obtain ⟨φ', r1, r2, r3, r4⟩ := K true (by rw [hh, hx]; rfl)
      refine ⟨φ', ?_, r2, r3, k1q.trans r4⟩
      rw [if_neg (by decide)]
      exact (k4 true).trans r1
  · rw [if_pos (by rw [show exN e.con = 0 by omega]; rfl)]
    obtain ⟨φ', r1, r2, r3, r4⟩ := K true (by simp [hx])
    exact ⟨φ', (k4 true).trans r1, r2, r3, k1q.trans r4⟩
