/-! THE CLASS: slaves read -/
def crD (S : XS) (c : Int64) (k : Nat) : Int64 := if spoR S.spo c k = true then 0 else nL (ldB S.mem (baN c k) (laN (baN c k) (szN c)))
def crP (S : XS) (c : Int64) (k : Nat) : Nat := if spoR S.spo c k = true then 2 else exN c
theorem c_doRead_L {Γ : gm_T} {a am y : Nat} {S : XS} {c : Int64} (hru : ruN c = 0) (ho : Γ a = .inr 8) (hym : y + 3 ≤ am ∨ am + 3 ≤ y) :
    ∀ (d i fu : Nat) (sd : Bool) (φ : ph_T), i + d = leN c → d < fu → CBl Γ φ y → φ.2.1 y 0 = c → φ.2.2 a 0 = some am → CMem Γ φ am S.mem S.spo →
    ∃ φ', f_Slave_doRead_L42 Γ fu φ a (some y) (nI (leN c)) (nI (idN c)) (nI (exN c)) (bI sd) (nI i) = f_Slave_doRead_L42 Γ 1 φ' a (some y) (nI (leN c)) (nI (idN c)) (nI (exN c)) (bI (sd && !((List.range d).any fun k => spoR S.spo c (i + k)))) (nI (leN c)) ∧
      Fr (y + 1) (y + 3) φ φ' ∧ φ'.2.2 = φ.2.2 ∧ (∀ j, j < i → φ'.2.1 (y + 1) j = φ.2.1 (y + 1) j ∧ φ'.1 (y + 2) j = φ.1 (y + 2) j) ∧
      (∀ j, i ≤ j → j < leN c → φ'.2.1 (y + 1) j = crD S c j ∧ φ'.1 (y + 2) j = nI (ansR (idN c) (crP S c j) (decide (j = leN c - 1)))) := by
  have hle := leN_le c
  have hpos := leN_pos c
  have hid := idN_lt c
  have hex := exN_lt c
  intro d
  induction d with
  | zero =>
    intro i fu sd φ hd hfu hb hc hf hm
    match fu, hfu with
    | fu + 1, _ =>
      refine ⟨φ, ?_, Fr.refl _ _ _, rfl, fun j hj => ⟨rfl, rfl⟩, fun j h1 h2 => by omega⟩
      rw [show i = leN c by omega]
      simp only [List.range_zero, List.any_nil, Bool.not_false, Bool.and_true]
      unfold f_Slave_doRead_L42
      rw [if_pos (Int32.le_refl _), if_pos (Int32.le_refl _)]
  | succ d ih =>
    intro i fu sd φ hd hfu hb hc hf hm
    match fu, hfu with
    | fu + 1, hfu =>
      have hba := ba_ok hru (k := i) (by omega)
      have hla := laN_lt (baN c i) (szN_cases c)
      have hsp : f_Memory_isSpoilt Γ φ am (nI (baN c i)) (nI (laN (baN c i) (szN c))) = some (bI (spoR S.spo c i), φ) := c_isSpoilt hm hba hla
      have hld : f_Memory_load Γ φ am (nI (baN c i)) (nI (laN (baN c i) (szN c))) = some (nL (ldB S.mem (baN c i) (laN (baN c i) (szN c))), φ) := c_load hm hba hla
      have hrdD : crD S c i = if spoR S.spo c i = true then 0 else nL (ldB S.mem (baN c i) (laN (baN c i) (szN c))) := rfl
      have hrdP : crP S c i = if spoR S.spo c i = true then 2 else exN c := rfl
      have f1 : Fr (y + 1) (y + 3) φ (uI (uL φ (y + 1) i (crD S c i)) (y + 2) i (nI (ansR (idN c) (crP S c i) (decide (i = leN c - 1))))) := by repeat (first | exact Fr.refl _ _ _ | refine fr_uI ?_ (by omega) _ _ | refine fr_uL ?_ (by omega) _ _)
      obtain ⟨φ2, q1, q2, q3, q4, q5⟩ := ih (i + 1) fu (sd && !spoR S.spo c i) (uI (uL φ (y + 1) i (crD S c i)) (y + 2) i (nI (ansR (idN c) (crP S c i) (decide (i = leN c - 1))))) (by omega) (by omega) (hb.up rfl) (by rw [uI_2, uL_2, if_neg (by omega)]; exact hc) hf (hm.sm (f1.sm (by omega)))
      refine ⟨φ2, ?_, f1.trans q2, q3, ?_, ?_⟩
      · have hany : ((List.range (d + 1)).any fun k => spoR S.spo c (i + k)) = (spoR S.spo c i || (List.range d).any fun k => spoR S.spo c (i + 1 + k)) := by
          rw [List.range_succ_eq_map, List.any_cons, List.any_map]
          congr 2
          funext k
          simp only [Function.comp]
          congr 1
          omega
        rw [hany, Bool.not_or, ← Bool.and_assoc, ← q1]
        have har : ∀ l : Bool, f_Bus_answerRest Γ (uL φ (y + 1) i (crD S c i)) (nI (idN c)) (nI (crP S c i)) (bI l) = some (nI (ansR (idN c) (crP S c i) l), uL φ (y + 1) i (crD S c i)) := fun l => e_answerRest Γ _ _ _ l
        -- the rest of a step, from the data on
        have hTail : ∀ x10 : Bool, x10 = spoR S.spo c i → f_Slave_doRead_L130 Γ (f_Slave_doRead_L42 Γ fu) φ a (some y) (nI (leN c)) (nI (idN c)) (nI (exN c)) (bI sd) (nI i) (bI x10) (nI (crP S c i)) (crD S c i) (nI i) (some (y + 1)) = f_Slave_doRead_L42 Γ fu (uI (uL φ (y + 1) i (crD S c i)) (y + 2) i (nI (ansR (idN c) (crP S c i) (decide (i = leN c - 1))))) a (some y) (nI (leN c)) (nI (idN c)) (nI (exN c)) (bI (sd && !spoR S.spo c i)) (nI (i + 1)) := by
          intro x10 hx10
          unfold f_Slave_doRead_L130 f_Slave_doRead_L154 f_Slave_doRead_L172 f_Slave_doRead_L173
          simp (disch := first | assumption | omega) only [Option.bind_some, hb.g6, hb.g7, hb.f7, zix, hb.o, if_true, bI_eq0, ↓zm1, zI_ne_m, zI_m_ne, zI_lit, zI_le, zI_eq, zI_mul, zI_lt, zI_modn, zI_div, zI_sub, zI_add, zN_mod]
          have hl1 : i = leN c - 1 → f_Bus_answerRest Γ (uL φ (y + 1) i (crD S c i)) (nI (idN c)) (nI (crP S c i)) (nI 1) = some (nI (ansR (idN c) (crP S c i) (decide (i = leN c - 1))), uL φ (y + 1) i (crD S c i)) := fun h => by rw [decide_eq_true h]; exact har true
          have hl0 : ¬ i = leN c - 1 → f_Bus_answerRest Γ (uL φ (y + 1) i (crD S c i)) (nI (idN c)) (nI (crP S c i)) (nI 0) = some (nI (ansR (idN c) (crP S c i) (decide (i = leN c - 1))), uL φ (y + 1) i (crD S c i)) := fun h => by rw [decide_eq_false h]; exact har false
          rw [← hx10]
          by_cases hlast : i = leN c - 1
          · rw [if_pos hlast, hl1 hlast, Option.bind_some]
            cases sd <;> cases x10 <;> rfl
          · rw [if_neg hlast, hl0 hlast, Option.bind_some]
            cases sd <;> cases x10 <;> rfl
        rw [f_Slave_doRead_L42]
        have hA := e_Burst_beatAddress Γ φ c (k := i) (by omega)
        have hL := e_Burst_beatLanes Γ φ c (k := i) (by omega)
        simp (disch := first | assumption | omega) only [Option.bind_some, hb.o, if_true, hc, ho, hf, hm.o, hA, hL, hsp, ↓zm1, zI_ne_m, zI_m_ne, zI_lit, zI_le, zI_eq, zI_mul, zI_lt, zI_modn, zI_div, zI_sub, zI_add, zN_mod, bI_eq0]
        rw [if_neg (by omega)]
        unfold f_Slave_doRead_L102
        simp only [Option.bind_some, hb.o, if_true, ho, hf, hm.o, hld, bI_eq0, hb.f6]
        cases hs : spoR S.spo c i with
        | true =>
          have hT := hTail true hs.symm
          rw [hs] at hT
          have hD : crD S c i = 0 := by rw [hrdD, hs]; rfl
          have hP : crP S c i = 2 := by rw [hrdP, hs]; rfl
          rw [hD, hP] at hT ⊢
          simp only [Bool.true_eq_false, if_false]
          exact hT
        | false =>
          have hT := hTail false hs.symm
          rw [hs] at hT
          have hD : crD S c i = nL (ldB S.mem (baN c i) (laN (baN c i) (szN c))) := by rw [hrdD, hs]; rfl
          have hP : crP S c i = exN c := by rw [hrdP, hs]; rfl
          rw [hD, hP] at hT ⊢
          simp only [if_true]
          match h2 : exN c, hex with
          | 0, _ => rw [h2] at hT; rw [if_pos (by rfl)]; exact hT
          | 1, _ => rw [h2] at hT; rw [if_neg (by decide)]; exact hT
      · intro j hj
        obtain ⟨u1, u2⟩ := q4 j (by omega)
        rw [u1, u2]
        simp (disch := first | assumption | omega) only [uI_1, uI_2, uI_3, uL_1, uL_2, uL_3, vz_at, Nat.add_left_cancel_iff, Nat.reduceEqDiff, if_false, zr1, zr2, if_true]
        rw [if_neg (by omega), if_neg (by omega)]
        exact ⟨rfl, rfl⟩
      · intro j h1 h2
        by_cases e : j = i
        · subst e
          obtain ⟨u1, u2⟩ := q4 j (by omega)
          rw [u1, u2]
          simp (disch := first | assumption | omega) only [uI_1, uI_2, uI_3, uL_1, uL_2, uL_3, vz_at, Nat.add_left_cancel_iff, Nat.reduceEqDiff, if_false, zr1, zr2, if_true]
          exact ⟨trivial, trivial⟩
        · exact q5 j (by omega) h2
theorem CSl.setG {Γ : gm_T} {φ φ' : ph_T} {a am : Nat} {S T : XS} {s : Nat} (h : CSl Γ φ a am S s) (f : Fr (a + 30) (a + 32) φ φ') (hg : ∀ j, j < 64 → φ'.1 (a + 30) j = oI ((T.rgt s j).map Prod.fst) m1 ∧ ∀ q, T.rgt s j = some q → φ'.1 (a + 31) j = nI q.2) (e1 : T.sw s = S.sw s) (e2 : T.sr s = S.sr s) (e3 : T.spat s = S.spat s) (e5 : T.delay s = S.delay s) (e6 : T.way s = S.way s) (e7 : ∀ i, T.chb s = some i → S.chb s = some i) (e8 : ∀ i, T.chr s = some i → S.chr s = some i) (e9 : T.lat s = S.lat s) : CSl Γ φ' a am T s := by
  refine ⟨h.o, ?_, ?_, ?_, ?_, ?_, ?_, h.g1, h.g4, h.g5, ?_, ?_, ?_, hg, ?_, ?_, ?_, ?_, ?_⟩
  · rw [f.r (by omega)]; exact h.f0
  · rw [f.r (by omega)]; exact h.f1
  · rw [f.r (by omega)]; exact h.f2
  · rw [f.r (by omega)]; exact h.f3
  · rw [f.r (by omega)]; exact h.f4
  · rw [f.r (by omega)]; exact h.f5
  · rw [e1]; obtain ⟨l, hl⟩ := h.sw; exact ⟨l, hl.sm (f.sm (by omega))⟩
  · rw [e2]; obtain ⟨l, hl⟩ := h.sr; exact ⟨l, hl.sm (f.sm (by omega))⟩
  · rw [f.i (by omega), e3]; exact h.pt
  · rw [f.i (by omega), e5]; exact h.dl
  · rw [f.i (by omega), e6]; exact h.wy
  · rw [f.i (by omega)]; exact fun i hi => h.cb i (e7 i hi)
  · rw [f.i (by omega)]; exact fun i hi => h.cr i (e8 i hi)
  · rw [f.i (by omega), e9]; exact h.lt
theorem e_rangeOf (Γ : gm_T) (φ : ph_T) (c : Int64) : f_Slave_rangeOf Γ φ c = some (nI (leN c * szN c), φ) := by
  unfold f_Slave_rangeOf
  simp only [e_Burst_lengthOf, e_Burst_bytesOf, Option.bind_some, zI_mul]
/-- entries that are still being made -/
def OE {α : Type} (E : ph_T → Nat → α → Prop) (φ : ph_T) (x : Nat) (o : Option α) : Prop := ∀ e, o = some e → E φ x e
theorem CL.opt {α : Type} {Γ : gm_T} {φ : ph_T} {a room : Nat} {E : ph_T → Nat → α → Prop} {l : List Nat} {L : List α} (h : CL Γ φ a room E l L) : CL Γ φ a room (OE E) l (L.map some) := by
  refine ⟨by rw [List.length_map]; exact h.c, ?_, ?_⟩
  · intro k o x hk hx e he
    subst he
    rw [List.getElem?_map] at hk
    cases hL : L[k]? with
    | none => rw [hL] at hk; cases hk
    | some e2 =>
      rw [hL] at hk
      have hk' : some e2 = some e := Option.some.inj hk
      cases Option.some.inj hk'
      exact h.e k _ x hL hx
  · intro φ φ' x o s ho e he
    exact h.loc φ φ' x e s (ho e he)
theorem CL.unopt {α : Type} {Γ : gm_T} {φ : ph_T} {a room : Nat} {E : ph_T → Nat → α → Prop} {l : List Nat} {L : List α} (h : CL Γ φ a room (OE E) l (L.map some)) (hl : Loc E) : CL Γ φ a room E l L := by
  refine ⟨by have := h.c; rw [List.length_map] at this; exact this, ?_, hl⟩
  intro k e x hk hx
  exact h.e k (some e) x (by rw [List.getElem?_map, hk]; rfl) hx e rfl
/-- a new one, made as later writes leave it -/
theorem c_Ladd2 {α : Type} {Γ : gm_T} {φ : ph_T} {a room : Nat} {E : ph_T → Nat → α → Prop} {l : List Nat} {L : List α} (h : CL Γ φ a room E l L) (hr : L.length < room) (c : Int64) : ∃ x φ', f_Line_add Γ φ a c = some (some x, φ') ∧ CBl Γ φ' x ∧ Fr a (a + 2 + 3 * room) φ φ' ∧ φ'.2.2 = φ.2.2 ∧ a + 2 ≤ x ∧ x + 3 ≤ a + 2 + 3 * room ∧
    φ'.2.1 x 0 = c ∧ φ'.1 x 1 = nI 0 ∧ φ'.1 x 2 = nI 0 ∧ φ'.1 x 3 = nI 0 ∧ φ'.1 x 4 = m1 ∧ φ'.1 x 5 = nI 0 ∧ ∀ φ'' e', Fr x (x + 3) φ' φ'' → CBl Γ φ'' x → E φ'' x e' → CL Γ φ'' a room E l (L ++ [e']) := by
  obtain ⟨x, φ1, s1, s2, s3, s4, s5, s6, s7, s8, s9, s10, s11, s12, s13, s14⟩ := c_Ladd h.opt (by rw [List.length_map]; exact hr) c
  refine ⟨x, φ1, s1, s3, s4, s5, s6, s7, s8, s9, s10, s11, s12, s13, ?_⟩
  intro φ2 e' f hb he
  have h1 := s14 none (fun e he => by cases he)
  have h2 := h1.upd s2 f hb (e' := some e') (fun e hh => by cases hh; exact he)
  have e : (L.map some ++ [none]).set (L.map some).length (some e') = (L ++ [e']).map some := by simp
  rw [e] at h2
  exact h2.unopt h.loc
theorem c_pass3 {Γ : gm_T} {φ : ph_T} {a am ap : Nat} {S : XS} {s : Nat} {x : WI} {hd : Nat → Bool} {tr : Nat → Int32} (hma : am + 3 ≤ a ∨ a + 32 ≤ am) (h : CSl Γ φ a am S s) (hp : CPt Γ φ ap x hd tr) (hm : CMem Γ φ am S.mem S.spo) (hr : (S.sr s).length < 4) (hru : ruN (x.w 3).c = 0) :
    ∃ φ', f_Slave_pass Γ φ a (some ap) (nI 3) (nI S.time) = some ((), φ') ∧ CSl Γ φ' a am (S.rcm s (x.w 3).c) s ∧ Fr a (a + 32) φ φ' := by
  obtain ⟨l, hl⟩ := h.sr
  obtain ⟨w1, w2, w3, w4⟩ := hp.w 3 (by omega)
  obtain ⟨y, φ1, s1, s3, s4, s5, s6, s7, s8, s9, s10, s11, s12, s13, s14⟩ := c_Ladd2 hl hr (x.w 3).c
  generalize hcc : (x.w 3).c = c at *
  have hlp := leN_pos c
  have hle := leN_le c
  have hid := idN_lt c
  have hex := exN_lt c
  -- since
  have f2 : Fr y (y + 3) φ1 (uI φ1 y 4 (nI S.time)) := fr_uI (Fr.refl _ _ _) (by omega) _ _
  have s4' : Fr (a + 16) (a + 30) φ φ1 := s4.mono (by omega) (by omega)
  have f12 : Fr (a + 16) (a + 30) φ (uI φ1 y 4 (nI S.time)) := s4'.trans (f2.mono (by omega) (by omega))
  have hf0 : (uI φ1 y 4 (nI S.time)).2.2 a 0 = some am := by rw [f12.r (by omega)]; exact h.f0
  obtain ⟨φ2, q1, q2, q3, q4, q5⟩ := c_doRead_L (S := S) hru h.o (y := y) (am := am) (by omega) (leN c) 0 jF true (uI φ1 y 4 (nI S.time)) (by omega) (by unfold jF; omega) (s3.up rfl) s8 hf0 (hm.sm (f12.sm (by omega)))
  have f02 : Fr (a + 16) (a + 30) φ φ2 := f12.trans (q2.mono (by omega) (by omega))
  have hEq : EQe φ2 y (S.newQ s c (freeP ((S.sr s).map QE.place) (4 * s) 4)) := by
    refine ⟨?_, ?_, ?_, ?_⟩
    · rw [q2.l (by omega)]; exact s8
    · rw [q2.i (by omega), uI_s, vz_ne _ (by decide)]; exact s11
    · rw [q2.i (by omega), uI_s, vz_same]; rfl
    · intro j hj
      exact q5 j (by omega) hj
  have hl2 := s14 φ2 _ (f2.trans (q2.mono (by omega) (by omega))) (s3.up (by rw [q3]; rfl)) hEq
  have h2 : CSl Γ φ2 a am (S.w_sr (va_up S.sr s (S.sr s ++ [S.newQ s c (freeP ((S.sr s).map QE.place) (4 * s) 4)]))) s := by
    refine h.setQ f02 (l := l) ?_ rfl rfl rfl rfl rfl (fun i hi => hi) (fun i hi => hi) rfl
    show CL Γ φ2 (a + 16) 4 EQe l (va_up S.sr s _ s)
    rw [vz_same]
    exact hl2
  have hb2 : CBl Γ φ2 y := s3.up (by rw [q3]; rfl)
  have hc2 : φ2.2.1 y 0 = c := by rw [q2.l (by omega)]; exact s8
  have hpre : f_Slave_pass Γ φ a (some ap) (nI 3) (nI S.time) = (f_Slave_doRead_L42 Γ 1 φ2 a (some y) (nI (leN c)) (nI (idN c)) (nI (exN c)) (bI (!((List.range (leN c)).any fun k => spoR S.spo c k))) (nI (leN c))).bind fun q => some ((), q.2) := by
    have e0 : (uI φ1 y 4 (nI S.time)).2.1 y 0 = c := s8
    have e1 : φ1.2.1 y 0 = c := s8
    have q1' : f_Slave_doRead_L42 Γ jF (uI φ1 y 4 (nI S.time)) a (some y) (nI (leN c)) (nI (idN c)) (nI (exN c)) (nI 1) (nI 0) = f_Slave_doRead_L42 Γ 1 φ2 a (some y) (nI (leN c)) (nI (idN c)) (nI (exN c)) (bI (!((List.range (leN c)).any fun k => spoR S.spo c k))) (nI (leN c)) := by
      have := q1
      simp only [Nat.zero_add, Bool.true_and, bI_t] at this
      exact this
    unfold f_Slave_pass f_Slave_pass_L125 f_Slave_doRead
    rw [if_neg (by decide), if_neg (by decide), if_neg (by decide), if_pos (by decide)]
    simp (disch := first | assumption | omega) only [zI_lit, h.o, if_true, Option.bind_some, hp.o, hp.f3, hp.g3, zix, w3, h.f3, hl.c.o, s1, reduceCtorEq, if_false, s3.o, e0, e1, e_Burst_lengthOf, e_Burst_idOf, e_Burst_isExclusive, q1']
  rw [hpre]
  unfold f_Slave_doRead_L42 f_Slave_doRead_L219
  rw [if_pos (Int32.le_refl _)]
  have hT : ∀ T : XS, T = S.rcm s c → T.sw s = S.sw s := fun T hT => by subst hT; rfl
  by_cases hx1 : exN c = 1
  · have hne : ¬ (nI (exN c) = 0) := by rw [hx1]; decide
    rw [if_neg hne]
    cases hany : ((List.range (leN c)).any fun k => spoR S.spo c k) with
    | true =>
      have hng : S.newRgt s c = S.rgt s := by unfold XS.newRgt; rw [if_neg (fun hh => by rw [hany] at hh; cases hh.2)]
      rw [if_pos (by decide)]
      refine ⟨φ2, rfl, ?_, f02.mono (by omega) (by omega)⟩
      refine h2.cg rfl rfl rfl ?_ rfl rfl (fun i hi => hi) (fun i hi => hi) rfl
      show va_up S.rgt s (S.newRgt s c) s = S.rgt s
      rw [vz_same, hng]
    | false =>
      have hng : S.newRgt s c = va_up (S.rgt s) (idN c) (some (adN c, leN c * szN c)) := by unfold XS.newRgt; rw [if_pos ⟨hx1, hany⟩]
      rw [if_neg (by decide), if_pos h.o, Option.bind_some, if_pos s3.o]
      have f4' : φ2.2.2 a 4 = some (a + 30) := h2.f4
      have f5' : φ2.2.2 a 5 = some (a + 31) := h2.f5
      simp (disch := first | assumption | omega) only [hc2, e_Burst_addressOf, Option.bind_some, f4', f5', h.g4, h.g5, zix, e_rangeOf]
      have f3 : Fr (a + 30) (a + 32) φ2 (uI (uI φ2 (a + 30) (idN c) (nI (adN c))) (a + 31) (idN c) (nI (leN c * szN c))) := by repeat (first | exact Fr.refl _ _ _ | refine fr_uI ?_ (by omega) _ _ | refine fr_uL ?_ (by omega) _ _)
      refine ⟨_, rfl, ?_, (f02.mono (by omega) (by omega)).trans (f3.mono (by omega) (by omega))⟩
      refine h2.setG f3 (fun j hj => ?_) rfl rfl rfl rfl rfl (fun i hi => hi) (fun i hi => hi) rfl
      obtain ⟨g1, g2⟩ := h2.rg j hj
      have e1 : (S.rcm s c).rgt s j = va_up (S.rgt s) (idN c) (some (adN c, leN c * szN c)) j := by
        show va_up S.rgt s (S.newRgt s c) s j = _
        rw [vz_same, hng]
      rw [e1]
      simp (disch := first | assumption | omega) only [uI_1, uI_2, uI_3, uL_1, uL_2, uL_3, vz_at, Nat.add_left_cancel_iff, Nat.reduceEqDiff, if_false, zr1, zr2, if_true]
      by_cases hj2 : j = idN c
      · rw [if_pos hj2, if_pos hj2, if_pos hj2]
        exact ⟨rfl, fun q hq => by cases hq; rfl⟩
      · rw [if_neg hj2, if_neg hj2, if_neg hj2]
        exact ⟨g1, g2⟩
  · have h0 : exN c = 0 := by omega
    have hng : S.newRgt s c = S.rgt s := by unfold XS.newRgt; rw [if_neg (fun hh => hx1 hh.1)]
    rw [h0, if_pos (by decide)]
    refine ⟨φ2, rfl, ?_, f02.mono (by omega) (by omega)⟩
    refine h2.cg rfl rfl rfl ?_ rfl rfl (fun i hi => hi) (fun i hi => hi) rfl
    show va_up S.rgt s (S.newRgt s c) s = S.rgt s
    rw [vz_same, hng]
