/-! THE CLASS: slaves write -/
theorem and_m8 {x : Nat} (hx : x < 2 ^ 31) : nI x &&& (-8 : Int32) = nI (x - x % 8) := by
  apply zI_inj
  rw [Int32.toBitVec_and]
  apply BitVec.eq_of_getLsbD_eq
  intro i hi
  have h8 : (-8 : Int32).toBitVec = BitVec.ofNat 32 (2 ^ 32 - 8) := by decide
  rw [BitVec.getLsbD_and, h8]
  simp only [zI_bv, BitVec.getLsbD_ofNat, hi, decide_true, Bool.true_and]
  have e1 : x - x % 8 = (x / 2 ^ 3) <<< 3 := by rw [Nat.shiftLeft_eq]; omega
  rw [e1, Nat.testBit_shiftLeft, Nat.testBit_div_two_pow, show 2 ^ 32 - 8 = 2 ^ 32 - (7 + 1) from rfl, Nat.testBit_two_pow_sub_succ (by omega)]
  by_cases h3 : 3 ≤ i
  · have : Nat.testBit 7 i = false := Nat.testBit_lt_two_pow (Nat.lt_of_lt_of_le (show 7 < 2 ^ 3 by omega) (Nat.pow_le_pow_right (by omega) h3))
    simp [h3, hi, this]
  · have hi3 : i = 0 ∨ i = 1 ∨ i = 2 := by omega
    have t0 : Nat.testBit 7 0 = true := by decide
    have t1 : Nat.testBit 7 1 = true := by decide
    have t2 : Nat.testBit 7 2 = true := by decide
    rcases hi3 with rfl | rfl | rfl
    · rw [t0]; simp
    · rw [t1]; simp
    · rw [t2]; simp
theorem zI_subneg {A B : Nat} (hA : A < 2 ^ 30) (hB : B < 2 ^ 30) (h : A < B) : nI A - nI B < 0 := by
  rw [Int32.lt_iff_toInt_lt, Int32.toInt_sub, zI_toInt (by omega), zI_toInt (by omega)]
  rw [Int.bmod_eq_of_le (by omega) (by omega)]
  show _ < (0 : Int)
  omega
theorem tb_shr {st i : Nat} (hs : st < 256) (hi : i < 8) : ((nI st >>> (nI i &&& 31)) &&& (1 : Int32) = (1 : Int32)) ↔ Nat.testBit st i = true := by
  have h31 : nI i &&& (31 : Int32) = nI i := by
    rw [show (31 : Int32) = nI (2 ^ 5 - 1) from rfl, zI_and, Nat.and_two_pow_sub_one_eq_mod, Nat.mod_eq_of_lt (by omega)]
  rw [h31, zI_shr (by omega) (by omega), show (1 : Int32) = nI 1 from rfl, zI_and]
  have hle : st >>> i &&& 1 ≤ 1 := Nat.and_le_right
  rw [zI_eq (by omega) (by omega), Nat.testBit, Nat.and_comm]
  simp
theorem c_meets_L {Γ : gm_T} {φ : ph_T} {a : Nat} (ho : Γ a = .inr 8) (f4 : φ.2.2 a 4 = some (a + 30)) (f5 : φ.2.2 a 5 = some (a + 31)) (g4 : gA Γ (a + 30) 0 = some 64) (g5 : gA Γ (a + 31) 0 = some 64) {id x st q1 q2 : Nat} (hid : id < 64) (hx : x < 65536) (hs : st < 256) (e1 : φ.1 (a + 30) id = nI q1) (e2 : φ.1 (a + 31) id = nI q2) (h1 : q1 < 65536) (h2 : q2 < 129) : ∀ (d i fu : Nat), i + d = 8 → d < fu →
    f_Slave_meetsRight_L3 Γ fu φ a (nI id) (nI (x - x % 8)) (nI st) (nI i) = some (bI ((List.range d).any fun k => Nat.testBit st (i + k) && decide (q1 ≤ x - x % 8 + (i + k)) && decide (x - x % 8 + (i + k) < q1 + q2)), φ) := by
  intro d
  induction d with
  | zero =>
    intro i fu hd hfu
    match fu, hfu with
    | fu + 1, _ =>
      unfold f_Slave_meetsRight_L3
      rw [if_pos (by rw [show (8 : Int32) = nI 8 from rfl, zI_le (by omega) (by omega)]; omega), if_pos (by decide)]
      rfl
  | succ d ih =>
    intro i fu hd hfu
    match fu, hfu with
    | fu + 1, hfu =>
      have hr := ih (i + 1) fu (by omega) (by omega)
      have hany : ((List.range (d + 1)).any fun k => Nat.testBit st (i + k) && decide (q1 ≤ x - x % 8 + (i + k)) && decide (x - x % 8 + (i + k) < q1 + q2)) = ((Nat.testBit st i && decide (q1 ≤ x - x % 8 + i) && decide (x - x % 8 + i < q1 + q2)) || (List.range d).any fun k => Nat.testBit st (i + 1 + k) && decide (q1 ≤ x - x % 8 + (i + 1 + k)) && decide (x - x % 8 + (i + 1 + k) < q1 + q2)) := by
        rw [List.range_succ_eq_map, List.any_cons, List.any_map]
        congr 2
        funext k
        simp only [Function.comp]
        rw [show i + (k + 1) = i + 1 + k by omega]
      rw [hany]
      unfold f_Slave_meetsRight_L3 f_Slave_meetsRight_L51
      rw [if_neg (by rw [show (8 : Int32) = nI 8 from rfl, zI_le (by omega) (by omega)]; omega), if_pos ho]
      simp (disch := first | assumption | omega) only [f4, g4, Option.bind_some, zix, e1, zI_add]
      rw [show nI i + (1 : Int32) = nI (i + 1) from by rw [zI_1, zI_add], hr]
      by_cases hb : Nat.testBit st i = true
      · rw [if_pos ((tb_shr hs (by omega)).mpr hb)]
        by_cases hlt : x - x % 8 + i < q1
        · rw [if_pos (zI_subneg (by omega) (by omega) hlt)]
          simp [show ¬ q1 ≤ x - x % 8 + i by omega]
        · rw [zI_sub (by omega), if_neg (zI_nneg (by omega))]
          simp (disch := first | assumption | omega) only [f5, g5, Option.bind_some, zix, e2, zI_le]
          by_cases hge : q2 ≤ x - x % 8 + i - q1
          · rw [if_pos hge]
            simp [show ¬ x - x % 8 + i < q1 + q2 by omega]
          · rw [if_neg hge, if_pos (by decide)]
            simp [hb, show q1 ≤ x - x % 8 + i by omega, show x - x % 8 + i < q1 + q2 by omega, bI_t]; rfl
      · rw [if_neg (fun hh => hb ((tb_shr hs (by omega)).mp hh))]
        simp [hb]
theorem c_meets {Γ : gm_T} {φ : ph_T} {a : Nat} (ho : Γ a = .inr 8) (f4 : φ.2.2 a 4 = some (a + 30)) (f5 : φ.2.2 a 5 = some (a + 31)) (g4 : gA Γ (a + 30) 0 = some 64) (g5 : gA Γ (a + 31) 0 = some 64) {id x st q1 q2 : Nat} (hid : id < 64) (hx : x < 65536) (hs : st < 256) (e1 : φ.1 (a + 30) id = nI q1) (e2 : φ.1 (a + 31) id = nI q2) (h1 : q1 < 65536) (h2 : q2 < 129) :
    f_Slave_meetsRight Γ φ a (nI id) (nI (x - x % 8)) (nI st) = some (bI (hitB q1 q2 x st), φ) := by
  unfold f_Slave_meetsRight hitB
  rw [zI_0, c_meets_L ho f4 f5 g4 g5 hid hx hs e1 e2 h1 h2 8 0 jF (by omega) (by unfold jF; omega)]
  simp only [Nat.zero_add]
/-- one write's rights -/
def rg1 (g : Nat → Option (Nat × Nat)) (x st : Nat) (j : Nat) : Option (Nat × Nat) := match g j with
  | none => none
  | some q => if hitB q.1 q.2 x st = true then none else some q
/-- the rights as the slave keeps them -/
def Rg (φ : ph_T) (a : Nat) (g : Nat → Option (Nat × Nat)) : Prop := ∀ j, j < 64 → φ.1 (a + 30) j = oI ((g j).map Prod.fst) m1 ∧ ∀ q, g j = some q → φ.1 (a + 31) j = nI q.2
theorem c_takeRights_L {Γ : gm_T} {a : Nat} (ho : Γ a = .inr 8) (g4 : gA Γ (a + 30) 0 = some 64) (g5 : gA Γ (a + 31) 0 = some 64) {x st : Nat} (hx : x < 65536) (hs : st < 256) : ∀ (d i fu : Nat) (φ : ph_T) (g : Nat → Option (Nat × Nat)), i + d = 64 → d < fu → φ.2.2 a 4 = some (a + 30) → φ.2.2 a 5 = some (a + 31) → Rg φ a g → (∀ j q, g j = some q → q.1 < 65536 ∧ q.2 < 129) →
    ∃ φ', f_Slave_takeRights_L2 Γ fu φ a (nI (x - x % 8)) (nI st) (nI i) = some ((), φ') ∧ Fr (a + 30) (a + 31) φ φ' ∧ φ'.2.2 = φ.2.2 ∧ Rg φ' a (fun j => if i ≤ j then rg1 g x st j else g j) := by
  intro d
  induction d with
  | zero =>
    intro i fu φ g hd hfu f4 f5 hg hb
    match fu, hfu with
    | fu + 1, _ =>
      refine ⟨φ, ?_, Fr.refl _ _ _, rfl, ?_⟩
      · unfold f_Slave_takeRights_L2
        rw [if_pos (by rw [show (64 : Int32) = nI 64 from rfl, zI_le (by omega) (by omega)]; omega)]
      · intro j hj
        dsimp only
        rw [if_neg (by omega)]
        exact hg j hj
  | succ d ih =>
    intro i fu φ g hd hfu f4 f5 hg hb
    match fu, hfu with
    | fu + 1, hfu =>
      obtain ⟨u1, u2⟩ := hg i (by omega)
      cases hgi : g i with
      | none =>
        rw [hgi] at u1
        obtain ⟨φ2, q1, q2, q3, q4⟩ := ih (i + 1) fu φ g (by omega) (by omega) f4 f5 hg hb
        refine ⟨φ2, ?_, q2, q3, ?_⟩
        · unfold f_Slave_takeRights_L2 f_Slave_takeRights_L35
          have u1' : φ.1 (a + 30) i = m1 := u1
          simp (disch := first | assumption | omega) only [ho, if_true, f4, g4, Option.bind_some, zix, u1', ↓zm1, zI_ne_m, zI_m_ne, zI_lit, zI_le, zI_eq, zI_mul, zI_lt, zI_modn, zI_div, zI_sub, zI_add, zN_mod]
          rw [if_neg (by omega)]
          exact q1
        · intro j hj
          have := q4 j hj
          dsimp only at this ⊢
          by_cases e : j = i
          · subst e
            rw [if_neg (by omega)] at this
            rw [if_pos (by omega)]
            unfold rg1
            rw [hgi] at this ⊢
            exact this
          · by_cases e2 : i ≤ j
            · rw [if_pos (by omega)] at this; rw [if_pos e2]; exact this
            · rw [if_neg (by omega)] at this; rw [if_neg e2]; exact this
      | some q =>
        obtain ⟨hb1, hb2⟩ := hb i q hgi
        have u1' : φ.1 (a + 30) i = nI q.1 := by rw [u1, hgi]; rfl
        have hm := c_meets ho f4 f5 g4 g5 (show i < 64 by omega) hx hs u1' (u2 q hgi) hb1 hb2
        cases hh : hitB q.1 q.2 x st with
        | false =>
          obtain ⟨φ2, q1, q2, q3, q4⟩ := ih (i + 1) fu φ g (by omega) (by omega) f4 f5 hg hb
          refine ⟨φ2, ?_, q2, q3, ?_⟩
          · unfold f_Slave_takeRights_L2 f_Slave_takeRights_L35
            simp (disch := first | assumption | omega) only [ho, if_true, f4, g4, Option.bind_some, zix, u1', hm, hh, ↓zm1, zI_ne_m, zI_m_ne, zI_lit, zI_le, zI_eq, zI_mul, zI_lt, zI_modn, zI_div, zI_sub, zI_add, zN_mod, bI_eq0]
            rw [if_neg (by omega)]
            exact q1
          · intro j hj
            have := q4 j hj
            dsimp only at this ⊢
            by_cases e : j = i
            · subst e
              rw [if_neg (by omega)] at this
              rw [if_pos (by omega)]
              unfold rg1
              rw [hgi] at this ⊢
              simp only [hh, Bool.false_eq_true, if_false]
              exact this
            · by_cases e2 : i ≤ j
              · rw [if_pos (by omega)] at this; rw [if_pos e2]; exact this
              · rw [if_neg (by omega)] at this; rw [if_neg e2]; exact this
        | true =>
          have hg1 : Rg (uI φ (a + 30) i m1) a (va_up g i none) := by
            intro j hj
            obtain ⟨v1, v2⟩ := hg j hj
            simp (disch := first | assumption | omega) only [uI_1, uI_2, uI_3, uL_1, uL_2, uL_3, vz_at, Nat.add_left_cancel_iff, Nat.reduceEqDiff, if_false, zr1, zr2, if_true]
            by_cases e : j = i
            · rw [if_pos e, if_pos e]; exact ⟨rfl, fun q hq => by cases hq⟩
            · rw [if_neg e, if_neg e]; exact ⟨v1, v2⟩
          obtain ⟨φ2, q1, q2, q3, q4⟩ := ih (i + 1) fu (uI φ (a + 30) i m1) (va_up g i none) (by omega) (by omega) f4 f5 hg1 (fun j q hq => by
            rw [vz_at] at hq
            split at hq
            · cases hq
            · exact hb j q hq)
          refine ⟨φ2, ?_, (fr_uI (Fr.refl _ _ _) (by omega) _ _).trans q2, q3, ?_⟩
          · unfold f_Slave_takeRights_L2 f_Slave_takeRights_L35
            simp (disch := first | assumption | omega) only [ho, if_true, f4, g4, Option.bind_some, zix, u1', hm, hh, ↓zm1, zI_ne_m, zI_m_ne, zI_lit, zI_le, zI_eq, zI_mul, zI_lt, zI_modn, zI_div, zI_sub, zI_add, zN_mod, bI_eq0, Bool.true_eq_false, if_false]
            rw [if_neg (by omega)]
            exact q1
          · intro j hj
            have := q4 j hj
            dsimp only at this ⊢
            simp only [vz_at] at this
            by_cases e : j = i
            · subst e
              rw [if_neg (by omega), if_pos rfl] at this
              rw [if_pos (by omega)]
              unfold rg1
              rw [hgi]
              simp only [hh, if_true]
              exact this
            · by_cases e2 : i ≤ j
              · rw [if_pos (by omega)] at this
                rw [if_pos e2]
                have e3 : rg1 (va_up g i none) x st j = rg1 g x st j := by unfold rg1; rw [vz_ne _ e]
                rw [e3] at this
                exact this
              · rw [if_neg (by omega), if_neg e] at this; rw [if_neg e2]; exact this
theorem c_takeRights {Γ : gm_T} {φ : ph_T} {a : Nat} {g : Nat → Option (Nat × Nat)} (ho : Γ a = .inr 8) (g4 : gA Γ (a + 30) 0 = some 64) (g5 : gA Γ (a + 31) 0 = some 64) {x st : Nat} (hx : x < 65536) (hs : st < 256) (f4 : φ.2.2 a 4 = some (a + 30)) (f5 : φ.2.2 a 5 = some (a + 31)) (hg : Rg φ a g) (hb : ∀ j q, g j = some q → q.1 < 65536 ∧ q.2 < 129) :
    ∃ φ', f_Slave_takeRights Γ φ a (nI (x - x % 8)) (nI st) = some ((), φ') ∧ Fr (a + 30) (a + 31) φ φ' ∧ φ'.2.2 = φ.2.2 ∧ Rg φ' a (rg1 g x st) := by
  obtain ⟨φ2, q1, q2, q3, q4⟩ := c_takeRights_L ho g4 g5 hx hs 64 0 jF φ g (by omega) (by unfold jF; omega) f4 f5 hg hb
  refine ⟨φ2, q1, q2, q3, fun j hj => ?_⟩
  have := q4 j hj
  dsimp only at this
  rw [if_pos (by omega)] at this
  exact this
theorem rgN_succ (e : WE) (k : Nat) (g : Nat → Option (Nat × Nat)) : rgN e (k + 1) g = rg1 (rgN e k g) (baN e.con k) (rSt (e.rst k)) := by
  funext j
  rfl
theorem rgN_bd {e : WE} {g : Nat → Option (Nat × Nat)} (hb : ∀ j q, g j = some q → q.1 < 65536 ∧ q.2 < 129) : ∀ k j q, rgN e k g j = some q → q.1 < 65536 ∧ q.2 < 129 := by
  intro k
  induction k with
  | zero => exact hb
  | succ k ih =>
    intro j q hq
    rw [rgN_succ] at hq
    unfold rg1 at hq
    cases h : rgN e k g j with
    | none => rw [h] at hq; cases hq
    | some p =>
      rw [h] at hq
      simp only at hq
      split at hq
      · cases hq
      · cases hq; exact ih j _ h
/-- the beats of a write are stored -/
theorem c_store_L {Γ : gm_T} {a am y : Nat} {e : WE} {spo : Nat → Bool} {g : Nat → Option (Nat × Nat)} {mem : Nat → Nat} (hru : ruN e.con = 0) (hgl : e.got = leN e.con) (ho : Γ a = .inr 8) (g4 : gA Γ (a + 30) 0 = some 64) (g5 : gA Γ (a + 31) 0 = some 64) (hb : ∀ j q, g j = some q → q.1 < 65536 ∧ q.2 < 129) (hma : am + 3 ≤ a ∨ a + 32 ≤ am) (hy1 : a + 4 ≤ y) (hy2 : y + 3 ≤ a + 16) : ∀ (d i fu : Nat) (φ : ph_T), i + d = leN e.con → d < fu → φ.2.2 a 0 = some am → φ.2.2 a 4 = some (a + 30) → φ.2.2 a 5 = some (a + 31) →
    CBl Γ φ y → φ.2.1 y 0 = e.con → φ.1 y 3 = nI e.got → (∀ i, i < e.got → φ.2.1 (y + 1) i = e.dat i ∧ φ.1 (y + 2) i = e.rst i) → CMem Γ φ am (stN e i mem) spo → Rg φ a (rgN e i g) →
    ∃ φ', f_Slave_storeBeats_L2 Γ fu φ a (some y) (nI i) = some ((), φ') ∧ FrP (fun b => (am ≤ b ∧ b < am + 3) ∨ b = a + 30) φ φ' ∧ CMem Γ φ' am (stN e (leN e.con) mem) spo ∧ Rg φ' a (rgN e (leN e.con) g) := by
  have hle := leN_le e.con
  intro d
  induction d with
  | zero =>
    intro i fu φ hd hfu f0 f4 f5 hbl hc hn hdat hm hr
    match fu, hfu with
    | fu + 1, _ =>
      have hi : i = leN e.con := by omega
      subst hi
      refine ⟨φ, ?_, FrP.refl _ _, hm, hr⟩
      unfold f_Slave_storeBeats_L2
      simp (disch := first | assumption | omega) only [Option.bind_some, hbl.o, if_true, hn, ↓zm1, zI_ne_m, zI_m_ne, zI_lit, zI_le, zI_eq, zI_mul, zI_lt, zI_modn, zI_div, zI_sub, zI_add, zN_mod]
      rw [if_pos (by omega)]
  | succ d ih =>
    intro i fu φ hd hfu f0 f4 f5 hbl hc hn hdat hm hr
    match fu, hfu with
    | fu + 1, hfu =>
      have hba := ba_ok hru (k := i) (by omega)
      have hst := rSt_lt (e.rst i)
      obtain ⟨d1, d2⟩ := hdat i (by omega)
      obtain ⟨φ1, s1, s2, s3⟩ := c_store hm hba hst (e.dat i)
      have hr1 : Rg φ1 a (rgN e i g) := by
        intro j hj
        rw [s3.i (by omega), s3.i (by omega)]
        exact hr j hj
      obtain ⟨φ2, t1, t2, t3, t4⟩ := c_takeRights ho g4 g5 hba hst (by rw [s3.r (by omega)]; exact f4) (by rw [s3.r (by omega)]; exact f5) hr1 (rgN_bd hb i)
      have s3y : Sm y (y + 3) φ φ2 := (s3.sm (by omega)).trans (t2.sm (by omega))
      have hA := e_Burst_beatAddress Γ φ e.con (k := i) (by omega)
      obtain ⟨φ3, u1, u2, u3, u4⟩ := ih (i + 1) fu φ2 (by omega) (by omega) (by rw [t3, s3.r (by omega)]; exact f0) (by rw [t3, s3.r (by omega)]; exact f4) (by rw [t3, s3.r (by omega)]; exact f5) (hbl.up (s3y.r (by omega) (by omega))) (by rw [s3y.l (by omega) (by omega)]; exact hc) (by rw [s3y.i (by omega) (by omega)]; exact hn) (by rw [s3y.l (by omega) (by omega), s3y.i (by omega) (by omega)]; exact hdat) (s2.sm (t2.sm (by omega))) t4
      refine ⟨φ3, ?_, ((s3.toP (fun b h1 h2 => Or.inl ⟨h1, h2⟩)).trans (t2.toP (fun b h1 h2 => Or.inr (by omega)))).trans u2, u3, u4⟩
      unfold f_Slave_storeBeats_L2
      simp (disch := first | assumption | omega) only [Option.bind_some, hbl.o, if_true, hn, hc, hA, hbl.f6, hbl.f7, hbl.g6, hbl.g7, zix, d1, d2, ho, f0, hm.o, zI_lit, rSt_eq, s1, ↓zm1, zI_ne_m, zI_m_ne, zI_lit, zI_le, zI_eq, zI_mul, zI_lt, zI_modn, zI_div, zI_sub, zI_add, zN_mod]
      rw [if_neg (by omega), show (-nI 8 : Int32) = -8 from rfl, and_m8 (by omega), t1, Option.bind_some]
      exact u1
/-- whether a write's bytes are spoilt -/
theorem c_spoilt_L {Γ : gm_T} {φ : ph_T} {a am y : Nat} {e : WE} {mem : Nat → Nat} {spo : Nat → Bool} (hru : ruN e.con = 0) (hgl : e.got = leN e.con) (ho : Γ a = .inr 8) (f0 : φ.2.2 a 0 = some am) (hbl : CBl Γ φ y) (hc : φ.2.1 y 0 = e.con) (hn : φ.1 y 3 = nI e.got) (hdat : ∀ i, i < e.got → φ.2.1 (y + 1) i = e.dat i ∧ φ.1 (y + 2) i = e.rst i) (hm : CMem Γ φ am mem spo) : ∀ (d i fu : Nat), i + d = leN e.con → d < fu →
    f_Slave_writesSpoilt_L2 Γ fu φ a (some y) (nI i) = some (bI ((List.range d).any fun k => spoB spo (baN e.con (i + k)) (rSt (e.rst (i + k)))), φ) := by
  have hle := leN_le e.con
  intro d
  induction d with
  | zero =>
    intro i fu hd hfu
    match fu, hfu with
    | fu + 1, _ =>
      unfold f_Slave_writesSpoilt_L2
      simp (disch := first | assumption | omega) only [Option.bind_some, hbl.o, if_true, hn, ↓zm1, zI_ne_m, zI_m_ne, zI_lit, zI_le, zI_eq, zI_mul, zI_lt, zI_modn, zI_div, zI_sub, zI_add, zN_mod]
      rw [if_pos (by omega)]
      rfl
  | succ d ih =>
    intro i fu hd hfu
    match fu, hfu with
    | fu + 1, hfu =>
      have hr := ih (i + 1) fu (by omega) (by omega)
      have hba := ba_ok hru (k := i) (by omega)
      have hst := rSt_lt (e.rst i)
      obtain ⟨d1, d2⟩ := hdat i (by omega)
      have hA := e_Burst_beatAddress Γ φ e.con (k := i) (by omega)
      have hsp := c_isSpoilt hm hba hst
      have hany : ((List.range (d + 1)).any fun k => spoB spo (baN e.con (i + k)) (rSt (e.rst (i + k)))) = (spoB spo (baN e.con i) (rSt (e.rst i)) || (List.range d).any fun k => spoB spo (baN e.con (i + 1 + k)) (rSt (e.rst (i + 1 + k)))) := by
        rw [List.range_succ_eq_map, List.any_cons, List.any_map]
        congr 2
        funext k
        simp only [Function.comp]
        rw [show i + (k + 1) = i + 1 + k by omega]
      rw [hany]
      unfold f_Slave_writesSpoilt_L2
      simp (disch := first | assumption | omega) only [Option.bind_some, hbl.o, if_true, hn, hc, hA, hbl.f7, hbl.g7, zix, d2, ho, f0, hm.o, zI_lit, rSt_eq, hsp, ↓zm1, zI_ne_m, zI_m_ne, zI_lit, zI_le, zI_eq, zI_mul, zI_lt, zI_modn, zI_div, zI_sub, zI_add, zN_mod, bI_eq0]
      rw [if_neg (by omega)]
      cases hs : spoB spo (baN e.con i) (rSt (e.rst i)) with
      | false => simp only [if_true, Bool.false_or]; exact hr
      | true => simp [bI_t]
theorem c_spoilt {Γ : gm_T} {φ : ph_T} {a am y : Nat} {e : WE} {mem : Nat → Nat} {spo : Nat → Bool} (hru : ruN e.con = 0) (hgl : e.got = leN e.con) (ho : Γ a = .inr 8) (f0 : φ.2.2 a 0 = some am) (hbl : CBl Γ φ y) (hc : φ.2.1 y 0 = e.con) (hn : φ.1 y 3 = nI e.got) (hdat : ∀ i, i < e.got → φ.2.1 (y + 1) i = e.dat i ∧ φ.1 (y + 2) i = e.rst i) (hm : CMem Γ φ am mem spo) :
    f_Slave_writesSpoilt Γ φ a (some y) = some (bI (badW spo e), φ) := by
  have hle := leN_le e.con
  unfold f_Slave_writesSpoilt badW
  rw [zI_0, c_spoilt_L hru hgl ho f0 hbl hc hn hdat hm (leN e.con) 0 jF (by omega) (by unfold jF; omega)]
  simp only [Nat.zero_add]
