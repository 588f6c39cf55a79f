/-! THE REFERENCE's slaves: a write's bytes -/
def XS.mr (S : XS) (a : Nat → Nat) (b : Nat → Nat → Option (Nat × Nat)) : XS := (S.w_mem a).w_rgt b
theorem mr_mr (S : XS) (a c : Nat → Nat) (b d : Nat → Nat → Option (Nat × Nat)) : (S.mr a b).mr c d = S.mr c d := by
  unfold XS.mr
  funext k
  simp only [XS.w_mem, XS.w_rgt, XS.up]
  repeat' split
  all_goals first | rfl | omega
theorem mr_self (S : XS) : S.mr S.mem S.rgt = S := by
  unfold XS.mr
  rw [XS.w_mem_self]
  exact XS.w_rgt_self S
theorem mr_rgt (S : XS) (b : Nat → Nat → Option (Nat × Nat)) : S.w_rgt b = S.mr S.mem b := by
  unfold XS.mr
  rw [XS.w_mem_self]
theorem mr_mem (S : XS) (a : Nat → Nat) (b : Nat → Nat → Option (Nat × Nat)) : (S.mr a b).mem = a := rfl
theorem mr_r (S : XS) (a : Nat → Nat) (b : Nat → Nat → Option (Nat × Nat)) : (S.mr a b).rgt = b := rfl
def XS.wBy (S : XS) (s x : Nat) (d : Int64) (i : Nat) : XS := S.mr (va_up S.mem (x - x % 8 + i) (byN d i)) (va_up S.rgt s (takeR (S.rgt s) (x - x % 8 + i)))
def XS.wL (s x st : Nat) (d : Int64) : Nat → Nat → XS → XS
  | 0, _, S => S
  | n + 1, i, S => XS.wL s x st d n (i + 1) (if Nat.testBit st i = true then S.wBy s x d i else S)
theorem takeR_b {g : Nat → Option (Nat × Nat)} {x : Nat} (hR : ∀ j q, g j = some q → q.1 < 65536 ∧ q.2 < 129) : ∀ j q, takeR g x j = some q → q.1 < 65536 ∧ q.2 < 129 := by
  intro j q h
  unfold takeR at h
  cases hg : g j with
  | none => rw [hg] at h; cases h
  | some z =>
    rw [hg] at h
    simp only at h
    split at h
    · cases h
    · cases h
      exact hR j _ hg
theorem r_dw224 {Γ : gm_T} {r s i0 : Nat} {e : WE} {k st : Nat} (hs : s < 4) (hg : e.got = leN e.con) (hr : ruN e.con = 0) (hk : k < leN e.con) (hst : st = rSt (e.rst k)) (K : ph_T → Nat → Int32 → Int32 → Int64 → Int32 → Int32 → Option (Unit × ph_T)) (len : Int32) : ∀ (n i fu : Nat) (φ : ph_T) (S : XS), i + n = 8 → n < fu → RV Γ φ r S → (S.sw s)[i0]? = some e → (∀ j q, S.rgt s j = some q → q.1 < 65536 ∧ q.2 < 129) →
    ∃ φ', f_Ref_doWrite_L224 Γ K fu φ r (nI s) (nI e.place) e.con len (nI k) (nI i) = K φ' r (nI s) (nI e.place) e.con len (nI (k + 1)) ∧ RV Γ φ' r (XS.wL s (baN e.con k) st (e.dat k) n i S) ∧ RFr r [7, 70] φ φ' := by
  have hle := leN_le e.con
  have hba := ba_ok hr hk
  intro n
  induction n with
  | zero =>
    intro i fu φ S hd hfu h he hR
    match fu, hfu with
    | fu + 1, _ =>
      unfold f_Ref_doWrite_L224 XS.wL
      rw [if_pos (by rw [z8, zI_le (by omega) (by omega)]; omega), zI_1, zI_add]
      exact ⟨φ, rfl, h, RFr.refl _ _ _⟩
  | succ n ih =>
    intro i fu φ S hd hfu h he hR
    match fu, hfu with
    | fu + 1, hfu =>
      have hat := h.sw.hat s i0 e hs he
      have hdat := h.sw.hdat s i0 e hs he k (by omega) (by omega)
      unfold f_Ref_doWrite_L224 XS.wL
      rw [if_neg (by rw [z8, zI_le (by omega) (by omega)]; omega)]
      unfold f_Ref_doWrite_L299
      simp only [zI_lit, zI_add, zI_mul]
      rw [if_pos h.rl.o, rf_66 h.rl, Option.bind_some, rg_66 h.rl, Option.bind_some, zix (show 16 * e.place + k < 256 by omega), Option.bind_some, hdat.2, hst]
      by_cases hb : Nat.testBit (rSt (e.rst k)) i = true
      · have hy : baN e.con k - baN e.con k % 8 + i < 65536 := by omega
        rw [if_pos ((st_bit (rSt_lt _) (by omega)).mpr hb), if_pos hb, e_byteAt Γ φ (by omega) (ru_kind hr) (by omega), Option.bind_some, rf_65 h.rl, Option.bind_some, rg_65 h.rl, Option.bind_some, zix (show 16 * e.place + k < 256 by omega), Option.bind_some, rf_13 h.rl, Option.bind_some, rg_13 h.rl, Option.bind_some, zix hy, Option.bind_some, hdat.1, sh_l (show 8 * i < 64 by omega), show nI 255 = nI (2 ^ 8 - 1) from rfl, zL_cls (e.dat k) (show 8 * i < 64 by omega) (show 8 * i + 8 ≤ 64 by omega) (by omega)]
        have f1 : RFr r [7] φ (uI φ (r + 7) (baN e.con k - baN e.con k % 8 + i) (nI (byN (e.dat k) i))) := by repeat (first | exact RFr.refl _ _ _ | refine RFr.uI ?_ (by decide) _ _ | refine RFr.uL ?_ (by decide) _ _ | refine rfr_uO ?_ (by decide) _ _)
        have h1 : RV Γ (uI φ (r + 7) (baN e.con k - baN e.con k % 8 + i) (nI (byN (e.dat k) i))) r (S.w_mem (va_up S.mem (baN e.con k - baN e.con k % 8 + i) (byN (e.dat k) i))) := by
          refine ⟨(RL.up h.rl (congrFun f1.1 r)), (by rw [f1.o (by decide)]; exact ⟨h.sc.nm, h.sc.ns, h.sc.lim, h.sc.pol, h.sc.whole, h.sc.time, h.sc.tk, h.sc.wm, h.sc.rm, h.sc.db, h.sc.er⟩), (by rw [f1.i 1 (by decide)]; exact h.pg), (by rw [f1.i 2 (by decide)]; exact h.mp), (by rw [f1.i 3 (by decide)]; exact h.sp), (by rw [f1.i 4 (by decide)]; exact h.ea), (by rw [f1.i 5 (by decide)]; exact h.de), (by rw [f1.i 6 (by decide)]; exact h.wa), ?_, (by rw [f1.i 9 (by decide), f1.i 10 (by decide), f1.i 11 (by decide), f1.i 12 (by decide), f1.i 13 (by decide), f1.i 14 (by decide), f1.i 15 (by decide), f1.i 16 (by decide), f1.i 17 (by decide), f1.i 18 (by decide), f1.i 20 (by decide), f1.i 21 (by decide), f1.i 22 (by decide), f1.i 23 (by decide), f1.i 24 (by decide), f1.l 19 (by decide), f1.l 25 (by decide)]; exact h.tk), (by rw [f1.i 26 (by decide), f1.i 27 (by decide), f1.l 28 (by decide), f1.i 29 (by decide)]; exact h.wi), (by rw [f1.i 31 (by decide)]; exact h.tr), (by rw [f1.l 32 (by decide), f1.i 33 (by decide), f1.i 34 (by decide), f1.i 35 (by decide)]; exact h.row), (by rw [f1.i 36 (by decide), f1.i 37 (by decide), f1.i 38 (by decide), f1.i 39 (by decide)]; exact h.uw), (by rw [f1.i 40 (by decide), f1.i 41 (by decide), f1.i 42 (by decide)]; exact h.ur), (by rw [f1.i 43 (by decide), f1.i 44 (by decide), f1.i 45 (by decide), f1.i 46 (by decide), f1.i 47 (by decide)]; exact ⟨h.la.haw, h.la.har, h.la.hb, h.la.hg, h.la.hinn⟩), (by rw [f1.i 48 (by decide), f1.i 49 (by decide), f1.i 50 (by decide), f1.l 51 (by decide), f1.i 52 (by decide), f1.i 53 (by decide), f1.i 54 (by decide), f1.l 55 (by decide), f1.i 56 (by decide)]; exact h.sw), (by rw [f1.i 57 (by decide), f1.i 58 (by decide), f1.i 59 (by decide), f1.l 60 (by decide), f1.i 61 (by decide), f1.i 62 (by decide), f1.i 63 (by decide), f1.l 64 (by decide), f1.i 65 (by decide)]; exact h.sr), (by rw [f1.i 66 (by decide), f1.i 67 (by decide), f1.i 68 (by decide), f1.i 69 (by decide)]; exact ⟨h.ch.hnums, h.ch.hlat, h.ch.hchb, h.ch.hchr⟩), (by rw [f1.i 70 (by decide), f1.i 71 (by decide)]; exact h.rg), (by unfold maOf; rw [f1.i 72 (by decide), f1.l 73 (by decide), f1.i 74 (by decide), f1.i 75 (by decide), f1.i 76 (by decide), f1.i 77 (by decide), f1.i 78 (by decide), f1.i 79 (by decide), f1.i 80 (by decide), f1.i 81 (by decide), f1.l 82 (by decide), f1.i 83 (by decide), f1.i 84 (by decide), f1.i 85 (by decide), f1.l 86 (by decide), f1.i 87 (by decide)]; exact h.mo), (by rw [f1.i 88 (by decide), f1.i 89 (by decide), f1.l 90 (by decide), f1.i 91 (by decide)]; exact h.wt)⟩
          rw [f1.i 8 (by decide), uI_s]
          intro y hy2
          have := h.me y hy2
          show va_up _ _ _ y = nI (va_up S.mem _ _ y) ∧ _
          rw [vz_at, vz_at]
          refine ⟨?_, this.2⟩
          split
          · rfl
          · exact this.1
        obtain ⟨φ2, a1, a2, a3⟩ := r_takeRights h1 (x := baN e.con k - baN e.con k % 8 + i) hs (by omega) hR
        have a1' : f_Ref_takeRights Γ (uI φ (r + 7) (baN e.con k - baN e.con k % 8 + i) (nI (uN (e.dat k) / 2 ^ (8 * i) % 2 ^ 8))) r (nI s) (nI (baN e.con k - baN e.con k % 8 + i)) = some ((), φ2) := a1
        rw [a1', Option.bind_some]
        obtain ⟨φ', b1, b2, b3⟩ := ih (i + 1) fu φ2 (S.wBy s (baN e.con k) (e.dat k) i) (by omega) (by omega) a2 he (by
          intro j q hj
          have hj' : va_up S.rgt s (takeR (S.rgt s) (baN e.con k - baN e.con k % 8 + i)) s j = some q := hj
          rw [vz_same] at hj'
          exact takeR_b hR j q hj')
        rw [hst] at b2
        exact ⟨φ', b1, b2, (f1.mono (by decide)).trans ((a3.mono (by decide)).trans b3)⟩
      · rw [if_neg (fun hc => hb ((st_bit (rSt_lt _) (by omega)).mp hc)), if_neg hb]
        obtain ⟨φ', b1, b2, b3⟩ := ih (i + 1) fu φ S (by omega) (by omega) h he hR
        rw [hst] at b2
        exact ⟨φ', b1, b2, b3⟩
/-- a beat's bytes, all at once -/
def stI (mem : Nat → Nat) (x st : Nat) (d : Int64) (n i : Nat) : Nat → Nat := fun y => if y / 8 = x / 8 ∧ i ≤ y % 8 ∧ y % 8 < i + n ∧ Nat.testBit st (y % 8) = true then byN d (y % 8) else mem y
def hitI (a b x st n i : Nat) : Bool := (List.range' i n).any fun l => Nat.testBit st l && decide (a ≤ x - x % 8 + l) && decide (x - x % 8 + l < a + b)
def rgI (g : Nat → Option (Nat × Nat)) (x st n i : Nat) : Nat → Option (Nat × Nat) := fun j => match g j with
  | none => none
  | some q => if hitI q.1 q.2 x st n i = true then none else some q
theorem wL_eq (s x st : Nat) (d : Int64) : ∀ (n i : Nat) (S : XS), i + n = 8 → XS.wL s x st d n i S = S.mr (stI S.mem x st d n i) (va_up S.rgt s (rgI (S.rgt s) x st n i)) := by
  intro n
  induction n with
  | zero =>
    intro i S hi
    have h1 : stI S.mem x st d 0 i = S.mem := by
      funext y
      unfold stI
      rw [if_neg (by omega)]
    have h2 : va_up S.rgt s (rgI (S.rgt s) x st 0 i) = S.rgt := by
      funext t
      rw [vz_at]
      split
      · rename_i ht
        subst ht
        funext j
        unfold rgI hitI
        cases S.rgt t j <;> simp
      · rfl
    rw [h1, h2, mr_self]
    rfl
  | succ n ih =>
    intro i S hi
    rw [XS.wL, ih (i + 1) _ (by omega)]
    by_cases hb : Nat.testBit st i = true
    · rw [if_pos hb]
      unfold XS.wBy
      rw [mr_mr, mr_mem, mr_r, vz_same, vz_va]
      congr 1
      · funext y
        unfold stI
        rw [vz_at]
        by_cases hy : y = x - x % 8 + i
        · have h1 : y % 8 = i := by omega
          have h2 : y / 8 = x / 8 := by omega
          rw [if_neg (by omega), if_pos hy, if_pos ⟨h2, by omega, by omega, by rw [h1]; exact hb⟩, h1]
        · rw [if_neg hy]
          congr 1
          exact propext ⟨fun q => ⟨q.1, by omega, by omega, q.2.2.2⟩, fun q => ⟨q.1, by omega, by omega, q.2.2.2⟩⟩
      · congr 1
        funext j
        unfold rgI takeR
        cases S.rgt s j with
        | none => rfl
        | some q =>
          simp only
          unfold hitI
          rw [List.range'_succ, List.any_cons, hb, Bool.true_and]
          by_cases hq : q.1 ≤ x - x % 8 + i ∧ x - x % 8 + i < q.1 + q.2
          · rw [if_pos hq, decide_eq_true hq.1, decide_eq_true hq.2]
            simp
          · rw [if_neg hq]
            simp only
            have : (decide (q.1 ≤ x - x % 8 + i) && decide (x - x % 8 + i < q.1 + q.2)) = false := by
              rw [Bool.and_eq_false_iff, decide_eq_false_iff_not, decide_eq_false_iff_not]
              omega
            rw [this, Bool.false_or]
    · rw [if_neg hb]
      have hb' : Nat.testBit st i = false := by simpa using hb
      congr 1
      · funext y
        unfold stI
        congr 1
        refine propext ⟨fun q => ⟨q.1, by omega, by omega, q.2.2.2⟩, fun q => ⟨q.1, ?_, by omega, q.2.2.2⟩⟩
        have : y % 8 ≠ i := fun hc => by
          have := q.2.2.2
          rw [hc] at this
          exact hb this
        omega
      · congr 1
        funext j
        unfold rgI
        cases S.rgt s j with
        | none => rfl
        | some q =>
          simp only
          unfold hitI
          rw [List.range'_succ, List.any_cons, hb', Bool.false_and, Bool.false_and, Bool.false_or]
def rgB (g : Nat → Option (Nat × Nat)) (x st : Nat) : Nat → Option (Nat × Nat) := fun j => match g j with
  | none => none
  | some q => if hitB q.1 q.2 x st = true then none else some q
theorem wL_8 (s x st : Nat) (d : Int64) (S : XS) : XS.wL s x st d 8 0 S = S.mr (stB S.mem x st d) (va_up S.rgt s (rgB (S.rgt s) x st)) := by
  rw [wL_eq s x st d 8 0 S rfl]
  have h1 : stI S.mem x st d 8 0 = stB S.mem x st d := by
    funext y
    unfold stI stB
    congr 1
    exact propext ⟨fun q => ⟨q.1, q.2.2.2⟩, fun q => ⟨q.1, by omega, by omega, q.2⟩⟩
  have h2 : rgI (S.rgt s) x st 8 0 = rgB (S.rgt s) x st := by
    funext j
    unfold rgI rgB hitI hitB
    rw [List.range_eq_range']
  rw [h1, h2]
def XS.wN (s : Nat) (e : WE) : Nat → Nat → XS → XS
  | 0, _, S => S
  | d + 1, k, S => XS.wN s e d (k + 1) (XS.wL s (baN e.con k) (rSt (e.rst k)) (e.dat k) 8 0 S)
theorem wN_eq (s : Nat) (e : WE) (S0 : XS) : ∀ d k, XS.wN s e d k (S0.mr (stN e k S0.mem) (va_up S0.rgt s (rgN e k (S0.rgt s)))) = S0.mr (stN e (k + d) S0.mem) (va_up S0.rgt s (rgN e (k + d) (S0.rgt s))) := by
  intro d
  induction d with
  | zero => intro k; rfl
  | succ d ih =>
    intro k
    rw [XS.wN, wL_8, mr_mr, mr_mem, mr_r, vz_same, vz_va]
    have := ih (k + 1)
    rw [show k + 1 + d = k + (d + 1) by omega] at this
    rw [← this]
    rfl
theorem wN_all (s : Nat) (e : WE) (S : XS) : XS.wN s e (leN e.con) 0 S = S.mr (stN e (leN e.con) S.mem) (va_up S.rgt s (rgN e (leN e.con) (S.rgt s))) := by
  have h := wN_eq s e S (leN e.con) 0
  rw [Nat.zero_add] at h
  have h0 : S.mr (stN e 0 S.mem) (va_up S.rgt s (rgN e 0 (S.rgt s))) = S := by
    have : va_up S.rgt s (rgN e 0 (S.rgt s)) = S.rgt := by
      funext t
      rw [vz_at]
      split
      · rename_i ht; subst ht; rfl
      · rfl
    rw [this]
    exact mr_self S
  rw [h0] at h
  exact h
theorem rgB_b {g : Nat → Option (Nat × Nat)} {x st : Nat} (hR : ∀ j q, g j = some q → q.1 < 65536 ∧ q.2 < 129) : ∀ j q, rgB g x st j = some q → q.1 < 65536 ∧ q.2 < 129 := by
  intro j q h
  unfold rgB at h
  cases hg : g j with
  | none => rw [hg] at h; cases h
  | some z =>
    rw [hg] at h
    simp only at h
    split at h
    · cases h
    · cases h
      exact hR j _ hg
theorem r_dw214 {Γ : gm_T} {r s i0 : Nat} {e : WE} (hs : s < 4) (hg : e.got = leN e.con) (hr : ruN e.con = 0) : ∀ (d k fu : Nat) (φ : ph_T) (S : XS), k + d = leN e.con → d < fu → RV Γ φ r S → (S.sw s)[i0]? = some e → (∀ j q, S.rgt s j = some q → q.1 < 65536 ∧ q.2 < 129) →
    ∃ φ', f_Ref_doWrite_L214 Γ fu φ r (nI s) (nI e.place) e.con (nI (leN e.con)) (nI k) = some ((), φ') ∧ RV Γ φ' r (XS.wN s e d k S) ∧ RFr r [7, 70] φ φ' := by
  have hle := leN_le e.con
  intro d
  induction d with
  | zero =>
    intro k fu φ S hd hfu h he hR
    match fu, hfu with
    | fu + 1, _ =>
      unfold f_Ref_doWrite_L214
      rw [if_pos (by rw [zI_le (by omega) (by omega)]; omega)]
      exact ⟨φ, rfl, h, RFr.refl _ _ _⟩
  | succ d ih =>
    intro k fu φ S hd hfu h he hR
    match fu, hfu with
    | fu + 1, hfu =>
      unfold f_Ref_doWrite_L214
      rw [if_neg (by rw [zI_le (by omega) (by omega)]; omega), zI_0]
      obtain ⟨φ1, a1, a2, a3⟩ := r_dw224 hs hg hr (show k < leN e.con by omega) rfl (f_Ref_doWrite_L214 Γ fu) (nI (leN e.con)) 8 0 jF φ S rfl (by unfold jF; omega) h he hR
      obtain ⟨φ', b1, b2, b3⟩ := ih (k + 1) fu φ1 _ (by omega) (by omega) a2 (by rw [wL_8]; exact he) (by
        rw [wL_8, mr_r, vz_same]
        exact rgB_b hR)
      exact ⟨φ', a1.trans b1, b2, a3.trans b3⟩
