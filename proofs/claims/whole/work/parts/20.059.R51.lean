/-! THE REFERENCE's tick and drain -/
theorem passM_er (S : XS) (m c : Nat) : (S.passM m c).err = S.err := by
  unfold XS.passM
  simp only
  repeat' split
  all_goals rfl
theorem doWrite_er (S : XS) (s : Nat) (e : WE) : (S.doWrite s e).1.err = S.err := by
  rw [doWrite_st]
  repeat' split
  all_goals rfl
theorem passS_er (S : XS) (s c : Nat) : (S.passS s c).err = S.err := by
  unfold XS.passS
  simp only
  repeat' split
  all_goals first
    | rfl
    | exact doWrite_er (S.drop (5 * (4 + s) + 1)) s _
    | skip
  · exact doWrite_er (S.drop _) s _
theorem go1_er (S : XS) (j : Nat) : (S.go1 j).err = S.err := by
  unfold XS.go1 XS.pas
  split
  · split
    · exact passS_er (S.bump (j / 5) (j % 5)) _ _
    · exact passM_er (S.bump (j / 5) (j % 5)) _ _
  · rfl
theorem movA_er (S : XS) (c t : Nat) : (S.movA c t).err = S.err := by
  unfold XS.movA
  repeat' split
  all_goals rfl
theorem movD_er (S : XS) (m : Nat) : (S.movD m).err = S.err := by
  unfold XS.movD
  repeat' split
  all_goals rfl
theorem refW_er (S : XS) : S.refW.err = S.err := by
  unfold XS.refW
  repeat' split
  all_goals rfl
theorem refR_er (S : XS) : S.refR.err = S.err := by
  unfold XS.refR
  repeat' split
  all_goals rfl
theorem movB_er (S : XS) (m : Nat) : (S.movB m).err = S.err := by
  unfold XS.movB
  repeat' split
  all_goals rfl
theorem movR_er (S : XS) (m : Nat) : (S.movR m).err = S.err := by
  unfold XS.movR
  split
  · rfl
  · split
    · rfl
    · split
      · rfl
      · rfl
theorem iter_er {f : XS → Nat → XS} (hf : ∀ S i, (f S i).err = S.err) : ∀ d i S, (iterN f d i S).err = S.err := by
  intro d
  induction d with
  | zero => intro i S; rfl
  | succ d ih => intro i S; exact (ih (i + 1) (f S i)).trans (hf S i)
theorem move_er (S : XS) : S.move.err = S.err := by
  unfold XS.move
  simp only
  exact (iter_er movR_er _ _ _).trans ((iter_er movB_er _ _ _).trans ((refR_er _).trans ((refW_er _).trans ((iter_er movD_er _ _ _).trans ((iter_er (fun S t => movA_er S 3 t) _ _ _).trans (iter_er (fun S t => movA_er S 0 t) _ _ _))))))
theorem er_time (T : XS) (t : Nat) : (T.w_time t).err = T.err := rfl
theorem tk1_er (S : XS) : S.tk1.err = S.err := by
  unfold XS.tk1
  rw [er_time, move_er, XS.goA, iter_er go1_er]
  unfold XS.sh XS.shC XS.shB
  rfl
theorem r_errUp {Γ : gm_T} {φ : ph_T} {r : Nat} {T : XS} (h : RV Γ φ r T) (t : Nat) : RV Γ (uI φ r 0 (nI t)) r (T.w_err t) ∧ RFr r [0] φ (uI φ r 0 (nI t)) := by
  have f6 : RFr r [0] φ (uI φ r 0 (nI t)) := by repeat (first | exact RFr.refl _ _ _ | refine RFr.uI ?_ (by decide) _ _ | refine RFr.uL ?_ (by decide) _ _ | refine rfr_uO ?_ (by decide) _ _)
  refine ⟨?_, f6⟩
  exact ⟨(RL.up h.rl (congrFun f6.1 r)), (by
      rw [uI_s]
      exact ⟨h.sc.nm, h.sc.ns, h.sc.lim, h.sc.pol, h.sc.whole, h.sc.time, h.sc.tk, h.sc.wm, h.sc.rm, h.sc.db, vz_same _ _ _⟩), (by rw [f6.i 1 (by decide)]; exact h.pg), (by rw [f6.i 2 (by decide)]; exact h.mp), (by rw [f6.i 3 (by decide)]; exact h.sp), (by rw [f6.i 4 (by decide)]; exact h.ea), (by rw [f6.i 5 (by decide)]; exact h.de), (by rw [f6.i 6 (by decide)]; exact h.wa), (by rw [f6.i 7 (by decide), f6.i 8 (by decide)]; exact h.me), (by rw [f6.i 9 (by decide), f6.i 10 (by decide), f6.i 11 (by decide), f6.i 12 (by decide), f6.i 13 (by decide), f6.i 14 (by decide), f6.i 15 (by decide), f6.i 16 (by decide), f6.i 17 (by decide), f6.i 18 (by decide), f6.i 20 (by decide), f6.i 21 (by decide), f6.i 22 (by decide), f6.i 23 (by decide), f6.i 24 (by decide), f6.l 19 (by decide), f6.l 25 (by decide)]; exact h.tk), (by rw [f6.i 26 (by decide), f6.i 27 (by decide), f6.l 28 (by decide), f6.i 29 (by decide)]; exact h.wi), (by rw [f6.i 31 (by decide)]; exact h.tr), (by rw [f6.l 32 (by decide), f6.i 33 (by decide), f6.i 34 (by decide), f6.i 35 (by decide)]; exact h.row), (by rw [f6.i 36 (by decide), f6.i 37 (by decide), f6.i 38 (by decide), f6.i 39 (by decide)]; exact h.uw), (by rw [f6.i 40 (by decide), f6.i 41 (by decide), f6.i 42 (by decide)]; exact h.ur), (by rw [f6.i 43 (by decide), f6.i 44 (by decide), f6.i 45 (by decide), f6.i 46 (by decide), f6.i 47 (by decide)]; exact ⟨h.la.haw, h.la.har, h.la.hb, h.la.hg, h.la.hinn⟩), (by rw [f6.i 48 (by decide), f6.i 49 (by decide), f6.i 50 (by decide), f6.l 51 (by decide), f6.i 52 (by decide), f6.i 53 (by decide), f6.i 54 (by decide), f6.l 55 (by decide), f6.i 56 (by decide)]; exact h.sw), (by rw [f6.i 57 (by decide), f6.i 58 (by decide), f6.i 59 (by decide), f6.l 60 (by decide), f6.i 61 (by decide), f6.i 62 (by decide), f6.i 63 (by decide), f6.l 64 (by decide), f6.i 65 (by decide)]; exact h.sr), (by rw [f6.i 66 (by decide), f6.i 67 (by decide), f6.i 68 (by decide), f6.i 69 (by decide)]; exact ⟨h.ch.hnums, h.ch.hlat, h.ch.hchb, h.ch.hchr⟩), (by rw [f6.i 70 (by decide), f6.i 71 (by decide)]; exact h.rg), (by unfold maOf; rw [f6.i 72 (by decide), f6.l 73 (by decide), f6.i 74 (by decide), f6.i 75 (by decide), f6.i 76 (by decide), f6.i 77 (by decide), f6.i 78 (by decide), f6.i 79 (by decide), f6.i 80 (by decide), f6.i 81 (by decide), f6.l 82 (by decide), f6.i 83 (by decide), f6.i 84 (by decide), f6.i 85 (by decide), f6.l 86 (by decide), f6.i 87 (by decide)]; exact h.mo), (by rw [f6.i 88 (by decide), f6.i 89 (by decide), f6.l 90 (by decide), f6.i 91 (by decide)]; exact h.wt)⟩
theorem lg_lt (x y : Int64) : (lg_cmp x y < 0) = (x < y) := by
  unfold lg_cmp
  apply propext
  split
  · rename_i h
    refine ⟨fun e => absurd e (by decide), fun e => absurd h (by intro h2; exact Int64.lt_irrefl (Int64.lt_trans h2 e))⟩
  · split
    · rename_i h; subst h
      refine ⟨fun e => absurd e (by decide), fun e => absurd e Int64.lt_irrefl⟩
    · rename_i h1 h2
      refine ⟨fun _ => ?_, fun _ => by decide⟩
      rcases Int64.lt_or_eq_of_le (Int64.not_lt.mp h1) with h | h
      · exact h
      · exact absurd h h2
theorem lg_gt (x y : Int64) : (0 < lg_cmp x y) = (y < x) := by
  unfold lg_cmp
  apply propext
  split
  · rename_i h
    exact ⟨fun _ => h, fun _ => by decide⟩
  · rename_i h1
    split
    · exact ⟨fun e => absurd e (by decide), fun e => absurd e h1⟩
    · exact ⟨fun e => absurd e (by decide), fun e => absurd e h1⟩
def inL (x lo hi : Int64) : Bool := decide (¬ x < lo) && decide (¬ hi < x)
theorem e_in (Γ : gm_T) (φ : ph_T) (x lo hi : Int64) : f_Ref_in Γ φ x lo hi = some (bI (inL x lo hi), φ) := by
  unfold f_Ref_in f_Ref_in_L17 f_Ref_in_L18 inL
  simp only [lg_lt, lg_gt]
  by_cases h1 : x < lo
  · rw [if_pos h1, if_pos (by decide)]; simp [h1, bI_f]; rfl
  · rw [if_neg h1]
    by_cases h2 : hi < x
    · rw [if_pos h2, if_pos (by decide)]; simp [h2, bI_f]; rfl
    · rw [if_neg h2, if_pos (by decide)]; simp [h1, h2, bI_t]; rfl
theorem in_iff {x : Int32} {lo hi : Nat} (hl : lo ≤ hi) (hh : hi < 2 ^ 31) : inL x.toInt64 (nL lo) (nL hi) = true ↔ ∃ n, lo ≤ n ∧ n ≤ hi ∧ x = nI n := by
  have e1 : (nL lo).toInt = lo := Int64.toInt_ofNat_of_lt (by omega)
  have e2 : (nL hi).toInt = hi := Int64.toInt_ofNat_of_lt (by omega)
  unfold inL
  simp only [Bool.and_eq_true, decide_eq_true_eq, Int64.lt_iff_toInt_lt, Int32.toInt_toInt64, e1, e2]
  constructor
  · intro ⟨h1, h2⟩
    refine ⟨x.toInt.toNat, by omega, by omega, ?_⟩
    apply Int32.toInt_inj.mp
    rw [zI_toInt (by omega)]
    omega
  · rintro ⟨n, h1, h2, rfl⟩
    rw [zI_toInt (by omega)]
    omega
def XS.tkN : Nat → XS → XS
  | 0, S => S
  | n + 1, S => XS.tkN n S.tk1
def XS.mvN : Nat → XS → Nat
  | 0, _ => 0
  | n + 1, S => S.moves + XS.mvN n S.tk1
theorem r_tick_L {Γ : gm_T} {r : Nat} {J : Nat → XS → Prop} {I : Nat → XS → Prop} {M : XS → Prop} (hI : ∀ k, StI (J (k + 1)) I M) (hK : ∀ k S, J (k + 1) S → J k S.tk1) (hL : ∀ k S, J (k + 1) S → J k S) {n b : Nat} (hn : n ≤ 100) : ∀ (d i fu k : Nat) (φ : ph_T) (S : XS), i + d = n → d < fu → RV Γ φ r S → He φ r S → J (b + d) S → S.err = 0 →
    ∃ φ', f_Ref_tick_L25 Γ fu φ r (nI n) (nI k) (nI i) = some (nI (k + S.mvN d), φ') ∧ RV Γ φ' r (S.tkN d) ∧ He φ' r (S.tkN d) ∧ J b (S.tkN d) ∧ RFr r kAl φ φ' := by
  intro d
  induction d with
  | zero =>
    intro i fu k φ S hd hfu h hh hJ he
    match fu, hfu with
    | fu + 1, _ =>
      refine ⟨φ, ?_, h, hh, hJ, RFr.refl _ _ _⟩
      unfold f_Ref_tick_L25 f_Ref_tick_L50
      simp (disch := first | assumption | omega) only [↓zm1, zI_ne_m, zI_m_ne, zI_lit, zI_le, zI_eq, zI_mul, zI_lt, zI_modn, zI_div, zI_sub, zI_add, zN_mod]
      rw [if_pos (by omega)]
      rfl
  | succ d ih =>
    intro i fu k φ S hd hfu h hh hJ he
    match fu, hfu with
    | fu + 1, hfu =>
      obtain ⟨φ1, a1, a2, a3, a4⟩ := r_step (hI _) h hh hJ
      obtain ⟨φ2, b1, b2, b3, b4, b5⟩ := ih (i + 1) fu (k + S.moves) φ1 S.tk1 (by omega) (by omega) a2 a3 (hK _ S hJ) ((tk1_er S).trans he)
      refine ⟨φ2, ?_, b2, b3, b4, a4.trans b5⟩
      unfold f_Ref_tick_L25
      have e0 : φ.1 r 0 = nI 0 := by rw [h.sc.er, he]
      simp (disch := first | assumption | omega) only [h.rl.o, e0, a1, Option.bind_some, if_true, ↓zm1, zI_ne_m, zI_m_ne, zI_lit, zI_le, zI_eq, zI_mul, zI_lt, zI_modn, zI_div, zI_sub, zI_add, zN_mod]
      rw [if_neg (by omega), b1]
      simp only [XS.mvN, Nat.add_assoc]
theorem r_tick {Γ : gm_T} {φ : ph_T} {r : Nat} {S : XS} {J : Nat → XS → Prop} {I : Nat → XS → Prop} {M : XS → Prop} (hI : ∀ k, StI (J (k + 1)) I M) (hK : ∀ k S, J (k + 1) S → J k S.tk1) (hL : ∀ k S, J (k + 1) S → J k S) (hE : ∀ k S e, J k S → J k (S.w_err e)) (h : RV Γ φ r S) (hh : He φ r S) {n b : Nat} (hJ : J (b + n) S) (h1 : 1 ≤ n) (hn : n ≤ 100) :
    ∃ φ', f_Ref_tick Γ φ r (nI n) = some (nI ((S.w_err 0).mvN n), φ') ∧ RV Γ φ' r ((S.w_err 0).tkN n) ∧ He φ' r ((S.w_err 0).tkN n) ∧ J b ((S.w_err 0).tkN n) ∧ RFr r kAl φ φ' := by
  obtain ⟨a1, a2⟩ := r_errUp h 0
  have hh1 : He (uI φ r 0 (nI 0)) r (S.w_err 0) := fun j hj => by rw [a2.i 30 (by decide)]; exact hh j hj
  obtain ⟨φ2, b1, b2, b3, b4, b5⟩ := r_tick_L hI hK hL hn n 0 jF 0 _ _ (by omega) (by unfold jF; omega) a1 hh1 (hE _ S 0 hJ) rfl
  refine ⟨φ2, ?_, b2, b3, b4, (a2.mono (by decide)).trans b5⟩
  unfold f_Ref_tick f_Ref_tick_L18
  have e : inL (nI n).toInt64 (1 : Int64) (100 : Int64) = true := (in_iff (lo := 1) (hi := 100) (by omega) (by omega)).mpr ⟨n, h1, hn, rfl⟩
  rw [e_in, e, Option.bind_some, bI_t]
  rw [if_neg (show ¬ (nI 1, φ).1 = 0 from by show ¬ nI 1 = 0; decide), if_pos h.rl.o]
  rw [zI_0, b1, Nat.zero_add]
theorem r_tickX {Γ : gm_T} {φ : ph_T} {r : Nat} {S : XS} (h : RV Γ φ r S) (hh : He φ r S) {x : Int32} (hx : inL x.toInt64 (1 : Int64) (100 : Int64) = false) :
    ∃ φ', f_Ref_tick Γ φ r x = some (nI 0, φ') ∧ RV Γ φ' r (S.w_err 1) ∧ He φ' r (S.w_err 1) ∧ RFr r kAl φ φ' := by
  obtain ⟨a1, a2⟩ := r_errUp h 1
  have hh1 : He (uI φ r 0 (nI 1)) r (S.w_err 1) := fun j hj => by rw [a2.i 30 (by decide)]; exact hh j hj
  refine ⟨_, ?_, a1, hh1, a2.mono (by decide)⟩
  unfold f_Ref_tick f_Ref_tick_L18
  rw [e_in, hx, Option.bind_some, bI_f]
  rw [if_pos (show (nI 0, φ).1 = 0 from rfl), if_pos h.rl.o]
  unfold jF f_Ref_tick_L25 f_Ref_tick_L50
  have e0 : (uI φ r 0 (1 : Int32)).1 r 0 = nI 1 := a1.sc.er
  rw [if_pos h.rl.o, e0, if_neg (show ¬ nI 1 = 0 by decide)]
  split
  · rfl
  · rfl
/-- ticks till all is done -/
def XS.drS : Nat → XS → XS
  | 0, S => S
  | n + 1, S => if S.opn = 0 then S else XS.drS n S.tk1
def XS.drK : Nat → XS → Nat
  | 0, _ => 0
  | n + 1, S => if S.opn = 0 then 0 else XS.drK n S.tk1 + 1
theorem drK_le (n : Nat) : ∀ S : XS, S.drK n ≤ n := by
  induction n with
  | zero => intro S; exact Nat.le_refl _
  | succ n ih => intro S; unfold XS.drK; split; omega; have := ih S.tk1; omega
def drA (T : XS) (k : Nat) : Int32 := if T.opn = 0 then nI k else m1
theorem opn_le {Γ : gm_T} {φ : ph_T} {r : Nat} {S : XS} (h : RV Γ φ r S) : S.opn ≤ 64 := Nat.le_trans (List.countP_le_length) h.tk.hle
theorem r_drain_L {Γ : gm_T} {r : Nat} {J : Nat → XS → Prop} {I : Nat → XS → Prop} {M : XS → Prop} (hI : ∀ k, StI (J (k + 1)) I M) (hK : ∀ k S, J (k + 1) S → J k S.tk1) (hL : ∀ k S, J (k + 1) S → J k S) {n b : Nat} (hn : n ≤ 1000) : ∀ (d i fu : Nat) (φ : ph_T) (S : XS), i + d = n → d < fu → RV Γ φ r S → He φ r S → J (b + d) S →
    ∃ φ', f_Ref_drain_L32 Γ fu φ r (nI n) (nI i) = some (drA (S.drS d) (i + S.drK d), φ') ∧ RV Γ φ' r (S.drS d) ∧ He φ' r (S.drS d) ∧ J b (S.drS d) ∧ RFr r kAl φ φ' := by
  intro d
  induction d with
  | zero =>
    intro i fu φ S hd hfu h hh hJ
    have ho := opn_le h
    match fu, hfu with
    | fu + 1, _ =>
      refine ⟨φ, ?_, h, hh, hJ, RFr.refl _ _ _⟩
      unfold f_Ref_drain_L32 f_Ref_drain_L55 f_Ref_drain_L67
      simp (disch := first | assumption | omega) only [h.rl.o, r_open h, Option.bind_some, if_true, ↓zm1, zI_ne_m, zI_m_ne, zI_lit, zI_le, zI_eq, zI_mul, zI_lt, zI_modn, zI_div, zI_sub, zI_add, zN_mod]
      rw [if_pos (by omega)]
      unfold drA XS.drS XS.drK
      by_cases hz : S.opn = 0
      · rw [if_pos (by omega), if_pos hz]; rfl
      · rw [if_neg (by omega), if_neg hz]
  | succ d ih =>
    intro i fu φ S hd hfu h hh hJ
    have ho := opn_le h
    match fu, hfu with
    | fu + 1, hfu =>
      by_cases hz : S.opn = 0
      · have e1 : S.drS (d + 1) = S := by unfold XS.drS; rw [if_pos hz]
        have e2 : S.drK (d + 1) = 0 := by unfold XS.drK; rw [if_pos hz]
        rw [e1, e2]
        have hlow : ∀ d, J (b + d) S → J b S := fun d => by
          induction d with
          | zero => exact id
          | succ d ih => exact fun h => ih (hL _ S h)
        refine ⟨φ, ?_, h, hh, hlow _ hJ, RFr.refl _ _ _⟩
        unfold f_Ref_drain_L32 f_Ref_drain_L55 f_Ref_drain_L67
        simp (disch := first | assumption | omega) only [h.rl.o, r_open h, Option.bind_some, if_true, hz, ↓zm1, zI_ne_m, zI_m_ne, zI_lit, zI_le, zI_eq, zI_mul, zI_lt, zI_modn, zI_div, zI_sub, zI_add, zN_mod]
        rw [if_neg (by omega), if_pos (by omega)]
        unfold drA
        rw [if_pos hz]; rfl
      · have e1 : S.drS (d + 1) = S.tk1.drS d := by rw [XS.drS, if_neg hz]
        have e2 : S.drK (d + 1) = S.tk1.drK d + 1 := by rw [XS.drK, if_neg hz]
        rw [e1, e2]
        obtain ⟨φ1, a1, a2, a3, a4⟩ := r_step (hI _) h hh hJ
        obtain ⟨φ2, b1, b2, b3, b4, b5⟩ := ih (i + 1) fu φ1 S.tk1 (by omega) (by omega) a2 a3 (hK _ S hJ)
        refine ⟨φ2, ?_, b2, b3, b4, a4.trans b5⟩
        unfold f_Ref_drain_L32
        simp (disch := first | assumption | omega) only [h.rl.o, r_open h, a1, Option.bind_some, if_true, ↓zm1, zI_ne_m, zI_m_ne, zI_lit, zI_le, zI_eq, zI_mul, zI_lt, zI_modn, zI_div, zI_sub, zI_add, zN_mod]
        rw [if_neg (by omega), if_neg (by omega), b1]
        rw [show i + 1 + S.tk1.drK d = i + (S.tk1.drK d + 1) by omega]
theorem r_drain {Γ : gm_T} {φ : ph_T} {r : Nat} {S : XS} {J : Nat → XS → Prop} {I : Nat → XS → Prop} {M : XS → Prop} (hI : ∀ k, StI (J (k + 1)) I M) (hK : ∀ k S, J (k + 1) S → J k S.tk1) (hL : ∀ k S, J (k + 1) S → J k S) (hE : ∀ k S e, J k S → J k (S.w_err e)) (h : RV Γ φ r S) (hh : He φ r S) {n b : Nat} (hJ : J (b + n) S) (h1 : 1 ≤ n) (hn : n ≤ 1000) :
    ∃ φ', f_Ref_drain Γ φ r (nI n) = some (drA ((S.w_err 0).drS n) ((S.w_err 0).drK n), φ') ∧ RV Γ φ' r ((S.w_err 0).drS n) ∧ He φ' r ((S.w_err 0).drS n) ∧ J b ((S.w_err 0).drS n) ∧ RFr r kAl φ φ' := by
  obtain ⟨a1, a2⟩ := r_errUp h 0
  have hh1 : He (uI φ r 0 (nI 0)) r (S.w_err 0) := fun j hj => by rw [a2.i 30 (by decide)]; exact hh j hj
  obtain ⟨φ2, b1, b2, b3, b4, b5⟩ := r_drain_L hI hK hL hn n 0 jF _ _ (by omega) (by unfold jF; omega) a1 hh1 (hE _ S 0 hJ)
  refine ⟨φ2, ?_, b2, b3, b4, (a2.mono (by decide)).trans b5⟩
  unfold f_Ref_drain f_Ref_drain_L18
  have e : inL (nI n).toInt64 (1 : Int64) (1000 : Int64) = true := (in_iff (lo := 1) (hi := 1000) (by omega) (by omega)).mpr ⟨n, h1, hn, rfl⟩
  have e0 : (uI φ r 0 (0 : Int32)).1 r 0 = nI 0 := a1.sc.er
  rw [e_in, e, Option.bind_some, bI_t]
  rw [if_neg (show ¬ (nI 1, φ).1 = 0 from by show ¬ nI 1 = 0; decide), if_pos h.rl.o, if_pos h.rl.o, e0, if_pos (by decide)]
  rw [zI_0, b1, Nat.zero_add]
theorem r_drainX {Γ : gm_T} {φ : ph_T} {r : Nat} {S : XS} (h : RV Γ φ r S) (hh : He φ r S) {x : Int32} (hx : inL x.toInt64 (1 : Int64) (1000 : Int64) = false) :
    ∃ φ', f_Ref_drain Γ φ r x = some (nI 0, φ') ∧ RV Γ φ' r (S.w_err 1) ∧ He φ' r (S.w_err 1) ∧ RFr r kAl φ φ' := by
  obtain ⟨a1, a2⟩ := r_errUp h 1
  have hh1 : He (uI φ r 0 (nI 1)) r (S.w_err 1) := fun j hj => by rw [a2.i 30 (by decide)]; exact hh j hj
  refine ⟨_, ?_, a1, hh1, a2.mono (by decide)⟩
  unfold f_Ref_drain f_Ref_drain_L18
  have e0 : (uI φ r 0 (1 : Int32)).1 r 0 = nI 1 := a1.sc.er
  rw [e_in, hx, Option.bind_some, bI_f]
  rw [if_pos (show (nI 0, φ).1 = 0 from rfl), if_pos h.rl.o, if_pos h.rl.o, e0, if_neg (by decide)]
  rfl
