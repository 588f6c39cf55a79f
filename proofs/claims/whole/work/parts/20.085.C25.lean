/-! THE CLASS: the crossbar moves addresses -/
theorem zI_eq_ite {α : Type} {a b : Nat} (ha : a < 2 ^ 31) (hb : b < 2 ^ 31) (x y : α) : (if nI a = nI b then x else y) = (if a = b then x else y) := by
  by_cases h : a = b
  · rw [if_pos h, if_pos (by rw [h])]
  · rw [if_neg h, if_neg (fun hh => h ((zI_eq ha hb).mp hh))]
def hdC (l : List RE) : Int64 := match l with
  | [] => 0
  | e :: _ => e.c
def hdT (l : List RE) : Nat := match l with
  | [] => 0
  | e :: _ => e.t
theorem c_firstC {Γ : gm_T} {φ : ph_T} {a room : Nat} {tm : Bool} {l : List RE} (h : CRow Γ φ a room tm l) : f_Row_firstContent Γ φ a = some (hdC l, φ) := by
  cases l with
  | nil =>
    unfold f_Row_firstContent f_Row_firstContent_L17
    have h3 : ([] : List RE).length = 0 := rfl
    simp (disch := first | assumption | omega) only [h.o, if_true, h.n, h3, ↓zm1, zI_ne_m, zI_m_ne, zI_lit, zI_le, zI_eq, zI_mul, zI_lt, zI_modn, zI_div, zI_sub, zI_add, zN_mod, Nat.le_refl, hdC]
  | cons e l => exact c_firstContent h
theorem c_firstT {Γ : gm_T} {φ : ph_T} {a room : Nat} {l : List RE} (h : CRow Γ φ a room true l) : f_Row_firstCame Γ φ a = some (nI (hdT l), φ) := by
  cases l with
  | nil =>
    unfold f_Row_firstCame f_Row_firstCame_L17
    have h3 : ([] : List RE).length = 0 := rfl
    simp (disch := first | assumption | omega) only [h.o, if_true, h.n, h3, ↓zm1, zI_ne_m, zI_m_ne, zI_lit, zI_le, zI_eq, zI_mul, zI_lt, zI_modn, zI_div, zI_sub, zI_add, zN_mod, Nat.le_refl, hdT]
  | cons e l => exact c_firstCame h
theorem c_targetOf {Γ : gm_T} {φ : ph_T} {w : Nat} {S : XS} (h : CSw Γ φ w S) (c : Int64) : f_Switch_targetOf Γ φ w c = some (nI (S.tgt c), φ) := by
  have had := adN_lt c
  unfold f_Switch_targetOf XS.tgt
  rw [if_pos h.lay.o]
  simp (disch := first | assumption | omega) only [e_Burst_addressOf, Option.bind_some, h.lay.f3, h.lay.g3]
  rw [if_neg (by decide), show (4096 : Int32) = nI 4096 from rfl, zI_div (by omega) (by omega), zix (by omega), Option.bind_some, h.pg _ (by omega)]
theorem c_underWay {Γ : gm_T} {φ : ph_T} {w m c : Nat} {S : XS} (h : CSw Γ φ w S) (hm : m < S.nm) (hc : c = 0 ∨ c = 3) : f_Switch_underWay Γ φ w (nI m) (nI c) = some (some (swA w S.nm S.ns + (if c = 0 then 2 else 7) + 10 * m), φ) := by
  have h4 := h.lay.nm4
  unfold f_Switch_underWay f_Switch_underWay_L19
  rcases hc with rfl | rfl
  · rw [if_pos (by decide), if_pos h.lay.o, h.lay.f6, Option.bind_some, h.lay.g6, Option.bind_some, zix (by omega), Option.bind_some, h.lay.uw m hm]
    rfl
  · rw [if_neg (by decide), if_pos h.lay.o, h.lay.f7, Option.bind_some, h.lay.g7, Option.bind_some, zix (by omega), Option.bind_some, h.lay.ur m hm]
    rfl
theorem CSw.uv {Γ : gm_T} {φ : ph_T} {w m c : Nat} {S : XS} (h : CSw Γ φ w S) (hm : m < S.nm) : CUw Γ φ (swA w S.nm S.ns + (if c = 0 then 2 else 7) + 10 * m) ((if c = 0 then S.uw else S.ur).filter (isM m)) := by
  split
  · exact h.uw m hm
  · exact h.ur m hm
theorem c_may {Γ : gm_T} {φ : ph_T} {w m t c : Nat} {S : XS} (h : CSw Γ φ w S) (hB : Bd S) (hm : m < S.nm) (ht : t < S.ns + 1) (hc : c = 0 ∨ c = 3) : f_Switch_may Γ φ w (nI m) (nI t) (nI c) = some (bI (S.may c m t), φ) := by
  have h4 := h.lay.nm4
  have h5 := h.lay.ns4
  have hc5 : c < 5 := by omega
  have hrow := h.row (5 * m + c) (Or.inl (by omega))
  have hu := h.uv (c := c) hm
  have hpg := hB.pages
  have hlim := hB.lim
  unfold f_Switch_may f_Switch_may_L61 f_Switch_may_L62 XS.may
  rw [if_pos h.lay.o, c_ofMaster h hm hc5, Option.bind_some]
  simp only [Option.bind_some, hrow.o, if_true, c_holds hrow, bI_eqz]
  cases hr : S.row (5 * m + c) with
  | nil => simp [bI_f]; rfl
  | cons e l =>
    rw [hr] at hrow
    have htg : S.tgt e.c ≤ S.ns := hpg _
    rw [if_neg (by simp)]
    simp only [c_firstContent hrow, Option.bind_some, c_targetOf h, c_underWay h hm hc, e_Burst_idOf, hu.o, if_true, h.ob.lim, c_mayGo hu (idN_lt e.c) (show t < 8 by omega) hlim.2, bI_eqz]
    rw [zI_eq_ite (show S.tgt e.c < 2 ^ 31 by omega) (show t < 2 ^ 31 by omega)]
    rw [mayG_eq]
    by_cases e1 : S.tgt e.c = t
    · rw [if_pos e1]
      cases hg : (decide (((if c = 0 then S.uw else S.ur).filter (isM m)).length < S.lim) && ((if c = 0 then S.uw else S.ur).filter (isM m)).all (okG t (idN e.c))) with
      | false => simp [e1, bI_f]; rfl
      | true => simp [e1, bI_t]; rfl
    · rw [if_neg e1]
      simp [e1, bI_f]; rfl
theorem c_goesBefore {Γ : gm_T} {φ : ph_T} {w m o c : Nat} {S : XS} (h : CSw Γ φ w S) (hB : Bd S) (hm : m < S.nm) (ho : o < S.nm) (hc : c = 0 ∨ c = 3) : f_Switch_goesBefore Γ φ w (nI m) (nI o) (nI c) = some (bI (S.bef c m o), φ) := by
  have h4 := h.lay.nm4
  have hc5 : c < 5 := by omega
  have hpol := hB.pol
  have r1 := h.row (5 * m + c) (Or.inl (by omega))
  have r2 := h.row (5 * o + c) (Or.inl (by omega))
  have t1 : tmF (5 * m + c) = true := by unfold tmF; have : (5 * m + c) % 5 = c := by omega
                                         rw [this]; rcases hc with rfl | rfl <;> simp <;> omega
  have t2 : tmF (5 * o + c) = true := by unfold tmF; have : (5 * o + c) % 5 = c := by omega
                                         rw [this]; rcases hc with rfl | rfl <;> simp <;> omega
  rw [t1] at r1
  rw [t2] at r2
  have hT : ∀ i, S.came i < 2 ^ 24 := by
    intro i
    unfold XS.came
    cases hr : S.row i with
    | nil => simp
    | cons e l => exact hB.rowT i e (by rw [hr]; exact List.mem_cons_self ..)
  have hU : ∀ i, S.urg i < 16 := by
    intro i
    unfold XS.urg
    cases hr : S.row i with
    | nil => simp
    | cons e l => exact urN_lt e.c
  have f1 : f_Row_firstCame Γ φ (rA w S.nm (5 * m + c)) = some (nI (S.came (5 * m + c)), φ) := c_firstT r1
  have f2 : f_Row_firstCame Γ φ (rA w S.nm (5 * o + c)) = some (nI (S.came (5 * o + c)), φ) := c_firstT r2
  have u1 : ((f_Row_firstContent Γ φ (rA w S.nm (5 * m + c))).bind fun q => f_Burst_urgencyOf Γ q.2 q.1) = some (nI (S.urg (5 * m + c)), φ) := by
    rw [c_firstC r1, Option.bind_some, e_Burst_urgencyOf]
    have : urN (hdC (S.row (5 * m + c))) = S.urg (5 * m + c) := by
      unfold XS.urg hdC
      cases S.row (5 * m + c) with
      | nil => rfl
      | cons e l => rfl
    rw [this]
  have u2 : ((f_Row_firstContent Γ φ (rA w S.nm (5 * o + c))).bind fun q => f_Burst_urgencyOf Γ q.2 q.1) = some (nI (S.urg (5 * o + c)), φ) := by
    rw [c_firstC r2, Option.bind_some, e_Burst_urgencyOf]
    have : urN (hdC (S.row (5 * o + c))) = S.urg (5 * o + c) := by
      unfold XS.urg hdC
      cases S.row (5 * o + c) with
      | nil => rfl
      | cons e l => rfl
    rw [this]
  have a1 := hT (5 * m + c)
  have a2 := hT (5 * o + c)
  have b1 := hU (5 * m + c)
  have b2 := hU (5 * o + c)
  unfold f_Switch_goesBefore f_Switch_goesBefore_L42 f_Switch_goesBefore_L74 f_Switch_goesBefore_L75 XS.bef
  rw [if_pos h.lay.o, c_ofMaster h hm hc5, Option.bind_some]
  simp only [c_ofMaster h ho hc5, Option.bind_some, h.ob.pol]
  rw [show (2 : Int32) = nI 2 from rfl, show (3 : Int32) = nI 3 from rfl, zI_eq_ite (show S.pol < 2 ^ 31 by omega) (show 2 < 2 ^ 31 by omega), zI_eq_ite (show S.pol < 2 ^ 31 by omega) (show 3 < 2 ^ 31 by omega)]
  by_cases p2 : S.pol = 2
  · rw [if_pos p2, if_pos p2, if_pos r1.o, f1, Option.bind_some, if_pos r2.o]
    simp (disch := first | assumption | omega) only [f2, Option.bind_some, zI_le]
    by_cases hlt : S.came (5 * m + c) < S.came (5 * o + c)
    · rw [if_neg (by omega), if_pos (by decide)]; simp [hlt, bI_t]; rfl
    · rw [if_pos (by omega), if_pos (by decide)]; simp [hlt, bI_f]; rfl
  · rw [if_neg p2, if_neg p2]
    by_cases p3 : S.pol = 3
    · rw [if_pos p3, if_pos p3, if_pos r1.o]
      cases q1 : f_Row_firstContent Γ φ (rA w S.nm (5 * m + c)) with
      | none => rw [q1] at u1; cases u1
      | some v1 =>
        rw [q1, Option.bind_some] at u1
        cases q2 : f_Row_firstContent Γ φ (rA w S.nm (5 * o + c)) with
        | none => rw [q2] at u2; cases u2
        | some v2 =>
          rw [q2, Option.bind_some] at u2
          simp (disch := first | assumption | omega) only [Option.bind_some, u1, r2.o, if_true, q2, u2, zI_le]
          by_cases hlt : S.urg (5 * o + c) < S.urg (5 * m + c)
          · rw [if_neg (by omega), if_pos (by decide)]; simp [hlt, bI_t]; rfl
          · rw [if_pos (by omega), if_pos (by decide)]; simp [hlt, bI_f]; rfl
    · rw [if_neg p3, if_neg p3, if_pos (by decide)]; rfl
theorem arbF_s (S : XS) (c t st d i : Nat) (b : Option Nat) : S.arbF c t st (d + 1) i b = S.arbF c t st d (i + 1) (if S.may c ((st + i) % S.nm) t = true ∧ (match b with
    | none => true
    | some o => S.bef c ((st + i) % S.nm) o) = true then some ((st + i) % S.nm) else b) := rfl
theorem c_arb_L {Γ : gm_T} {φ : ph_T} {w t c st : Nat} {S : XS} (h : CSw Γ φ w S) (hB : Bd S) (ht : t < S.ns + 1) (hc : c = 0 ∨ c = 3) (hst : st < 10) : ∀ (d i fu : Nat) (b : Option Nat), i + d = S.nm → d < fu → (∀ o, b = some o → o < S.nm) →
    f_Switch_arbitrate_L31 Γ fu φ w (nI t) (nI c) (nI st) (oI b m1) (nI i) = some (oI (S.arbF c t (st % S.nm) d i b) m1, φ) := by
  have h4 := h.lay.nm4
  intro d
  induction d with
  | zero =>
    intro i fu b hd hfu hb
    match fu, hfu with
    | fu + 1, _ =>
      unfold f_Switch_arbitrate_L31 XS.arbF
      simp (disch := first | assumption | omega) only [h.lay.o, if_true, h.ob.nm, ↓zm1, zI_ne_m, zI_m_ne, zI_lit, zI_le, zI_eq, zI_mul, zI_lt, zI_modn, zI_div, zI_sub, zI_add, zN_mod]
      rw [if_pos (by omega)]
  | succ d ih =>
    intro i fu b hd hfu hb
    match fu, hfu with
    | fu + 1, hfu =>
      have hmod : (st + i) % S.nm < S.nm := Nat.mod_lt _ (by omega)
      have hmod2 : (st % S.nm + i) % S.nm = (st + i) % S.nm := by rw [Nat.mod_add_mod]
      have hix : (nI st + nI i) - (nI st + nI i) / nI S.nm * nI S.nm = nI ((st + i) % S.nm) := by rw [zI_add, zI_mod (by omega) (by omega)]
      have hmay := c_may h hB hmod ht hc
      rw [f_Switch_arbitrate_L31, arbF_s, hmod2]
      rw [if_pos h.lay.o, h.ob.nm, if_neg (by rw [zI_le (by omega) (by omega)]; omega), if_neg (by rw [zI_0, zI_eq (by omega) (by omega)]; omega), hix, hmay, Option.bind_some]
      simp only [bI_eqz]
      unfold f_Switch_arbitrate_L81 f_Switch_arbitrate_L85
      rw [show nI i + (1 : Int32) = nI (i + 1) from by rw [zI_1, zI_add]]
      cases hm : S.may c ((st + i) % S.nm) t with
      | false =>
        rw [if_pos rfl, if_neg (fun hh => by cases hh.1)]
        exact ih (i + 1) fu b (by omega) (by omega) hb
      | true =>
        rw [if_neg (by decide)]
        cases b with
        | none =>
          rw [if_pos (by rfl), if_pos ⟨rfl, rfl⟩]
          exact ih (i + 1) fu (some ((st + i) % S.nm)) (by omega) (by omega) (fun o ho => by cases ho; exact hmod)
        | some o =>
          have hol := hb o rfl
          rw [if_neg (show ¬ oI (some o) m1 = (-1 : Int32) from zI_ne_m1 (by omega))]
          have hg := c_goesBefore h hB hmod hol hc
          have hg' : f_Switch_goesBefore Γ φ w (nI ((st + i) % S.nm)) (oI (some o) m1) (nI c) = some (bI (S.bef c ((st + i) % S.nm) o), φ) := hg
          rw [hg', Option.bind_some]
          simp only [bI_eqz]
          cases hbf : S.bef c ((st + i) % S.nm) o with
          | false =>
            rw [if_pos rfl, if_neg (fun hh => by cases hh.2)]
            exact ih (i + 1) fu (some o) (by omega) (by omega) hb
          | true =>
            rw [if_neg (by decide)]
            simp only [and_self, if_true]
            exact ih (i + 1) fu (some ((st + i) % S.nm)) (by omega) (by omega) (fun o ho => by cases ho; exact hmod)
theorem c_arb {Γ : gm_T} {φ : ph_T} {w t c : Nat} {S : XS} (h : CSw Γ φ w S) (hB : Bd S) (ht : t < S.ns + 1) (hc : c = 0 ∨ c = 3) : f_Switch_arbitrate Γ φ w (nI t) (nI c) (oI (if c = 0 then S.la t else S.lr t) m1) = some (oI (S.arb c t) m1, φ) := by
  have h4 := h.lay.nm4
  have hpol := hB.pol
  have hL : ∀ o, (if c = 0 then S.la t else S.lr t) = some o → o < S.nm := by
    intro o ho
    split at ho
    · exact hB.la t o ho
    · exact hB.lr t o ho
  generalize hl : (if c = 0 then S.la t else S.lr t) = la at hL
  have hstart : ∃ st, st < 10 ∧ oI la m1 + (1 : Int32) = nI st ∧ st % S.nm = nxt la S.nm := by
    cases la with
    | none => exact ⟨0, by omega, by decide, by unfold nxt; exact Nat.zero_mod _⟩
    | some o => exact ⟨o + 1, by have := hL o rfl; omega, by show nI o + 1 = nI (o + 1); rw [zI_1, zI_add], rfl⟩
  obtain ⟨st, s1, s2, s3⟩ := hstart
  unfold f_Switch_arbitrate f_Switch_arbitrate_L16 f_Switch_arbitrate_L23 XS.arb
  rw [hl, if_pos h.lay.o, h.ob.pol, s2, show (1 : Int32) = nI 1 from rfl, show (3 : Int32) = nI 3 from rfl, zI_eq_ite (show S.pol < 2 ^ 31 by omega) (show 1 < 2 ^ 31 by omega), zI_eq_ite (show S.pol < 2 ^ 31 by omega) (show 3 < 2 ^ 31 by omega)]
  have k1 := c_arb_L h hB ht hc s1 S.nm 0 jF none (by omega) (by unfold jF; omega) (fun o ho => by cases ho)
  have k2 := c_arb_L h hB ht hc (show 0 < 10 by omega) S.nm 0 jF none (by omega) (by unfold jF; omega) (fun o ho => by cases ho)
  have k1' : f_Switch_arbitrate_L31 Γ jF φ w (nI t) (nI c) (nI st) (-nI 1) (0 : Int32) = some (oI (S.arbF c t (st % S.nm) S.nm 0 none) m1, φ) := k1
  have k2' : f_Switch_arbitrate_L31 Γ jF φ w (nI t) (nI c) (0 : Int32) (-nI 1) (0 : Int32) = some (oI (S.arbF c t (0 % S.nm) S.nm 0 none) m1, φ) := k2
  by_cases p1 : S.pol = 1
  · rw [if_pos p1, k1', s3, if_pos (Or.inl p1)]
  · rw [if_neg p1]
    by_cases p3 : S.pol = 3
    · rw [if_pos p3, k1', s3, if_pos (Or.inr p3)]
    · rw [if_neg p3, k2', Nat.zero_mod, if_neg (fun hh => by rcases hh with hh | hh; exact p1 hh; exact p3 hh)]
