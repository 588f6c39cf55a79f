/-! THE REFERENCE: which master -/
theorem oI_s (x : Nat) (d : Int32) : oI (some x) d = nI x := rfl
theorem oI_n (d : Int32) : oI none d = d := rfl
def XS.bet (S : XS) (c m o : Nat) : Bool :=
  if S.pol = 0 then decide (m < o)
  else if S.pol = 2 then decide (S.came (5 * m + c) < S.came (5 * o + c)) || (decide (S.came (5 * m + c) = S.came (5 * o + c)) && decide (m < o))
  else if S.pol = 3 then decide (S.urg (5 * o + c) < S.urg (5 * m + c)) else false
def XS.betO (S : XS) (c m : Nat) (b : Option Nat) : Bool := match b with
  | none => true
  | some o => S.bet c m o
def XS.chF (S : XS) (c t la : Nat) : Nat → Nat → Option Nat → Option Nat
  | 0, _, b => b
  | d + 1, k, b => S.chF c t la d (k + 1) (if (S.may c ((la + k) % S.nm) t && S.hasRm (5 * (4 + t) + c)) = true ∧ S.betO c ((la + k) % S.nm) b = true then some ((la + k) % S.nm) else b)
theorem r_isBetter {Γ : gm_T} {φ : ph_T} {r : Nat} {S : XS} (h : RV Γ φ r S) (hB : Bd S) {m o c : Nat} (hm : m < 4) (ho : o < 4) (hc : c < 5) (h1 : S.row (5 * m + c) ≠ []) (h2 : S.row (5 * o + c) ≠ []) : f_Ref_isBetter Γ φ r (nI m) (nI o) (nI c) = some (bI (S.bet c m o), φ) := by
  have hpol := hB.pol
  obtain ⟨e1, l1, q1⟩ := List.exists_cons_of_ne_nil h1
  obtain ⟨e2, l2, q2⟩ := List.exists_cons_of_ne_nil h2
  have he1 := h.row.hent (5 * m + c) 0 e1 (by omega) (XS.row_at q1)
  have he2 := h.row.hent (5 * o + c) 0 e2 (by omega) (XS.row_at q2)
  simp only [Nat.add_zero] at he1 he2
  have t1 := hB.rowT (5 * m + c) e1 (by rw [q1]; exact List.mem_cons_self)
  have t2 := hB.rowT (5 * o + c) e2 (by rw [q2]; exact List.mem_cons_self)
  have u1 := urN_lt e1.c
  have u2 := urN_lt e2.c
  have c1 : S.came (5 * m + c) = e1.t := by unfold XS.came; rw [q1]
  have c2 : S.came (5 * o + c) = e2.t := by unfold XS.came; rw [q2]
  have g1 : S.urg (5 * m + c) = urN e1.c := by unfold XS.urg; rw [q1]
  have g2 : S.urg (5 * o + c) = urN e2.c := by unfold XS.urg; rw [q2]
  unfold f_Ref_isBetter f_Ref_isBetter_L39 f_Ref_isBetter_L87 f_Ref_isBetter_L91 f_Ref_isBetter_L92 f_Ref_isBetter_L128 f_Ref_isBetter_L129 XS.bet
  rw [c1, c2, g1, g2]
  simp (disch := first | assumption | omega) only [h.rl.o, rf_39 h.rl, rg_39 h.rl, rf_41 h.rl, rg_41 h.rl, e_rowOf0, Option.bind_some, if_true, zix, h.sc.pol, zI_lit, zI_eq, zI_le, zI_lt, zI_mul, he1, he2, e_Ref_urgencyOf, z_or0, z_or1]
  by_cases p0 : S.pol = 0
  · simp only [p0, if_true]
    by_cases x : o ≤ m
    · simp [x, show ¬ m < o by omega, bI]
    · simp [x, show m < o by omega, bI]
  · by_cases p2 : S.pol = 2
    · simp only [p0, p2, if_true, if_false]
      by_cases x : e1.t < e2.t
      · simp [x, bI]
      · by_cases y : e1.t = e2.t
        · by_cases z : o ≤ m
          · simp [x, y, z, show ¬ m < o by omega, bI]
          · simp [x, y, z, show m < o by omega, bI]
        · simp [x, y, bI]
    · by_cases p3 : S.pol = 3
      · simp only [p0, p2, p3, if_true, if_false]
        by_cases x : urN e1.c ≤ urN e2.c
        · simp [x, show ¬ urN e2.c < urN e1.c by omega, bI]
        · simp [x, show urN e2.c < urN e1.c by omega, bI]
      · simp [p0, p2, p3, bI]
theorem may_row {S : XS} {c m t : Nat} (h : S.may c m t = true) : S.row (5 * m + c) ≠ [] := by
  intro hr
  unfold XS.may at h
  rw [hr] at h
  cases h
theorem r_choose_L {Γ : gm_T} {φ : ph_T} {r : Nat} {S : XS} (h : RV Γ φ r S) (hB : Bd S) {t c la : Nat} (ht : t < 5) (hc : c = 0 ∨ c = 3) (hla : la < 4) : ∀ d k b fu, k + d = S.nm + 1 → d < fu → (∀ o, b = some o → o < 4 ∧ S.row (5 * o + c) ≠ []) →
    f_Ref_choose_L26 Γ fu φ r (nI t) (nI c) (nI la) (oI b m1) (nI k) = some (oI (S.chF c t la d k b) m1, φ) := by
  have hnm := hB.nm
  intro d
  induction d with
  | zero =>
    intro k b fu hd hf hb
    match fu, hf with
    | fu + 1, _ =>
      unfold f_Ref_choose_L26 XS.chF
      simp (disch := first | assumption | omega) only [h.rl.o, if_true, h.sc.nm, zI_lt]
      rw [if_pos (show S.nm < k by omega)]
  | succ d ih =>
    intro k b fu hd hf hb
    match fu, hf with
    | fu + 1, hf =>
      have hmod : (la + k) % S.nm < S.nm := Nat.mod_lt _ (by omega)
      unfold XS.chF
      have key : f_Ref_choose_L67 Γ (f_Ref_choose_L26 Γ fu) φ r (nI t) (nI c) (nI la) (oI b m1) (nI k) (nI ((la + k) % S.nm)) (bI (S.may c ((la + k) % S.nm) t && S.hasRm (5 * (4 + t) + c))) = some (oI (S.chF c t la d (k + 1) (if (S.may c ((la + k) % S.nm) t && S.hasRm (5 * (4 + t) + c)) = true ∧ S.betO c ((la + k) % S.nm) b = true then some ((la + k) % S.nm) else b)) m1, φ) := by
        unfold f_Ref_choose_L67 f_Ref_choose_L92 f_Ref_choose_L97 f_Ref_choose_L99
        simp only [zI_lit, bI_eq0, zI_add, ↓zm1, h.rl.o, if_true]
        cases hmay : (S.may c ((la + k) % S.nm) t && S.hasRm (5 * (4 + t) + c)) with
        | false =>
          simp only [if_true, Bool.false_eq_true, false_and, if_false]
          exact ih (k + 1) b fu (by omega) (by omega) hb
        | true =>
          simp only [Bool.true_eq_false, if_false, true_and]
          have hrow : S.row (5 * ((la + k) % S.nm) + c) ≠ [] := by
            simp only [Bool.and_eq_true] at hmay
            exact may_row hmay.1
          have hsome := ih (k + 1) (some ((la + k) % S.nm)) fu (by omega) (by omega) (fun o ho => by cases ho; exact ⟨by omega, hrow⟩)
          cases b with
          | none =>
            rw [if_pos (show S.betO c ((la + k) % S.nm) none = true from rfl)]
            simp only [oI_n, if_true]
            exact hsome
          | some o =>
            obtain ⟨ho4, hro⟩ := hb o rfl
            have hbt := r_isBetter h hB (m := (la + k) % S.nm) (o := o) (c := c) (by omega) ho4 (by omega) hrow hro
            simp (disch := first | assumption | omega) only [oI_s, zI_ne_m, if_false, hbt, Option.bind_some, bI_eq0]
            by_cases hbb : S.bet c ((la + k) % S.nm) o = true
            · rw [if_neg (by rw [hbb]; decide), if_pos (show S.betO c ((la + k) % S.nm) (some o) = true from hbb)]
              exact hsome
            · rw [if_pos (by simpa using hbb), if_neg (show ¬ S.betO c ((la + k) % S.nm) (some o) = true from hbb)]
              exact ih (k + 1) (some o) fu (by omega) (by omega) hb
      rw [← key]
      conv => lhs; unfold f_Ref_choose_L26
      simp (disch := first | assumption | omega) only [h.rl.o, if_true, h.sc.nm, zI_lt, zI_lit, zI_eq, zI_add, zI_div, zI_mul, zI_modn, zN_mod]
      rw [if_neg (show ¬ S.nm < k by omega), if_neg (show ¬ S.nm = 0 by omega)]
      rcases hc with hc | hc
      · subst hc
        rw [if_pos rfl, r_mayWrite h hB (by omega) ht, Option.bind_some]
      · subst hc
        rw [if_neg (show ¬ (3 = 0) by omega), r_mayRead h hB (by omega) ht, Option.bind_some]
def lstA (o : Option Nat) (n : Nat) : Nat := match o with
  | none => n - 1
  | some x => x
theorem oI_lst (o : Option Nat) (n : Nat) : oI o (nI (n - 1)) = nI (lstA o n) := by cases o <;> rfl
theorem r_choose {Γ : gm_T} {φ : ph_T} {r : Nat} {S : XS} (h : RV Γ φ r S) (hB : Bd S) {t c : Nat} (ht : t < 5) (hc : c = 0 ∨ c = 3) : f_Ref_choose Γ φ r (nI t) (nI c) = some (oI (S.chF c t (lstA (if c = 0 then S.la t else S.lr t) S.nm) S.nm 1 none) m1, φ) := by
  have hnm := hB.nm
  have l1 := h.la.haw t ht
  have l2 := h.la.har t ht
  rw [oI_lst] at l1 l2
  unfold f_Ref_choose f_Ref_choose_L19
  rcases hc with hc | hc
  · subst hc
    have hla : lstA (S.la t) S.nm < 4 := by
      unfold lstA
      cases hx : S.la t with
      | none => simp only; omega
      | some x => have := hB.la t x hx; simp only; omega
    simp (disch := first | assumption | omega) only [zI_lit, if_true, h.rl.o, rf_52 h.rl, rg_52 h.rl, rf_53 h.rl, rg_53 h.rl, Option.bind_some, zix, l1, ↓zm1]
    exact r_choose_L h hB ht (Or.inl rfl) hla S.nm 1 none jF (by omega) (by unfold jF; omega) (fun o ho => by cases ho)
  · subst hc
    have hla : lstA (S.lr t) S.nm < 4 := by
      unfold lstA
      cases hx : S.lr t with
      | none => simp only; omega
      | some x => have := hB.lr t x hx; simp only; omega
    rw [if_neg (show ¬ (nI 3 = 0) by decide)]
    simp (disch := first | assumption | omega) only [zI_lit, if_true, h.rl.o, rf_52 h.rl, rg_52 h.rl, rf_53 h.rl, rg_53 h.rl, Option.bind_some, zix, l2, ↓zm1]
    exact r_choose_L h hB ht (Or.inr rfl) hla S.nm 1 none jF (by omega) (by unfold jF; omega) (fun o ho => by cases ho)
