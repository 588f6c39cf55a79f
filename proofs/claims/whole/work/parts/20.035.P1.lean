/-! Two orders of asking, one answer -/
def foS (P : Nat → Bool) (bt : Nat → Nat → Bool) (b : Option Nat) (m : Nat) : Option Nat := match b with
  | none => if P m = true then some m else none
  | some o => if P m = true ∧ bt m o = true then some m else some o
def fo (P : Nat → Bool) (bt : Nat → Nat → Bool) : List Nat → Option Nat → Option Nat
  | [], b => b
  | m :: l, b => fo P bt l (foS P bt b m)
theorem fo_cons (P : Nat → Bool) (bt : Nat → Nat → Bool) (m : Nat) (l : List Nat) (b : Option Nat) : fo P bt (m :: l) b = fo P bt l (foS P bt b m) := rfl
theorem fo_spec {P : Nat → Bool} {bt : Nat → Nat → Bool} (tr : ∀ x y z, bt x y = true → bt y z = true → bt x z = true) (tot : ∀ x y, x ≠ y → bt x y = true ∨ bt y x = true) :
    ∀ (l : List Nat) (b : Option Nat), (fo P bt l b = none → b = none ∧ ∀ y ∈ l, P y = false) ∧
      (∀ x, fo P bt l b = some x → (b = some x ∨ (x ∈ l ∧ P x = true)) ∧ (∀ y ∈ l, P y = true → y ≠ x → bt x y = true) ∧ (∀ o, b = some o → o ≠ x → bt x o = true)) := by
  intro l
  induction l with
  | nil =>
    intro b
    refine ⟨fun h => ⟨h, (fun y hy => by cases hy)⟩, fun x h => ⟨Or.inl h, (fun y hy => by cases hy), fun o ho hne => ?_⟩⟩
    unfold fo at h
    rw [h] at ho
    cases ho
    exact absurd rfl hne
  | cons m l ih =>
    intro b
    rw [fo_cons]
    obtain ⟨i1, i2⟩ := ih (foS P bt b m)
    constructor
    · intro h
      obtain ⟨j1, j2⟩ := i1 h
      unfold foS at j1
      cases b with
      | none =>
        simp only at j1
        split at j1
        · cases j1
        · rename_i hp
          refine ⟨rfl, fun y hy => ?_⟩
          rcases List.mem_cons.mp hy with e | e
          · subst e; simpa using hp
          · exact j2 y e
      | some o =>
        simp only at j1
        split at j1 <;> cases j1
    · intro x h
      obtain ⟨j1, j2, j3⟩ := i2 x h
      unfold foS at j1 j3
      cases b with
      | none =>
        simp only at j1 j3
        by_cases hp : P m = true
        · rw [if_pos hp] at j1 j3
          refine ⟨Or.inr ?_, fun y hy hy1 hy2 => ?_, fun o ho => by cases ho⟩
          · rcases j1 with j | j
            · cases j; exact ⟨List.mem_cons_self, hp⟩
            · exact ⟨List.mem_cons_of_mem _ j.1, j.2⟩
          · rcases List.mem_cons.mp hy with e | e
            · subst e; exact j3 y rfl hy2
            · exact j2 y e hy1 hy2
        · rw [if_neg hp] at j1 j3
          refine ⟨Or.inr ?_, fun y hy hy1 hy2 => ?_, fun o ho => by cases ho⟩
          · rcases j1 with j | j
            · cases j
            · exact ⟨List.mem_cons_of_mem _ j.1, j.2⟩
          · rcases List.mem_cons.mp hy with e | e
            · subst e; exact absurd hy1 hp
            · exact j2 y e hy1 hy2
      | some o =>
        simp only at j1 j3
        by_cases hp : P m = true ∧ bt m o = true
        · rw [if_pos hp] at j1 j3
          refine ⟨Or.inr ?_, fun y hy hy1 hy2 => ?_, fun o' ho hne => ?_⟩
          · rcases j1 with j | j
            · cases j; exact ⟨List.mem_cons_self, hp.1⟩
            · exact ⟨List.mem_cons_of_mem _ j.1, j.2⟩
          · rcases List.mem_cons.mp hy with e | e
            · subst e; exact j3 y rfl hy2
            · exact j2 y e hy1 hy2
          · cases ho
            by_cases hmx : m = x
            · subst hmx; exact hp.2
            · exact tr _ _ _ (j3 m rfl hmx) hp.2
        · rw [if_neg hp] at j1 j3
          refine ⟨?_, fun y hy hy1 hy2 => ?_, fun o' ho hne => j3 o' ho hne⟩
          · rcases j1 with j | j
            · exact Or.inl j
            · exact Or.inr ⟨List.mem_cons_of_mem _ j.1, j.2⟩
          · rcases List.mem_cons.mp hy with e | e
            · subst e
              have hnb : ¬ bt y o = true := fun hc => hp ⟨hy1, hc⟩
              by_cases hyo : y = o
              · subst hyo; exact j3 y rfl hy2
              · have hoy : bt o y = true := by
                  rcases tot y o hyo with q | q
                  · exact absurd q hnb
                  · exact q
                by_cases hox : o = x
                · subst hox; exact hoy
                · exact tr _ _ _ (j3 o rfl hox) hoy
            · exact j2 y e hy1 hy2
theorem fo_same {P : Nat → Bool} {bt : Nat → Nat → Bool} (tr : ∀ x y z, bt x y = true → bt y z = true → bt x z = true) (tot : ∀ x y, x ≠ y → bt x y = true ∨ bt y x = true) (asy : ∀ x y, bt x y = true → bt y x = true → False) {l1 l2 : List Nat} (hm : ∀ x, x ∈ l1 ↔ x ∈ l2) : fo P bt l1 none = fo P bt l2 none := by
  obtain ⟨a1, a2⟩ := fo_spec (P := P) tr tot l1 none
  obtain ⟨b1, b2⟩ := fo_spec (P := P) tr tot l2 none
  cases h1 : fo P bt l1 none with
  | none =>
    cases h2 : fo P bt l2 none with
    | none => rfl
    | some y =>
      obtain ⟨c1, _, _⟩ := b2 y h2
      rcases c1 with c | c
      · cases c
      · have := (a1 h1).2 y ((hm y).mpr c.1)
        rw [c.2] at this
        cases this
  | some x =>
    obtain ⟨d1, d2, _⟩ := a2 x h1
    have dx : x ∈ l1 ∧ P x = true := by rcases d1 with d | d; cases d; exact d
    cases h2 : fo P bt l2 none with
    | none =>
      have := (b1 h2).2 x ((hm x).mp dx.1)
      rw [dx.2] at this
      cases this
    | some y =>
      obtain ⟨c1, c2, _⟩ := b2 y h2
      have cy : y ∈ l2 ∧ P y = true := by rcases c1 with c | c; cases c; exact c
      by_cases hxy : x = y
      · rw [hxy]
      · exact (asy x y (d2 y ((hm y).mpr cy.1) cy.2 (Ne.symm hxy)) (c2 x ((hm x).mp dx.1) dx.2 hxy)).elim
theorem chF_fo (S : XS) (c t la : Nat) : ∀ d k b, S.chF c t la d k b = fo (fun m => S.may c m t && S.hasRm (5 * (4 + t) + c)) (S.bet c) ((List.range' k d).map fun i => (la + i) % S.nm) b := by
  intro d
  induction d with
  | zero => intro k b; rfl
  | succ d ih =>
    intro k b
    unfold XS.chF
    rw [ih, List.range'_succ, List.map_cons, fo_cons]
    congr 1
    unfold foS
    cases b with
    | none =>
      simp only
      have : S.betO c ((la + k) % S.nm) none = true := rfl
      simp only [this, and_true]
    | some o => rfl
theorem arbF_fo (S : XS) (c t st : Nat) (hp : ∀ m o, o < m → S.bet c m o = S.bef c m o) : ∀ d i b, st = 0 → i + d = S.nm → (∀ o, b = some o → o < i) → S.arbF c t st d i b = fo (fun m => S.may c m t) (S.bet c) (List.range' i d) b := by
  intro d
  induction d with
  | zero => intro i b _ _ _; rfl
  | succ d ih =>
    intro i b h0 hd hb
    unfold XS.arbF
    rw [List.range'_succ, fo_cons]
    have hmod : (st + i) % S.nm = i := by rw [h0, Nat.zero_add]; exact Nat.mod_eq_of_lt (by omega)
    rw [hmod]
    cases b with
    | none =>
      have e : (if S.may c i t = true ∧ (match (none : Option Nat) with
          | none => true
          | some o => S.bef c i o) = true then some i else none) = foS (fun m => S.may c m t) (S.bet c) none i := by
        unfold foS
        simp only [and_true]
      rw [e]
      refine ih (i + 1) _ h0 (by omega) ?_
      intro o ho
      unfold foS at ho
      simp only at ho
      split at ho
      · cases ho; omega
      · cases ho
    | some o =>
      have hlt := hb o rfl
      have e : (if S.may c i t = true ∧ (match (some o : Option Nat) with
          | none => true
          | some o => S.bef c i o) = true then some i else some o) = foS (fun m => S.may c m t) (S.bet c) (some o) i := by
        unfold foS
        simp only
        rw [hp i o hlt]
      rw [e]
      refine ih (i + 1) _ h0 (by omega) ?_
      intro o' ho
      unfold foS at ho
      simp only at ho
      split at ho
      · cases ho; omega
      · cases ho; omega
theorem arbF_rot (S : XS) (c t : Nat) (st la : Nat) (hn : 0 < S.nm) (hst : ∀ i, (st + i) % S.nm = (la + (i + 1)) % S.nm) (hp : ∀ m o, S.bet c m o = S.bef c m o) : ∀ d i b, S.arbF c t st d i b = fo (fun m => S.may c m t) (S.bet c) ((List.range' (i + 1) d).map fun i => (la + i) % S.nm) b := by
  intro d
  induction d with
  | zero => intro i b; rfl
  | succ d ih =>
    intro i b
    unfold XS.arbF
    rw [List.range'_succ, List.map_cons, hst i, fo_cons]
    rw [ih]
    congr 1
    cases b with
    | none =>
      unfold foS
      simp only [and_true]
    | some o =>
      unfold foS
      simp only
      rw [hp]
theorem rot_mem {n la x : Nat} (hn : 0 < n) (hla : la < n) : x ∈ ((List.range' 1 n).map fun i => (la + i) % n) ↔ x ∈ List.range' 0 n := by
  simp only [List.mem_map, List.mem_range'_1]
  constructor
  · rintro ⟨i, _, e⟩
    subst e
    have := Nat.mod_lt (la + i) hn
    omega
  · rintro ⟨_, hx⟩
    by_cases h : la < x
    · refine ⟨x - la, by omega, ?_⟩
      rw [show la + (x - la) = x by omega]
      exact Nat.mod_eq_of_lt (by omega)
    · refine ⟨x + n - la, by omega, ?_⟩
      rw [show la + (x + n - la) = x + n by omega, Nat.add_mod_right]
      exact Nat.mod_eq_of_lt (by omega)
theorem lstA_lt {o : Option Nat} {n : Nat} (hn : 0 < n) (ho : ∀ x, o = some x → x < n) : lstA o n < n := by
  unfold lstA
  cases o with
  | none => simp only; omega
  | some x => exact ho x rfl
theorem chF_arb {S : XS} (hB : Bd S) {c t : Nat} (hr : S.hasRm (5 * (4 + t) + c) = true) : S.chF c t (lstA (if c = 0 then S.la t else S.lr t) S.nm) S.nm 1 none = S.arb c t := by
  have hnm := hB.nm
  have hla : lstA (if c = 0 then S.la t else S.lr t) S.nm < S.nm := by
    refine lstA_lt (by omega) (fun x hx => ?_)
    split at hx
    · exact hB.la t x hx
    · exact hB.lr t x hx
  rw [chF_fo]
  have hP : (fun m => S.may c m t && S.hasRm (5 * (4 + t) + c)) = fun m => S.may c m t := by funext m; rw [hr, Bool.and_true]
  rw [hP]
  unfold XS.arb
  have hpol := hB.pol
  by_cases p13 : S.pol = 1 ∨ S.pol = 3
  · rw [if_pos p13]
    have hbb : ∀ m o, S.bet c m o = S.bef c m o := by
      intro m o
      unfold XS.bet XS.bef
      rcases p13 with p | p <;> simp [p]
    refine (arbF_rot S c t _ (lstA (if c = 0 then S.la t else S.lr t) S.nm) (by omega) (fun i => ?_) hbb S.nm 0 none).symm
    generalize (if c = 0 then S.la t else S.lr t) = q at hla ⊢
    unfold nxt lstA
    cases q with
    | none =>
      simp only
      rw [show S.nm - 1 + (i + 1) = i + S.nm by omega, Nat.add_mod_right, Nat.zero_add]
    | some x =>
      simp only
      rw [Nat.add_mod, Nat.mod_mod, ← Nat.add_mod, Nat.add_assoc, Nat.add_comm 1 i]
  · rw [if_neg p13]
    have h02 : S.pol = 0 ∨ S.pol = 2 := by omega
    have hbb : ∀ m o, o < m → S.bet c m o = S.bef c m o := by
      intro m o hmo
      unfold XS.bet XS.bef
      rcases h02 with p | p
      · simp [p, show ¬ m < o by omega]
      · simp [p, show ¬ m < o by omega]
    rw [arbF_fo S c t 0 hbb S.nm 0 none rfl (by omega) (fun o ho => by cases ho)]
    refine fo_same ?_ ?_ ?_ (fun x => rot_mem (by omega) hla)
    · intro x y z h1 h2
      unfold XS.bet at h1 h2 ⊢
      rcases h02 with p | p
      · simp only [p, if_true, decide_eq_true_eq] at h1 h2 ⊢; omega
      · simp only [p, show ¬ (2 = 0) by omega, if_true, if_false, Bool.or_eq_true, Bool.and_eq_true, decide_eq_true_eq] at h1 h2 ⊢; omega
    · intro x y hxy
      unfold XS.bet
      rcases h02 with p | p
      · simp only [p, if_true, decide_eq_true_eq]; omega
      · simp only [p, show ¬ (2 = 0) by omega, if_true, if_false, Bool.or_eq_true, Bool.and_eq_true, decide_eq_true_eq]; omega
    · intro x y h1 h2
      unfold XS.bet at h1 h2
      rcases h02 with p | p
      · simp only [p, if_true, decide_eq_true_eq] at h1 h2; omega
      · simp only [p, show ¬ (2 = 0) by omega, if_true, if_false, Bool.or_eq_true, Bool.and_eq_true, decide_eq_true_eq] at h1 h2; omega
theorem chF_none {S : XS} {c t la : Nat} (hr : S.hasRm (5 * (4 + t) + c) = false) : ∀ d k b, S.chF c t la d k b = b := by
  intro d
  induction d with
  | zero => intro k b; rfl
  | succ d ih =>
    intro k b
    unfold XS.chF
    rw [ih, hr, Bool.and_false]
    simp
