/-! THE CLASS: tickets by their master and kind -/
def isKey (m : Nat) (wr : Bool) (e : TK) : Bool := decide (e.m = m) && (e.wr == wr)
/-- the tickets of a master and a kind, in their order -/
def tix (l : List TK) (m : Nat) (wr : Bool) : List Nat := (List.range l.length).filter fun t => (l[t]?).any (isKey m wr)
def nSent (l : List TK) (m : Nat) (wr : Bool) : Nat := l.countP fun e => isKey m wr e && !decide (e.sent = m1)
def nFed (l : List TK) (m : Nat) : Nat := l.countP fun e => isKey m true e && !decide (e.beats < leN e.con)
def nOpn (l : List TK) (m : Nat) : Nat := l.countP fun e => decide (e.m = m) && decide (e.done = m1)
def TkO (l : List TK) : Prop := (∀ (m : Nat) (wr : Bool) (i t : Nat) (e : TK), (tix l m wr)[i]? = some t → l[t]? = some e → (e.sent = m1 ↔ nSent l m wr ≤ i)) ∧ (∀ (m i t : Nat) (e : TK), (tix l m true)[i]? = some t → l[t]? = some e → (e.beats < leN e.con ↔ nFed l m ≤ i))
theorem TkO.s {l : List TK} (h : TkO l) : ∀ (m : Nat) (wr : Bool) (i t : Nat) (e : TK), (tix l m wr)[i]? = some t → l[t]? = some e → (e.sent = m1 ↔ nSent l m wr ≤ i) := h.1
theorem TkO.f {l : List TK} (h : TkO l) : ∀ (m i t : Nat) (e : TK), (tix l m true)[i]? = some t → l[t]? = some e → (e.beats < leN e.con ↔ nFed l m ≤ i) := h.2
theorem findIdx?_range {α : Type} (p : α → Bool) (l : List α) : l.findIdx? p = (List.range l.length).find? fun t => (l[t]?).any p := by
  induction l with
  | nil => rfl
  | cons x l ih =>
    rw [List.findIdx?_cons, List.length_cons, List.range_succ_eq_map, List.find?_cons]
    simp only [List.getElem?_cons_zero, Option.any_some]
    cases hp : p x with
    | true => rfl
    | false =>
      simp only [Bool.false_eq_true, if_false]
      rw [ih, List.find?_map]
      congr 1
theorem find_tix {l : List TK} {m : Nat} {wr : Bool} {p : TK → Bool} (hp : ∀ e, p e = true → isKey m wr e = true) : l.findIdx? p = (tix l m wr).find? fun t => (l[t]?).any p := by
  rw [findIdx?_range, tix, List.find?_filter]
  congr 1
  funext t
  cases h : l[t]? with
  | none => rfl
  | some e =>
    simp only [Option.any_some]
    by_cases hpe : p e = true
    · simp [hpe, hp e hpe]
    · simp [hpe]
theorem find_pre {α : Type} {p : α → Bool} : ∀ {L : List α} {n : Nat}, (∀ i x, L[i]? = some x → (p x = true ↔ n ≤ i)) → L.find? p = L[n]? := by
  intro L
  induction L with
  | nil => intro n _; simp
  | cons x L ih =>
    intro n h
    rw [List.find?_cons]
    have h0 := h 0 x rfl
    cases n with
    | zero => rw [h0.mpr (Nat.le_refl _)]; rfl
    | succ n =>
      have : p x = false := by
        cases hp : p x with
        | false => rfl
        | true => have := h0.mp hp; omega
      rw [this]
      show L.find? p = L[n]?
      refine ih (fun i y hy => ?_)
      have := h (i + 1) y hy
      rw [this]
      omega
theorem tix_mem {l : List TK} {m : Nat} {wr : Bool} {i t : Nat} (h : (tix l m wr)[i]? = some t) : ∃ e, l[t]? = some e ∧ isKey m wr e = true := by
  have hm := List.mem_of_getElem? h
  unfold tix at hm
  rw [List.mem_filter] at hm
  obtain ⟨h1, h2⟩ := hm
  cases hl : l[t]? with
  | none => rw [hl] at h2; cases h2
  | some e => rw [hl] at h2; exact ⟨e, rfl, h2⟩
theorem tix_len (l : List TK) (m : Nat) (wr : Bool) : (tix l m wr).length ≤ l.length := by
  unfold tix
  refine Nat.le_trans (List.length_filter_le ..) ?_
  rw [List.length_range]
  exact Nat.le_refl _
theorem nd_filter {l : List Nat} (p : Nat → Bool) (h : l.Nodup) : (l.filter p).Nodup := List.Pairwise.filter p h
theorem uns_tix {l : List TK} (h : TkO l) (m : Nat) (wr : Bool) : l.findIdx? (isUns m wr) = (tix l m wr)[nSent l m wr]? := by
  rw [find_tix (m := m) (wr := wr) (fun e he => by
    unfold isUns at he
    simp only [Bool.and_eq_true] at he
    unfold isKey
    simp only [Bool.and_eq_true]
    exact he.1)]
  refine find_pre (fun i t ht => ?_)
  obtain ⟨e, he, hk⟩ := tix_mem ht
  rw [he]
  simp only [Option.any_some]
  rw [← h.s m wr i t e ht he]
  unfold isKey at hk
  unfold isUns
  rw [hk]
  simp
theorem unf_tix {l : List TK} (h : TkO l) (m : Nat) : l.findIdx? (isUnf m) = (tix l m true)[nFed l m]? := by
  rw [find_tix (m := m) (wr := true) (fun e he => by
    unfold isUnf at he
    simp only [Bool.and_eq_true] at he
    unfold isKey
    simp only [Bool.and_eq_true]
    exact ⟨he.1.1, by rw [he.1.2]; rfl⟩)]
  refine find_pre (fun i t ht => ?_)
  obtain ⟨e, he, hk⟩ := tix_mem ht
  rw [he]
  simp only [Option.any_some]
  rw [← h.f m i t e ht he]
  unfold isKey at hk
  simp only [Bool.and_eq_true] at hk
  unfold isUnf
  rw [hk.1, show e.wr = true from by simpa using hk.2]
  simp
/-- one ticket has changed, its master and kind have not -/
theorem tix_set {l : List TK} {t : Nat} {e e' : TK} (he : l[t]? = some e) (h1 : e'.m = e.m) (h2 : e'.wr = e.wr) (m : Nat) (wr : Bool) : tix (l.set t e') m wr = tix l m wr := by
  unfold tix
  rw [List.length_set]
  apply List.filter_congr
  intro k hk
  by_cases ek : k = t
  · subst ek
    rw [List.getElem?_set_self (List.getElem?_eq_some_iff.mp he).1, he]
    simp only [Option.any_some]
    unfold isKey
    rw [h1, h2]
  · rw [List.getElem?_set_ne (fun hh => ek hh.symm)]
theorem countP_set {α : Type} {p : α → Bool} : ∀ {l : List α} {t : Nat} {e : α} (e' : α), l[t]? = some e → (l.set t e').countP p + (if p e = true then 1 else 0) = l.countP p + (if p e' = true then 1 else 0) := by
  intro l
  induction l with
  | nil => intro t e e' h; simp at h
  | cons x l ih =>
    intro t e e' h
    cases t with
    | zero =>
      simp at h
      subst h
      rw [List.set_cons_zero, List.countP_cons, List.countP_cons]
      omega
    | succ t =>
      have h' : l[t]? = some e := h
      rw [List.set_cons_succ, List.countP_cons, List.countP_cons]
      have := ih e' h'
      omega
theorem countP_same {α : Type} {p : α → Bool} {l : List α} {t : Nat} {e e' : α} (h : l[t]? = some e) (hp : p e' = p e) : (l.set t e').countP p = l.countP p := by
  have := countP_set (p := p) e' h
  rw [hp] at this
  omega
theorem tix_app (l : List TK) (e : TK) (m : Nat) (wr : Bool) : tix (l ++ [e]) m wr = tix l m wr ++ (if isKey m wr e = true then [l.length] else []) := by
  unfold tix
  rw [List.length_append, List.length_singleton, List.range_succ, List.filter_append]
  congr 1
  · apply List.filter_congr
    intro k hk
    rw [List.getElem?_append_left (List.mem_range.mp hk)]
  · rw [List.filter_cons]
    simp
theorem nSent_le (l : List TK) (m : Nat) (wr : Bool) : nSent l m wr ≤ (tix l m wr).length := by
  have h : (tix l m wr).length = l.countP (isKey m wr) := by
    unfold tix
    induction l with
    | nil => rfl
    | cons x l ih =>
      rw [List.length_cons, List.range_succ_eq_map, List.filter_cons, List.countP_cons]
      simp only [List.getElem?_cons_zero, Option.any_some]
      rw [List.filter_map]
      have e : ((fun t => Option.any (isKey m wr) (x :: l)[t]?) ∘ Nat.succ) = fun t => Option.any (isKey m wr) l[t]? := by
        funext t
        rfl
      rw [e]
      split
      · rename_i hk
        rw [List.length_cons, List.length_map, ih]
      · rename_i hk
        rw [List.length_map, ih]; rfl
  rw [h]
  unfold nSent
  apply List.countP_mono_left
  intro e _ he
  simp only [Bool.and_eq_true] at he
  exact he.1
/-- what keeps the order of tickets -/
theorem TkO.sent {l : List TK} (h : TkO l) {m : Nat} {wr : Bool} {t : Nat} {e e' : TK} (ht : l.findIdx? (isUns m wr) = some t) (he : l[t]? = some e) (h1 : e'.m = e.m) (h2 : e'.wr = e.wr) (h3 : e'.sent ≠ m1) (h4 : e'.beats = e.beats) (h5 : e'.con = e.con) : TkO (l.set t e') ∧ nSent (l.set t e') m wr = nSent l m wr + 1 ∧ (∀ m' wr', ¬ (m' = m ∧ wr' = wr) → nSent (l.set t e') m' wr' = nSent l m' wr') ∧ ∀ m', nFed (l.set t e') m' = nFed l m' := by
  obtain ⟨e2, he2, _, hu⟩ := fi_some ht
  rw [he] at he2
  cases he2
  unfold isUns at hu
  simp only [Bool.and_eq_true, decide_eq_true_eq] at hu
  obtain ⟨⟨hm, hw⟩, hs⟩ := hu
  have hw' : e.wr = wr := by simpa using hw
  have hkey : isKey m wr e = true := by unfold isKey; simp [hm, hw']
  have hkey' : isKey m wr e' = true := by unfold isKey; rw [h1, h2]; simp [hm, hw']
  have n1 : nSent (l.set t e') m wr = nSent l m wr + 1 := by
    have := countP_set (p := fun e => isKey m wr e && !decide (e.sent = m1)) e' he
    simp only [hkey, hkey', hs, h3, decide_true, decide_false, Bool.not_true, Bool.not_false, Bool.and_false, Bool.and_true, Bool.false_eq_true, if_false, if_true] at this
    unfold nSent
    omega
  have n2 : ∀ m' wr', ¬ (m' = m ∧ wr' = wr) → nSent (l.set t e') m' wr' = nSent l m' wr' := by
    intro m' wr' hne
    have hk : isKey m' wr' e = false := by
      unfold isKey
      rw [hm, hw']
      by_cases a1 : m = m'
      · by_cases a2 : wr = wr'
        · exact absurd ⟨a1.symm, a2.symm⟩ hne
        · simp [a1]; cases wr <;> cases wr' <;> simp_all
      · simp [a1]
    have hk' : isKey m' wr' e' = false := by
      rw [← hk]
      unfold isKey
      rw [h1, h2]
    exact countP_same he (by simp only [hk, hk', Bool.false_and])
  have n3 : ∀ m', nFed (l.set t e') m' = nFed l m' := by
    intro m'
    refine countP_same he ?_
    have : isKey m' true e' = isKey m' true e := by unfold isKey; rw [h1, h2]
    simp only [this, h4, h5]
  refine ⟨⟨fun m' wr' i k x hi hx => ?_, fun m' i k x hi hx => ?_⟩, n1, n2, n3⟩
  · rw [tix_set he h1 h2] at hi
    by_cases hmw : m' = m ∧ wr' = wr
    · obtain ⟨rfl, rfl⟩ := hmw
      rw [n1]
      have htix := uns_tix h m' wr'
      rw [ht] at htix
      by_cases hk : k = t
      · subst hk
        rw [List.getElem?_set_self (List.getElem?_eq_some_iff.mp he).1] at hx
        cases hx
        have hnd : (tix l m' wr').Nodup := nd_filter _ List.nodup_range
        have hlt := (List.getElem?_eq_some_iff.mp hi).1
        have : i = nSent l m' wr' := (List.getElem?_inj hlt hnd).mp (hi.trans htix)
        constructor
        · intro hh; exact absurd hh h3
        · intro hh; omega
      · rw [List.getElem?_set_ne (fun hh => hk hh.symm)] at hx
        have := h.s m' wr' i k x hi hx
        rw [this]
        constructor
        · intro hh
          by_cases hie : i = nSent l m' wr'
          · subst hie
            rw [← htix] at hi
            cases hi
            exact absurd rfl hk
          · omega
        · intro hh; omega
    · rw [n2 m' wr' hmw]
      by_cases hk : k = t
      · subst hk
        obtain ⟨x2, hx2, hkk⟩ := tix_mem hi
        rw [he] at hx2
        cases hx2
        unfold isKey at hkk
        simp only [Bool.and_eq_true, decide_eq_true_eq] at hkk
        exact absurd ⟨hkk.1.symm.trans hm, (by have := hkk.2; rw [hw'] at this; simpa using (show wr = wr' by simpa using this).symm)⟩ hmw
      · rw [List.getElem?_set_ne (fun hh => hk hh.symm)] at hx
        exact h.s m' wr' i k x hi hx
  · rw [tix_set he h1 h2] at hi
    rw [n3]
    by_cases hk : k = t
    · subst hk
      rw [List.getElem?_set_self (List.getElem?_eq_some_iff.mp he).1] at hx
      cases hx
      rw [h4, h5]
      exact h.f m' i k e hi he
    · rw [List.getElem?_set_ne (fun hh => hk hh.symm)] at hx
      exact h.f m' i k x hi hx
theorem key_set {e e' : TK} (h1 : e'.m = e.m) (h2 : e'.wr = e.wr) (m : Nat) (wr : Bool) : isKey m wr e' = isKey m wr e := by unfold isKey; rw [h1, h2]
theorem TkO.keep {l : List TK} (h : TkO l) {t : Nat} {e e' : TK} (he : l[t]? = some e) (h1 : e'.m = e.m) (h2 : e'.wr = e.wr) (h3 : e'.sent = e.sent) (h4 : e.wr = true → (e'.beats < leN e'.con ↔ e.beats < leN e.con)) : TkO (l.set t e') ∧ (∀ m wr, nSent (l.set t e') m wr = nSent l m wr) ∧ ∀ m, nFed (l.set t e') m = nFed l m := by
  have n1 : ∀ m wr, nSent (l.set t e') m wr = nSent l m wr := by
    intro m wr
    refine countP_same he ?_
    simp only [key_set h1 h2, h3]
  have n3 : ∀ m, nFed (l.set t e') m = nFed l m := by
    intro m
    refine countP_same he ?_
    simp only [key_set h1 h2]
    cases hk : isKey m true e with
    | false => rfl
    | true =>
      have hw : e.wr = true := by unfold isKey at hk; simp at hk; exact hk.2
      have := h4 hw
      by_cases hb : e.beats < leN e.con
      · simp [hb, this.mpr hb]
      · simp [hb, fun hh => hb (this.mp hh)]
        have hb2 : ¬ e'.beats < leN e'.con := fun hh => hb (this.mp hh)
        omega
  refine ⟨⟨fun m wr i k x hi hx => ?_, fun m i k x hi hx => ?_⟩, n1, n3⟩
  · rw [tix_set he h1 h2] at hi
    rw [n1]
    by_cases hk : k = t
    · subst hk
      rw [List.getElem?_set_self (List.getElem?_eq_some_iff.mp he).1] at hx
      cases hx
      rw [h3]
      exact h.s m wr i k e hi he
    · rw [List.getElem?_set_ne (fun hh => hk hh.symm)] at hx
      exact h.s m wr i k x hi hx
  · rw [tix_set he h1 h2] at hi
    rw [n3]
    by_cases hk : k = t
    · subst hk
      rw [List.getElem?_set_self (List.getElem?_eq_some_iff.mp he).1] at hx
      cases hx
      obtain ⟨x2, hx2, hkk⟩ := tix_mem hi
      rw [he] at hx2
      cases hx2
      have hw : e.wr = true := by unfold isKey at hkk; simp at hkk; exact hkk.2
      rw [h4 hw]
      exact h.f m i k e hi he
    · rw [List.getElem?_set_ne (fun hh => hk hh.symm)] at hx
      exact h.f m i k x hi hx
theorem TkO.fed {l : List TK} (h : TkO l) {m : Nat} {t : Nat} {e e' : TK} (ht : l.findIdx? (isUnf m) = some t) (he : l[t]? = some e) (h1 : e'.m = e.m) (h2 : e'.wr = e.wr) (h3 : e'.sent = e.sent) (h4 : ¬ e'.beats < leN e'.con) : TkO (l.set t e') ∧ (∀ m wr, nSent (l.set t e') m wr = nSent l m wr) ∧ nFed (l.set t e') m = nFed l m + 1 ∧ ∀ m', m' ≠ m → nFed (l.set t e') m' = nFed l m' := by
  obtain ⟨e2, he2, _, hu⟩ := fi_some ht
  rw [he] at he2
  cases he2
  unfold isUnf at hu
  simp only [Bool.and_eq_true, decide_eq_true_eq] at hu
  obtain ⟨⟨hm, hw⟩, hs⟩ := hu
  have hkey : isKey m true e = true := by unfold isKey; simp [hm, hw]
  have n0 : ∀ m wr, nSent (l.set t e') m wr = nSent l m wr := by
    intro m wr
    refine countP_same he ?_
    simp only [key_set h1 h2, h3]
  have n1 : nFed (l.set t e') m = nFed l m + 1 := by
    have := countP_set (p := fun e => isKey m true e && !decide (e.beats < leN e.con)) e' he
    simp only [key_set h1 h2, hkey, hs, h4, decide_true, decide_false, Bool.not_true, Bool.not_false, Bool.and_false, Bool.and_true, Bool.false_eq_true, if_false, if_true] at this
    unfold nFed
    omega
  have n2 : ∀ m', m' ≠ m → nFed (l.set t e') m' = nFed l m' := by
    intro m' hne
    have hk : isKey m' true e = false := by
      unfold isKey
      rw [hm]
      simp [fun hh : m = m' => hne hh.symm]
      intro hh
      exact absurd hh.symm hne
    refine countP_same he ?_
    simp only [key_set h1 h2, hk, Bool.false_and]
  refine ⟨⟨fun m' wr i k x hi hx => ?_, fun m' i k x hi hx => ?_⟩, n0, n1, n2⟩
  · rw [tix_set he h1 h2] at hi
    rw [n0]
    by_cases hk : k = t
    · subst hk
      rw [List.getElem?_set_self (List.getElem?_eq_some_iff.mp he).1] at hx
      cases hx
      rw [h3]
      exact h.s m' wr i k e hi he
    · rw [List.getElem?_set_ne (fun hh => hk hh.symm)] at hx
      exact h.s m' wr i k x hi hx
  · rw [tix_set he h1 h2] at hi
    by_cases hmm : m' = m
    · subst hmm
      rw [n1]
      have htix := unf_tix h m'
      rw [ht] at htix
      by_cases hk : k = t
      · subst hk
        rw [List.getElem?_set_self (List.getElem?_eq_some_iff.mp he).1] at hx
        cases hx
        have hnd : (tix l m' true).Nodup := nd_filter _ List.nodup_range
        have hlt := (List.getElem?_eq_some_iff.mp hi).1
        have : i = nFed l m' := (List.getElem?_inj hlt hnd).mp (hi.trans htix)
        constructor
        · intro hh; exact absurd hh h4
        · intro hh; omega
      · rw [List.getElem?_set_ne (fun hh => hk hh.symm)] at hx
        have := h.f m' i k x hi hx
        rw [this]
        constructor
        · intro hh
          by_cases hie : i = nFed l m'
          · subst hie
            rw [← htix] at hi
            cases hi
            exact absurd rfl hk
          · omega
        · intro hh; omega
    · rw [n2 m' hmm]
      by_cases hk : k = t
      · subst hk
        obtain ⟨x2, hx2, hkk⟩ := tix_mem hi
        rw [he] at hx2
        cases hx2
        unfold isKey at hkk
        simp only [Bool.and_eq_true, decide_eq_true_eq] at hkk
        exact absurd (hkk.1.symm.trans hm) hmm
      · rw [List.getElem?_set_ne (fun hh => hk hh.symm)] at hx
        exact h.f m' i k x hi hx
