/-! THE STATE's OWN INVARIANTS: masters' beats, counts -/
theorem updF_nof {α : Type} {p : α → Bool} {f : α → α} : ∀ {l : List α}, l.find? p = none → updF p f l = l := by
  intro l
  induction l with
  | nil => intro _; rfl
  | cons x l ih =>
    intro h
    rw [List.find?_cons] at h
    unfold updF
    cases hp : p x with
    | true => rw [hp] at h; cases h
    | false =>
      rw [hp] at h
      rw [if_neg (by decide), ih h]
theorem updF_split {α : Type} {p : α → Bool} {f : α → α} : ∀ {l : List α} {t : α}, l.find? p = some t → ∃ l1 l2, l = l1 ++ t :: l2 ∧ (∀ x ∈ l1, p x = false) ∧ p t = true ∧ updF p f l = l1 ++ f t :: l2 := by
  intro l
  induction l with
  | nil => intro t h; cases h
  | cons x l ih =>
    intro t h
    rw [List.find?_cons] at h
    unfold updF
    cases hp : p x with
    | true =>
      rw [hp] at h
      obtain rfl := Option.some.inj h
      exact ⟨[], l, rfl, fun _ hx => absurd hx (List.not_mem_nil), hp, by simp⟩
    | false =>
      rw [hp] at h
      obtain ⟨l1, l2, e1, e2, e3, e4⟩ := ih h
      refine ⟨x :: l1, l2, by rw [e1]; rfl, ?_, e3, by rw [if_neg (by decide), e4]; rfl⟩
      intro y hy
      rcases List.mem_cons.mp hy with hy | hy
      · rw [hy]; exact hp
      · exact e2 y hy
theorem updF_mem {α : Type} {p : α → Bool} {f : α → α} {l : List α} {x : α} (h : x ∈ updF p f l) : x ∈ l ∨ ∃ y ∈ l, p y = true ∧ x = f y := by
  cases hf : l.find? p with
  | none => rw [updF_nof hf] at h; exact .inl h
  | some t =>
    obtain ⟨l1, l2, e1, e2, e3, e4⟩ := updF_split (f := f) hf
    rw [e4] at h
    rcases List.mem_append.mp h with h | h
    · exact .inl (by rw [e1]; exact List.mem_append_left _ h)
    · rcases List.mem_cons.mp h with h | h
      · exact .inr ⟨t, by rw [e1]; simp, e3, h⟩
      · exact .inl (by rw [e1]; simp [h])
/-- an update that a map does not see -/
theorem updF_flat {α β : Type} {p : α → Bool} {f : α → α} {g : α → List β} (h : ∀ x, p x = true → g (f x) = g x) (l : List α) : (updF p f l).flatMap g = l.flatMap g := by
  cases hf : l.find? p with
  | none => rw [updF_nof hf]
  | some t =>
    obtain ⟨l1, l2, e1, e2, e3, e4⟩ := updF_split (f := f) hf
    rw [e4, e1]
    simp only [List.flatMap_append, List.flatMap_cons, h t e3]
theorem updF_count {α : Type} {p q : α → Bool} {f : α → α} (h : ∀ x, p x = true → q (f x) = q x) (l : List α) : (updF p f l).countP q = l.countP q := by
  cases hf : l.find? p with
  | none => rw [updF_nof hf]
  | some t =>
    obtain ⟨l1, l2, e1, e2, e3, e4⟩ := updF_split (f := f) hf
    rw [e4, e1]
    simp only [List.countP_append, List.countP_cons, h t e3]
theorem updF_find {α : Type} {p q : α → Bool} {f : α → α} (h : ∀ x, p x = true → q (f x) = q x) {l : List α} {t : α} (ht : l.find? q = some t) : ∃ t', (updF p f l).find? q = some t' ∧ (t' = t ∨ (p t = true ∧ t' = f t)) := by
  induction l with
  | nil => cases ht
  | cons x l ih =>
    rw [List.find?_cons] at ht
    unfold updF
    by_cases hp : p x = true
    · rw [if_pos hp, List.find?_cons, h x hp]
      cases hq : q x with
      | true => rw [hq] at ht; obtain rfl := Option.some.inj ht; exact ⟨_, rfl, .inr ⟨hp, rfl⟩⟩
      | false => rw [hq] at ht; exact ⟨t, ht, .inl rfl⟩
    · rw [if_neg hp, List.find?_cons]
      cases hq : q x with
      | true => rw [hq] at ht; obtain rfl := Option.some.inj ht; exact ⟨_, rfl, .inl rfl⟩
      | false => rw [hq] at ht; exact ih ht
/-- a master's beats -/
def hU (m : Nat) (t : TK) : List Bool := if t.m = m ∧ t.wr = true then pat (leN t.con - t.beats) else []
def hS (m : Nat) (t : TK) : List Bool := if t.m = m ∧ t.wr = true ∧ t.sent = m1 then pat (leN t.con) else []
def EMc (m : Nat) (W AW : List RE) (uwm : List UE) (tk : List TK) : Prop := fl W ++ tk.flatMap (hU m) = patU uwm ++ (patR AW ++ tk.flatMap (hS m))
theorem EMc.movD {m : Nat} {d : RE} {W AW : List RE} {l1 l2 : List UE} {u : UE} {tk : List TK} (h : EMc m (d :: W) AW (l1 ++ u :: l2) tk) (h1 : ∀ v ∈ l1, v.left = 0) (hu : 0 < u.left) : rLa d.r = decide (u.left = 1) ∧ EMc m W AW (l1 ++ (u.w_left (u.left - 1)) :: l2) tk := by
  unfold EMc at h
  rw [patU_app, patU_cons, patU_zero h1, pat_cons hu] at h
  have h' : rLa d.r :: (fl W ++ tk.flatMap (hU m)) = decide (u.left = 1) :: (pat (u.left - 1) ++ patU l2 ++ (patR AW ++ tk.flatMap (hS m))) := h
  refine ⟨(List.cons.inj h').1, ?_⟩
  unfold EMc
  rw [patU_app, patU_cons, patU_zero h1]
  exact (List.cons.inj h').2
theorem EMc.movA {m : Nat} {e : RE} {W AW : List RE} {l : List UE} {u : UE} {tk : List TK} (h : EMc m W (e :: AW) l tk) (hu : u.left = leN e.c) : EMc m W AW (l ++ [u]) tk := by
  unfold EMc at *
  rw [h, patR_cons, patU_app, ← hu]
  simp [patU]
theorem EMc.erase {m : Nat} {W AW : List RE} {l1 l2 : List UE} {u : UE} {tk : List TK} (h : EMc m W AW (l1 ++ u :: l2) tk) (hu : u.left = 0) : EMc m W AW (l1 ++ l2) tk := by
  unfold EMc at *
  rw [h, patU_app, patU_app, patU_cons, hu]
  rfl
theorem EMc.upd {m : Nat} {W AW : List RE} {l : List UE} {tk : List TK} (h : EMc m W AW l tk) {p : TK → Bool} {f : TK → TK} (h1 : ∀ t, p t = true → hU m (f t) = hU m t ∧ hS m (f t) = hS m t) : EMc m W AW l (updF p f tk) := by
  unfold EMc at *
  rw [updF_flat (fun t ht => (h1 t ht).1), updF_flat (fun t ht => (h1 t ht).2)]
  exact h
theorem flat_nil {α β : Type} {g : α → List β} {l : List α} (h : ∀ x ∈ l, g x = []) : l.flatMap g = [] := List.flatMap_eq_nil_iff.mpr h
/-- an address is sent -/
theorem EMc.send {m : Nat} {W AW : List RE} {l : List UE} {tk : List TK} (h : EMc m W AW l tk) {t : TK} (ht : tk.find? (isUns m true) = some t) {e : RE} (he : leN e.c = leN t.con) {x : Int32} (hx : x ≠ m1) : EMc m W (AW ++ [e]) l (updF (isUns m true) (fun t => (t.w_sent (x))) tk) := by
  obtain ⟨l1, l2, e1, e2, e3, e4⟩ := updF_split (f := fun t : TK => ((t.w_sent (x)) : TK)) ht
  unfold EMc at *
  rw [updF_flat (g := hU m) (f := fun t : TK => ((t.w_sent (x)) : TK)) (fun t ht => rfl), h, e4, e1, patR_app]
  have z : l1.flatMap (hS m) = [] := flat_nil (fun y hy => by
    have := e2 y hy
    unfold hS
    rw [if_neg]
    intro hh
    unfold isUns at this
    simp [hh.1, hh.2.1, hh.2.2] at this)
  have z1 : hS m ((t.w_sent (x)) : TK) = [] := by
    unfold hS
    rw [if_neg]
    intro hh
    exact hx hh.2.2
  have z2 : hS m t = pat (leN t.con) := by
    unfold isUns at e3
    simp only [Bool.and_eq_true, decide_eq_true_eq, beq_iff_eq] at e3
    unfold hS
    rw [if_pos ⟨e3.1.1, e3.1.2, e3.2⟩]
  simp only [List.flatMap_append, List.flatMap_cons, z, z1, z2]
  simp [patR, he]
/-- a beat is sent -/
theorem EMc.feed {m : Nat} {W AW : List RE} {l : List UE} {tk : List TK} (h : EMc m W AW l tk) {t : TK} (ht : tk.find? (isUnf m) = some t) {d : RE} (hd : rLa d.r = decide (t.beats = leN t.con - 1)) {f : TK → TK} (hf : ∀ t, (f t).m = t.m ∧ (f t).wr = t.wr ∧ (f t).con = t.con ∧ (f t).sent = t.sent ∧ (f t).beats = t.beats + 1) : EMc m (W ++ [d]) AW l (updF (isUnf m) f tk) := by
  obtain ⟨l1, l2, e1, e2, e3, e4⟩ := updF_split (f := f) ht
  unfold EMc at *
  rw [updF_flat (g := hS m) (fun t _ => by
    obtain ⟨g1, g2, g3, g4, g5⟩ := hf t
    unfold hS
    rw [g1, g2, g3, g4]), ← h, e4, e1]
  have e3' := e3
  unfold isUnf at e3
  simp only [Bool.and_eq_true, decide_eq_true_eq] at e3
  obtain ⟨g1, g2, g3, g4, g5⟩ := hf t
  have z : l1.flatMap (hU m) = [] := flat_nil (fun y hy => by
    have := e2 y hy
    unfold hU
    split
    · rename_i hh
      unfold isUnf at this
      simp [hh.1, hh.2] at this
      rw [show leN y.con - y.beats = 0 by omega]; rfl
    · rfl)
  have z1 : hU m (f t) = pat (leN t.con - t.beats - 1) := by
    unfold hU
    rw [g1, g2, g3, g5, if_pos e3.1, Nat.sub_add_eq]
  have z2 : hU m t = decide (leN t.con - t.beats = 1) :: pat (leN t.con - t.beats - 1) := by
    unfold hU
    rw [if_pos e3.1, pat_cons (by omega)]
  have z3 : rLa d.r = decide (leN t.con - t.beats = 1) := by
    rw [hd]
    have := leN_pos t.con
    apply decide_eq_decide.mpr
    omega
  simp only [List.flatMap_append, List.flatMap_cons, z, z1, z2, fl, List.map_append, List.map_cons, List.map_nil, z3]
  simp
theorem EMc.ask {m : Nat} {W AW : List RE} {l : List UE} {tk : List TK} (h : EMc m W AW l tk) {t : TK} (hb : t.wr = true → t.beats = 0) (hs : t.sent = m1) : EMc m W AW l (tk ++ [t]) := by
  unfold EMc at *
  have e : hU m t = hS m t := by
    unfold hU hS
    by_cases g : t.m = m ∧ t.wr = true
    · rw [if_pos g, if_pos ⟨g.1, g.2, hs⟩, hb g.2]; rfl
    · rw [if_neg g, if_neg (fun hh => g ⟨hh.1, hh.2.1⟩)]
  rw [List.flatMap_append, List.flatMap_append, ← List.append_assoc, h]
  simp [e]
/-- nothing under way: all is fed -/
theorem EMc.fed {m : Nat} {W : List RE} {tk : List TK} (h : EMc m W [] [] tk) (hs : ∀ t ∈ tk, t.sent ≠ m1) : tk.find? (isUnf m) = none := by
  unfold EMc at h
  rw [flat_nil (g := hS m) (fun t ht => by
    unfold hS
    rw [if_neg]
    intro hh
    exact hs t ht hh.2.2)] at h
  have h2 := (List.append_eq_nil_iff.mp h).2
  rw [List.find?_eq_none]
  intro t ht hu
  unfold isUnf at hu
  simp only [Bool.and_eq_true, decide_eq_true_eq] at hu
  have := List.flatMap_eq_nil_iff.mp h2 t ht
  unfold hU at this
  rw [if_pos hu.1, pat_cons (by omega)] at this
  cases this
/-- answers that are owed to a master -/
def NCc (m id : Nat) (AW B : List RE) (uw : List UE) (tk : List TK) : Prop := tk.countP (isAns m true id) = AW.countP (fun e => decide (idN e.c = id)) + uw.countP (pMid m id) + B.countP (fun e => decide (rId e.r = id))
theorem NCc.send {m id : Nat} {AW B : List RE} {uw : List UE} {tk : List TK} (h : NCc m id AW B uw tk) {t : TK} (ht : tk.find? (isUns m true) = some t) (hd : t.done = m1) {e : RE} (he : idN e.c = idN t.con) {x : Int32} (hx : x ≠ m1) : NCc m id (AW ++ [e]) B uw (updF (isUns m true) (fun t => (t.w_sent (x))) tk) := by
  obtain ⟨l1, l2, e1, e2, e3, e4⟩ := updF_split (f := fun t : TK => ((t.w_sent (x)) : TK)) ht
  unfold isUns at e3
  simp only [Bool.and_eq_true, decide_eq_true_eq, beq_iff_eq] at e3
  unfold NCc at *
  have z1 : isAns m true id ((t.w_sent (x)) : TK) = decide (idN e.c = id) := by
    unfold isAns
    show (decide (t.m = m) && (t.wr == true) && decide (idN t.con = id) && !decide (x = m1) && decide (t.done = m1)) = _
    rw [e3.1.1, e3.1.2, hd, he]
    simp [hx]
  have z2 : isAns m true id t = false := by
    unfold isAns
    rw [e3.2]
    simp
  rw [e4]
  rw [e1] at h
  simp only [List.countP_append, List.countP_cons, z1, z2, List.countP_nil] at *
  simp only [Bool.false_eq_true, if_false] at h
  omega
theorem NCc.upd {m id : Nat} {AW B : List RE} {uw : List UE} {tk : List TK} (h : NCc m id AW B uw tk) {p : TK → Bool} {f : TK → TK} (h1 : ∀ t, p t = true → isAns m true id (f t) = isAns m true id t) : NCc m id AW B uw (updF p f tk) := by
  unfold NCc at *
  rw [updF_count h1]
  exact h
/-- an answer comes to its master -/
theorem NCc.came {m id : Nat} {e : RE} {AW B : List RE} {uw : List UE} {tk : List TK} (hE : NCc m (rId e.r) AW (e :: B) uw tk) (h : NCc m id AW (e :: B) uw tk) {f : TK → TK} (hf : ∀ t, (f t).done ≠ m1) : NCc m id AW B uw (updF (isAns m true (rId e.r)) f tk) := by
  unfold NCc at *
  have hpos : 0 < tk.countP (isAns m true (rId e.r)) := by
    rw [hE]
    simp only [List.countP_cons, decide_true, if_true]
    omega
  obtain ⟨t0, ht0, ht0'⟩ := List.countP_pos_iff.mp hpos
  obtain ⟨t, ht⟩ : ∃ t, tk.find? (isAns m true (rId e.r)) = some t := by
    cases hh : tk.find? (isAns m true (rId e.r)) with
    | some t => exact ⟨t, rfl⟩
    | none => exact absurd ht0' (List.find?_eq_none.mp hh t0 ht0)
  obtain ⟨l1, l2, e1, e2, e3, e4⟩ := updF_split (f := f) ht
  have z1 : isAns m true id (f t) = false := by
    unfold isAns
    simp [hf t]
  have z2 : isAns m true id t = decide (rId e.r = id) := by
    unfold isAns at *
    simp only [Bool.and_eq_true, decide_eq_true_eq] at e3
    rw [e3.1.1.2, e3.2]
    simp only [Bool.and_eq_true, decide_eq_true_eq, Bool.not_eq_true', decide_eq_false_iff_not, beq_iff_eq] at e3
    rw [e3.1.1.1.1, e3.1.1.1.2]
    simp [e3.1.2]
  rw [e4]
  rw [e1] at h
  simp only [List.countP_append, List.countP_cons, z1, z2] at *
  simp only [Bool.false_eq_true, if_false] at *
  omega
theorem NCc.none {m : Nat} {AW B : List RE} {uw : List UE} {tk : List TK} (h : ∀ id, NCc m id AW B uw tk) (hd : ∀ t ∈ tk, t.done ≠ m1) : AW = [] ∧ uw.filter (fun u => decide (u.m = m)) = [] ∧ B = [] := by
  have hz : ∀ id, tk.countP (isAns m true id) = 0 := by
    intro id
    rw [List.countP_eq_zero]
    intro t ht hh
    unfold isAns at hh
    simp [hd t ht] at hh
  refine ⟨?_, ?_, ?_⟩
  · cases AW with
    | nil => rfl
    | cons e AW =>
      have := h (idN e.c)
      unfold NCc at this
      rw [hz] at this
      simp only [List.countP_cons, decide_true, if_true] at this
      omega
  · rw [List.filter_eq_nil_iff]
    intro u hu hm
    have := h u.id
    unfold NCc at this
    rw [hz] at this
    have h2 : 0 < uw.countP (pMid m u.id) := List.countP_pos_iff.mpr ⟨u, hu, by unfold pMid; simp at hm; simp [hm]⟩
    omega
  · cases B with
    | nil => rfl
    | cons e B =>
      have := h (rId e.r)
      unfold NCc at this
      rw [hz] at this
      simp only [List.countP_cons, decide_true, if_true] at this
      omega
