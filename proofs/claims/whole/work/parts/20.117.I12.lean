/-! THE STATE's OWN INVARIANTS: wires are shown -/
def rsOk (l : List MR) : Prop := ∀ e ∈ l, e.n < leN e.con
theorem bumpR_ok (id : Nat) : ∀ {l : List MR}, rsOk l → rsOk (bumpR id l) := by
  intro l
  induction l with
  | nil => intro h; exact h
  | cons e l ih =>
    intro h
    have h1 := h e (List.mem_cons_self ..)
    have h2 : rsOk l := fun x hx => h x (List.mem_cons_of_mem _ hx)
    unfold bumpR
    split
    · split
      · exact h2
      · intro x hx
        rcases List.mem_cons.mp hx with hx | hx
        · rw [hx]; show e.n + 1 < leN e.con; omega
        · exact h2 x hx
    · intro x hx
      rcases List.mem_cons.mp hx with hx | hx
      · rw [hx]; exact h1
      · exact ih h2 x hx
theorem goAw_rs (o : MO) (c : Int64) : (o.goAw c).rs = o.rs := by
  unfold MO.goAw
  split
  · split
    · exact note_rs _ _ _
    · rfl
  · split
    · exact note_rs _ _ _
    · rfl
theorem goW_rs (o : MO) (r : Int32) : (o.goW r).rs = o.rs := by
  unfold MO.goW
  split
  · split
    · split
      · exact note_rs _ _ _
      · exact note_rs _ _ _
    · rfl
  · split
    · exact note_rs _ _ _
    · rfl
theorem look_ok {o : MO} {x : WI} (h : rsOk o.rs) : rsOk (o.look x).rs := by
  have hr : ∀ p : MO, (p.rem x).rs = p.rs := fun p => rfl
  unfold MO.look
  rw [hr]
  have h0 : rsOk (o.lookF x.w 5 0).rs := by rw [lookF_rs]; exact h
  generalize o.lookF x.w 5 0 = p at h0
  unfold MO.go
  split
  · have h1 : rsOk (p.go1 x).rs := by
      unfold MO.go1
      split
      · exact h0
      · exact h0
    generalize p.go1 x = p1 at h1
    have h2 : rsOk (p1.go2 x).rs := by
      unfold MO.go2
      split
      · exact bumpR_ok _ h1
      · exact h1
    generalize p1.go2 x = p2 at h2
    have h3 : rsOk (p2.go3 x).rs := by
      unfold MO.go3
      split
      · unfold MO.goAr
        split
        · rw [note_rs]; exact h2
        · intro e he
          rcases List.mem_append.mp he with he | he
          · exact h2 e he
          · rw [List.mem_singleton.mp he]; exact leN_pos _
      · exact h2
    generalize p2.go3 x = p3 at h3
    have h4 : rsOk (p3.go4 x).rs := by
      unfold MO.go4
      split
      · rw [goAw_rs]; exact h3
      · exact h3
    generalize p3.go4 x = p4 at h4
    unfold MO.go5
    split
    · rw [goW_rs]; exact h4
    · exact h4
  · exact h0
theorem lstN_some {p : Nat → Bool} : ∀ {n i : Nat}, lstN p n = some i → i < n ∧ p i = true := by
  intro n
  induction n with
  | zero => intro i h; cases h
  | succ n ih =>
    intro i h
    unfold lstN at h
    split at h
    · cases h; exact ⟨Nat.lt_succ_self _, by assumption⟩
    · exact ⟨Nat.lt_succ_of_lt (ih h).1, (ih h).2⟩
theorem frsN_some {p : Nat → Bool} {n i : Nat} (h : frsN p n = some i) : i < n ∧ p i = true := by
  unfold frsN at h
  obtain ⟨h1, h2⟩ := find_mem h
  exact ⟨List.mem_range.mp h1, h2⟩
theorem or_some {α : Type} {a b : Option α} {x : α} (h : a.or b = some x) : a = some x ∨ b = some x := by
  cases a with
  | none => exact Or.inr h
  | some y => exact Or.inl h
theorem chW_some {S : XS} {s i : Nat} (h : S.chW s = some i) : i < (S.sw s).length ∧ ∀ e, (S.sw s)[i]? = some e → e.got = leN e.con := by
  obtain ⟨h1, h2⟩ := lstN_some h
  refine ⟨h1, fun e he => ?_⟩
  unfold XS.canW at h2
  rw [he] at h2
  simp only [Bool.and_eq_true] at h2
  unfold XS.ripeW at h2
  simp only [Bool.and_eq_true, decide_eq_true_eq] at h2
  exact h2.1.1
theorem chR_some {S : XS} {s i : Nat} (h : S.chR s = some i) : i < (S.sr s).length := by
  unfold XS.chR at h
  split at h
  · rcases or_some h with h | h
    · exact (frsN_some h).1
    · exact (frsN_some h).1
  · split at h
    · rcases or_some h with h | h
      · exact (frsN_some h).1
      · exact (lstN_some h).1
    · exact (lstN_some h).1
theorem chB'_lt {S : XS} {w s i : Nat} (h : Cr S w) (hi : S.chB' s = some i) : i < (S.sw s).length := by
  unfold XS.chB' at hi
  split at hi
  · exact h.cb s i hi
  · split at hi
    · exact (chW_some hi).1
    · cases hi
theorem chR'_lt {S : XS} {w s i : Nat} (h : Cr S w) (hi : S.chR' s = some i) : i < (S.sr s).length := by
  unfold XS.chR' at hi
  split at hi
  · exact h.ch s i hi
  · split at hi
    · exact chR_some hi
    · cases hi
/-- what is held between ticks -/
def HJ (S : XS) : Prop := (∀ m, m < S.nm → InvA S m 0 true) ∧ (∀ m, m < S.nm → InvA S m 3 false) ∧ (∀ m, m < S.nm → InvD S m) ∧ (∀ s, s < S.ns → InvB S s) ∧ (∀ s, s < S.ns → InvR S s) ∧ (∀ m, m < S.nm → ∀ c, c = 2 ∨ c = 4 → hdW (S.wi m) c = true → S.row (5 * m + c) ≠ []) ∧ (∀ s, s < S.ns → ∀ c, c = 0 ∨ c = 1 ∨ c = 3 → hdW (S.wi (4 + s)) c = true → S.row (5 * (4 + s) + c) ≠ [])
theorem HJ.a0 {S : XS} (h : HJ S) : ∀ m, m < S.nm → InvA S m 0 true := h.1
theorem HJ.a3 {S : XS} (h : HJ S) : ∀ m, m < S.nm → InvA S m 3 false := h.2.1
theorem HJ.d {S : XS} (h : HJ S) : ∀ m, m < S.nm → InvD S m := h.2.2.1
theorem HJ.b {S : XS} (h : HJ S) : ∀ s, s < S.ns → InvB S s := h.2.2.2.1
theorem HJ.r {S : XS} (h : HJ S) : ∀ s, s < S.ns → InvR S s := h.2.2.2.2.1
theorem HJ.mh {S : XS} (h : HJ S) : ∀ m, m < S.nm → ∀ c, c = 2 ∨ c = 4 → hdW (S.wi m) c = true → S.row (5 * m + c) ≠ [] := h.2.2.2.2.2.1
theorem HJ.sh {S : XS} (h : HJ S) : ∀ s, s < S.ns → ∀ c, c = 0 ∨ c = 1 ∨ c = 3 → hdW (S.wi (4 + s)) c = true → S.row (5 * (4 + s) + c) ≠ [] := h.2.2.2.2.2.2
/-- end of HJ -/
theorem Ws.hj {S : XS} (h : Ws S 40) : HJ S := by
  refine ⟨?_, ?_, ?_, ?_, ?_, h.mh, h.sh⟩
  · intro m hm hh
    obtain ⟨v1, v2⟩ := hd_v hh
    exact h.a m hm 0 (Or.inl rfl) v1 (Or.inr v2)
  · intro m hm hh
    obtain ⟨v1, v2⟩ := hd_v hh
    exact h.a m hm 3 (Or.inr rfl) v1 (Or.inr v2)
  · intro m hm hh
    obtain ⟨v1, v2⟩ := hd_v hh
    exact h.d m hm v1 (Or.inr v2)
  · intro s hs hh
    obtain ⟨v1, v2⟩ := hd_v hh
    exact h.b s hs v1 (Or.inr v2)
  · intro s hs hh
    obtain ⟨v1, v2⟩ := hd_v hh
    exact h.r s hs v1 (Or.inr v2)
theorem sh_wiM {S : XS} {m : Nat} (h : m < S.nm) : S.sh.wi m = S.showM m := by
  show (if m < S.nm then S.showM m else _) = _
  rw [if_pos h]
theorem sh_wiS {S : XS} {s : Nat} (h4 : S.nm ≤ 4) (h : s < S.ns) : S.sh.wi (4 + s) = S.showS s := by
  show (if 4 + s < S.nm then _ else if 4 ≤ 4 + s ∧ 4 + s < 4 + S.ns then S.showS (4 + s - 4) else _) = _
  rw [if_neg (by omega), if_pos (by omega), show 4 + s - 4 = s by omega]
theorem sh_chb {S : XS} {s : Nat} (h : s < S.ns) : S.sh.chb s = S.chB' s := by
  show (if s < S.ns then S.chB' s else _) = _
  rw [if_pos h]
theorem sh_chr {S : XS} {s : Nat} (h : s < S.ns) : S.sh.chr s = S.chR' s := by
  show (if s < S.ns then S.chR' s else _) = _
  rw [if_pos h]
theorem Cr.sh {S : XS} {w : Nat} (h : Cr S w) : Cr S.sh w := by
  have hb : Bd S.sh := ⟨h.bd.nm, h.bd.ns, h.bd.lim, h.bd.pol, h.bd.time, h.bd.db, h.bd.moved, h.bd.pages, h.bd.mpat, h.bd.spat, h.bd.delay, h.bd.way, h.bd.mem, h.bd.sw, h.bd.sr, h.bd.rnum, h.bd.lat, h.bd.uw, h.bd.ur, h.bd.la, h.bd.lr, h.bd.lb, h.bd.lg, h.bd.rgt, h.bd.rowT, h.bd.tk⟩
  refine ⟨hb, h.tb, h.tk, h.rw, h.uw, h.ur, h.pw, h.em, h.nc, h.tg, h.rc, h.db, ?_, ?_, ?_, h.ib, h.ou, h.mv⟩
  · intro p
    show rsOk (if p < 8 ∧ S.isP p = true then (S.mon p).look (S.shW p) else S.mon p).rs
    split
    · exact look_ok (h.mo p)
    · exact h.mo p
  · intro s i hi
    have hi : (if s < S.ns then S.chB' s else S.chb s) = some i := hi
    split at hi
    · have := chB'_lt h hi; exact this
    · exact h.cb s i hi
  · intro s i hi
    have hi : (if s < S.ns then S.chR' s else S.chr s) = some i := hi
    split at hi
    · have := chR'_lt h hi; exact this
    · exact h.ch s i hi
theorem adrW_ok {S : XS} {m c : Nat} {wr : Bool} (h : InvA S m c wr) (hv : (S.adrW m c wr).v = true) : ∃ t, S.tk.find? (isUns m wr) = some t ∧ S.adrW m c wr = ⟨true, t.con, 0⟩ := by
  unfold XS.adrW at *
  split at hv
  · rename_i hh
    rw [if_pos hh]
    exact h hh
  · rename_i hh
    rw [if_neg hh]
    split at hv
    · rename_i t ht
      rw [ht]
      split at hv
      · rename_i ho
        exact ⟨t, rfl, by simp only [if_pos ho]⟩
      · cases hv
    · cases hv
theorem datW_ok {S : XS} {m : Nat} (h : InvD S m) (hv : (S.datW m).v = true) : ∃ t, S.tk.find? (isUnf m) = some t ∧ S.datW m = ⟨true, t.dat t.beats, t.rst t.beats⟩ := by
  unfold XS.datW at *
  split at hv
  · rename_i hh
    rw [if_pos hh]
    exact h hh
  · rename_i hh
    rw [if_neg hh]
    split at hv
    · rename_i t ht
      rw [ht]
      split at hv
      · rename_i ho
        exact ⟨t, rfl, by simp only [if_pos ho]⟩
      · cases hv
    · cases hv
theorem bind_get {α : Type} {o : Option Nat} {l : List α} {e : α} (h : (o.bind fun i => l[i]?) = some e) : ∃ i, o = some i ∧ l[i]? = some e := by
  cases o with
  | none => cases h
  | some i => exact ⟨i, rfl, h⟩
theorem wB_ok {S : XS} {s : Nat} (h : InvB S s) (hv : (S.wB s).v = true) : ∃ i e, S.chB' s = some i ∧ (S.sw s)[i]? = some e ∧ e.got = leN e.con ∧ S.wB s = wvB e := by
  unfold XS.wB at *
  by_cases hh : hdW (S.wi (4 + s)) 2 = true
  · rw [if_pos hh] at *
    obtain ⟨i, e, g1, g2, g3, g4⟩ := h hh
    exact ⟨i, e, by unfold XS.chB'; rw [if_pos hh]; exact g1, g2, g3, g4⟩
  · rw [if_neg hh] at *
    cases hb : (S.chB' s).bind (fun i => (S.sw s)[i]?) with
    | none => rw [hb] at hv; cases hv
    | some e =>
      obtain ⟨i, i1, i2⟩ := bind_get hb
      refine ⟨i, e, i1, i2, ?_, rfl⟩
      unfold XS.chB' at i1
      rw [if_neg hh] at i1
      split at i1
      · exact (chW_some i1).2 e i2
      · cases i1
theorem wR_ok {S : XS} {s : Nat} (h : InvR S s) (hv : (S.wR s).v = true) : ∃ i e, S.chR' s = some i ∧ (S.sr s)[i]? = some e ∧ S.wR s = wvR e := by
  unfold XS.wR at *
  by_cases hh : hdW (S.wi (4 + s)) 4 = true
  · rw [if_pos hh] at *
    obtain ⟨i, e, g1, g2, g3⟩ := h hh
    exact ⟨i, e, by unfold XS.chR'; rw [if_pos hh]; exact g1, g2, g3⟩
  · rw [if_neg hh] at *
    cases hb : (S.chR' s).bind (fun i => (S.sr s)[i]?) with
    | none => rw [hb] at hv; cases hv
    | some e =>
      obtain ⟨i, i1, i2⟩ := bind_get hb
      exact ⟨i, e, i1, i2, rfl⟩
theorem lacks_fi {l : List WE} (h : lacks l = true) : ∃ i, l.findIdx? lackP = some i := by
  cases hf : l.findIdx? lackP with
  | some i => exact ⟨i, rfl⟩
  | none =>
    rw [List.findIdx?_eq_none_iff] at hf
    unfold lacks at h
    rw [List.any_eq_true] at h
    obtain ⟨e, he, hl⟩ := h
    have := hf e he
    unfold lackP at this
    rw [this] at hl
    cases hl
/-- wires are shown -/
theorem HJ.ws {S : XS} (h : HJ S) (h4 : S.nm ≤ 4) : Ws S.sh 0 := by
  refine ⟨?_, ?_, ?_, ?_, ?_, ?_, ?_, ?_, ?_, ?_, ?_, ?_, ?_⟩
  · intro m hm c hc
    have hm : m < S.nm := hm
    rw [sh_wiM hm]
    intro hv _
    rcases hc with rfl | rfl
    · exact adrW_ok (h.a0 m hm) hv
    · exact adrW_ok (h.a3 m hm) hv
  · intro m hm
    have hm : m < S.nm := hm
    rw [sh_wiM hm]
    intro hv _
    exact datW_ok (h.d m hm) hv
  · intro s hs
    have hs : s < S.ns := hs
    rw [sh_wiS h4 hs, sh_chb hs]
    intro hv _
    exact wB_ok (h.b s hs) hv
  · intro s hs
    have hs : s < S.ns := hs
    rw [sh_wiS h4 hs, sh_chr hs]
    intro hv _
    exact wR_ok (h.r s hs) hv
  · intro m hm c hc _
    have hm : m < S.nm := hm
    rw [sh_wiM hm]
    rcases hc with rfl | rfl <;> rfl
  · intro m hm c hc hh
    have hm : m < S.nm := hm
    rw [sh_wiM hm] at hh
    have e : (S.showM m).w c = rowW (S.row (5 * m + c)) := by rcases hc with rfl | rfl <;> rfl
    obtain ⟨x, l, r1, _⟩ := rowW_v e (hd_v hh).1
    show S.row (5 * m + c) ≠ []
    rw [r1]
    exact List.cons_ne_nil _ _
  · intro s hs c hc _
    have hs : s < S.ns := hs
    rw [sh_wiS h4 hs]
    rcases hc with rfl | rfl | rfl <;> rfl
  · intro s hs c hc hh
    have hs : s < S.ns := hs
    rw [sh_wiS h4 hs] at hh
    have e : (S.showS s).w c = rowW (S.row (5 * (4 + s) + c)) := by rcases hc with rfl | rfl | rfl <;> rfl
    obtain ⟨x, l, r1, _⟩ := rowW_v e (hd_v hh).1
    show S.row (5 * (4 + s) + c) ≠ []
    rw [r1]
    exact List.cons_ne_nil _ _
  · intro m hm c hc _
    have hm : m < S.nm := hm
    rw [sh_wiM hm]
    rcases hc with rfl | rfl | rfl <;> rfl
  · intro s hs c hc _
    have hs : s < S.ns := hs
    rw [sh_wiS h4 hs]
    rcases hc with rfl | rfl <;> rfl
  · intro s hs _
    have hs : s < S.ns := hs
    rw [sh_wiS h4 hs]
    intro hr
    have hr : (on (S.spat s 0) S.time && decide ((S.sw s).length < 4)) = true := hr
    simp only [Bool.and_eq_true, decide_eq_true_eq] at hr
    exact hr.2
  · intro s hs _
    have hs : s < S.ns := hs
    rw [sh_wiS h4 hs]
    intro hr
    have hr : (on (S.spat s 1) S.time && lacks (S.sw s)) = true := hr
    simp only [Bool.and_eq_true] at hr
    exact lacks_fi hr.2
  · intro s hs _
    have hs : s < S.ns := hs
    rw [sh_wiS h4 hs]
    intro hr
    have hr : (on (S.spat s 3) S.time && decide ((S.sr s).length < 4)) = true := hr
    simp only [Bool.and_eq_true, decide_eq_true_eq] at hr
    exact hr.2
