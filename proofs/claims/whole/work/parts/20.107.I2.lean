/-! THE STATE's OWN INVARIANTS: the whole -/
def isT (t : Nat) (u : UE) : Bool := decide (u.tg = t)
def IU (l : List UE) (nm ns : Nat) : Prop := (∀ u ∈ l, u.m < nm ∧ u.id < 16 ∧ u.tg ≤ ns) ∧ (∀ m, (l.filter (isM m)).length ≤ 8) ∧ (∀ u ∈ l, ∀ v ∈ l, u.m = v.m → u.id = v.id → u.tg = v.tg)
theorem IU.m {l : List UE} {nm ns : Nat} (h : IU l nm ns) : ∀ u ∈ l, u.m < nm ∧ u.id < 16 ∧ u.tg ≤ ns := h.1
theorem IU.cn {l : List UE} {nm ns : Nat} (h : IU l nm ns) : ∀ m, (l.filter (isM m)).length ≤ 8 := h.2.1
theorem IU.sm {l : List UE} {nm ns : Nat} (h : IU l nm ns) : ∀ u ∈ l, ∀ v ∈ l, u.m = v.m → u.id = v.id → u.tg = v.tg := h.2.2
def IT (nm : Nat) (t : TK) : Prop := (t.m < nm) ∧ (idN t.con < 16) ∧ (ruN t.con = 0) ∧ (t.resp < 4) ∧ (t.sent = m1 → t.done = m1) ∧ (t.done = m1 → (t.wr = true → t.resp = 0) ∧ (t.wr = false → t.beats < leN t.con)) ∧ (t.wr = true → t.beats ≤ leN t.con) ∧ (t.wr = true → ∀ k, k < leN t.con → rLa (t.rst k) = decide (k = leN t.con - 1))
theorem IT.m {nm : Nat} {t : TK} (h : IT nm t) : t.m < nm := h.1
theorem IT.id {nm : Nat} {t : TK} (h : IT nm t) : idN t.con < 16 := h.2.1
theorem IT.ru {nm : Nat} {t : TK} (h : IT nm t) : ruN t.con = 0 := h.2.2.1
theorem IT.rs {nm : Nat} {t : TK} (h : IT nm t) : t.resp < 4 := h.2.2.2.1
theorem IT.sd {nm : Nat} {t : TK} (h : IT nm t) : t.sent = m1 → t.done = m1 := h.2.2.2.2.1
theorem IT.dn {nm : Nat} {t : TK} (h : IT nm t) : t.done = m1 → (t.wr = true → t.resp = 0) ∧ (t.wr = false → t.beats < leN t.con) := h.2.2.2.2.2.1
theorem IT.be {nm : Nat} {t : TK} (h : IT nm t) : t.wr = true → t.beats ≤ leN t.con := h.2.2.2.2.2.2.1
theorem IT.la {nm : Nat} {t : TK} (h : IT nm t) : t.wr = true → ∀ k, k < leN t.con → rLa (t.rst k) = decide (k = leN t.con - 1) := h.2.2.2.2.2.2.2
def IR (row : Nat → List RE) : Prop := (∀ i, i % 5 = 0 ∨ i % 5 = 3 → ∀ e ∈ row i, ruN e.c = 0) ∧ (∀ m c, m < 4 → c = 0 ∨ c = 3 → ∀ e ∈ row (5 * m + c), idN e.c < 16) ∧ (∀ t, ∀ e ∈ row (5 * (4 + t) + 2), e.c = 0)
theorem IR.ru {row : Nat → List RE} (h : IR row) : ∀ i, i % 5 = 0 ∨ i % 5 = 3 → ∀ e ∈ row i, ruN e.c = 0 := h.1
theorem IR.id {row : Nat → List RE} (h : IR row) : ∀ m c, m < 4 → c = 0 ∨ c = 3 → ∀ e ∈ row (5 * m + c), idN e.c < 16 := h.2.1
theorem IR.b {row : Nat → List RE} (h : IR row) : ∀ t, ∀ e ∈ row (5 * (4 + t) + 2), e.c = 0 := h.2.2
def cmS (l : List WE) : List Nat := (l.filter fun e => !lackP e).map fun e => idN e.con
def lkQ (l : List WE) : List (Nat × Nat) := (l.filter lackP).map fun e => (idN e.con, leN e.con - e.got)
def awQ (l : List RE) : List (Nat × Nat) := l.map fun e => (idN e.c, leN e.c)
def QC (ns t : Nat) (sw : List WE) (AW : List RE) (Q : List (Nat × Nat)) : Prop := (t < ns → Q = lkQ sw ++ awQ AW) ∧ (t = ns → Q.map Prod.fst = AW.map fun e => idN e.c)
def TGS (S : XS) (t : Nat) : Prop := ∃ Q, TGc (S.uw.filter (isT t)) (S.row (5 * (4 + t) + 1)) (S.row (5 * (4 + t) + 2)) (cmS (S.sw t)) Q ∧ QC S.ns t (S.sw t) (S.row (5 * (4 + t))) Q
def isR (f : Nat) (e : RE) : Bool := rLa e.r && decide (rId e.r = f)
def isF (t f : Nat) (u : UE) : Bool := decide (u.tg = t) && decide (fid u = f)
def RCc (t f : Nat) (ur : List UE) (R AR : List RE) (sr : List QE) : Prop := ur.countP (isF t f) = R.countP (isR f) + sr.countP (fun e => decide (idN e.con = f)) + AR.countP (fun e => decide (idN e.c = f))
def pot (row : Nat → List RE) : Nat := (row 0).length + (row 3).length + ((row 5).length + (row 8).length) + ((row 10).length + (row 13).length) + ((row 15).length + (row 18).length)
def Cr (S : XS) (w : Nat) : Prop := (Bd S) ∧ (S.time + 8 < 2 ^ 24) ∧ (∀ t ∈ S.tk, IT S.nm t) ∧ (IR S.row) ∧ (IU S.uw S.nm S.ns) ∧ (IU S.ur S.nm S.ns) ∧ (S.uw.Pairwise (fun a b => a.num < b.num) ∧ ∀ u ∈ S.uw, u.num < S.moved) ∧ (∀ m, m < S.nm → EMc m (S.row (5 * m + 1)) (S.row (5 * m)) (S.uw.filter (isM m)) S.tk) ∧ (∀ m, m < S.nm → ∀ id, NCc m id (S.row (5 * m)) (S.row (5 * m + 2)) S.uw S.tk) ∧ (∀ t, t ≤ S.ns → TGS S t) ∧ (∀ t, t ≤ S.ns → ∀ f, RCc t f S.ur (S.row (5 * (4 + t) + 4)) (S.row (5 * (4 + t) + 3)) (S.sr t)) ∧ ((S.row (5 * (4 + S.ns) + 3) = [] → S.dbeat = 0) ∧ ∀ a l, S.row (5 * (4 + S.ns) + 3) = a :: l → S.dbeat < leN a.c) ∧ (∀ p, ∀ e ∈ (S.mon p).rs, e.n < leN e.con) ∧ (∀ s i, S.chb s = some i → i < (S.sw s).length) ∧ (∀ s i, S.chr s = some i → i < (S.sr s).length) ∧ (∀ m, S.inb m = true → ∃ l, S.lg m = some l) ∧ (∀ s, S.ns ≤ s → S.sw s = [] ∧ S.sr s = []) ∧ (S.moved + pot S.row ≤ w ∧ w ≤ 60 * S.time + 60)
theorem Cr.bd {S : XS} {w : Nat} (h : Cr S w) : Bd S := h.1
theorem Cr.tb {S : XS} {w : Nat} (h : Cr S w) : S.time + 8 < 2 ^ 24 := h.2.1
theorem Cr.tk {S : XS} {w : Nat} (h : Cr S w) : ∀ t ∈ S.tk, IT S.nm t := h.2.2.1
theorem Cr.rw {S : XS} {w : Nat} (h : Cr S w) : IR S.row := h.2.2.2.1
theorem Cr.uw {S : XS} {w : Nat} (h : Cr S w) : IU S.uw S.nm S.ns := h.2.2.2.2.1
theorem Cr.ur {S : XS} {w : Nat} (h : Cr S w) : IU S.ur S.nm S.ns := h.2.2.2.2.2.1
theorem Cr.pw {S : XS} {w : Nat} (h : Cr S w) : S.uw.Pairwise (fun a b => a.num < b.num) ∧ ∀ u ∈ S.uw, u.num < S.moved := h.2.2.2.2.2.2.1
theorem Cr.em {S : XS} {w : Nat} (h : Cr S w) : ∀ m, m < S.nm → EMc m (S.row (5 * m + 1)) (S.row (5 * m)) (S.uw.filter (isM m)) S.tk := h.2.2.2.2.2.2.2.1
theorem Cr.nc {S : XS} {w : Nat} (h : Cr S w) : ∀ m, m < S.nm → ∀ id, NCc m id (S.row (5 * m)) (S.row (5 * m + 2)) S.uw S.tk := h.2.2.2.2.2.2.2.2.1
theorem Cr.tg {S : XS} {w : Nat} (h : Cr S w) : ∀ t, t ≤ S.ns → TGS S t := h.2.2.2.2.2.2.2.2.2.1
theorem Cr.rc {S : XS} {w : Nat} (h : Cr S w) : ∀ t, t ≤ S.ns → ∀ f, RCc t f S.ur (S.row (5 * (4 + t) + 4)) (S.row (5 * (4 + t) + 3)) (S.sr t) := h.2.2.2.2.2.2.2.2.2.2.1
theorem Cr.db {S : XS} {w : Nat} (h : Cr S w) : (S.row (5 * (4 + S.ns) + 3) = [] → S.dbeat = 0) ∧ ∀ a l, S.row (5 * (4 + S.ns) + 3) = a :: l → S.dbeat < leN a.c := h.2.2.2.2.2.2.2.2.2.2.2.1
theorem Cr.mo {S : XS} {w : Nat} (h : Cr S w) : ∀ p, ∀ e ∈ (S.mon p).rs, e.n < leN e.con := h.2.2.2.2.2.2.2.2.2.2.2.2.1
theorem Cr.cb {S : XS} {w : Nat} (h : Cr S w) : ∀ s i, S.chb s = some i → i < (S.sw s).length := h.2.2.2.2.2.2.2.2.2.2.2.2.2.1
theorem Cr.ch {S : XS} {w : Nat} (h : Cr S w) : ∀ s i, S.chr s = some i → i < (S.sr s).length := h.2.2.2.2.2.2.2.2.2.2.2.2.2.2.1
theorem Cr.ib {S : XS} {w : Nat} (h : Cr S w) : ∀ m, S.inb m = true → ∃ l, S.lg m = some l := h.2.2.2.2.2.2.2.2.2.2.2.2.2.2.2.1
theorem Cr.ou {S : XS} {w : Nat} (h : Cr S w) : ∀ s, S.ns ≤ s → S.sw s = [] ∧ S.sr s = [] := h.2.2.2.2.2.2.2.2.2.2.2.2.2.2.2.2.1
theorem Cr.mv {S : XS} {w : Nat} (h : Cr S w) : S.moved + pot S.row ≤ w ∧ w ≤ 60 * S.time + 60 := h.2.2.2.2.2.2.2.2.2.2.2.2.2.2.2.2.2
/-- end of Cr -/
theorem filter_split {α : Type} {p : α → Bool} {l1 l2 : List α} {x : α} : (l1 ++ x :: l2).filter p = l1.filter p ++ ((if p x = true then [x] else []) ++ l2.filter p) := by
  rw [List.filter_append, List.filter_cons]
  split <;> rfl
theorem mayG_t {S : XS} {l : List UE} {m t id : Nat} (h : S.mayG l m t id = true) : (l.filter (isM m)).length < S.lim ∧ ∀ e ∈ l, e.m = m → e.tg = t ∨ (e.id ≠ id ∧ e.left = 0) := by
  unfold XS.mayG at h
  simp only [Bool.and_eq_true, decide_eq_true_eq, List.all_eq_true, Bool.or_eq_true] at h
  refine ⟨h.1, fun e he hm => h.2 e (List.mem_filter.mpr ⟨he, by simpa using hm⟩)⟩
theorem IU.add {S : XS} {l : List UE} {nm ns m t id left num : Nat} (h : IU l nm ns) (hg : S.mayG l m t id = true) (hl : S.lim ≤ 8) (hm : m < nm) (hid : id < 16) (ht : t ≤ ns) : IU (l ++ [⟨m, id, t, left, num⟩]) nm ns := by
  obtain ⟨g1, g2⟩ := mayG_t hg
  refine ⟨?_, ?_, ?_⟩
  · intro u hu
    rcases List.mem_append.mp hu with hu | hu
    · exact h.m u hu
    · rw [List.mem_singleton.mp hu]; exact ⟨hm, hid, ht⟩
  · intro m'
    rw [List.filter_append, List.length_append]
    have h1 := h.cn m'
    by_cases e : m = m'
    · subst e
      have : ([(⟨m, id, t, left, num⟩ : UE)].filter (isM m)).length ≤ 1 := List.length_filter_le ..
      omega
    · have : [(⟨m, id, t, left, num⟩ : UE)].filter (isM m') = [] := by
        rw [List.filter_eq_nil_iff]
        intro u hu hh
        rw [List.mem_singleton.mp hu] at hh
        unfold isM at hh
        exact e (by simpa using hh)
      rw [this]
      exact h1
  · intro u hu v hv e1 e2
    rcases List.mem_append.mp hu with hu | hu
    · rcases List.mem_append.mp hv with hv | hv
      · exact h.sm u hu v hv e1 e2
      · have hv' := List.mem_singleton.mp hv
        rw [hv'] at e1 e2 ⊢
        rcases g2 u hu e1 with hh | hh
        · exact hh
        · exact absurd e2 hh.1
    · have hu' := List.mem_singleton.mp hu
      rcases List.mem_append.mp hv with hv | hv
      · rw [hu'] at e1 e2 ⊢
        rcases g2 v hv e1.symm with hh | hh
        · exact hh.symm
        · exact absurd e2.symm hh.1
      · rw [hu', List.mem_singleton.mp hv]
theorem IU.len {l : List UE} {nm ns m : Nat} (h : IU l nm ns) (h4 : nm ≤ 4) (hm : m < nm) (hl : (l.filter (isM m)).length < 8) : l.length < 32 := by
  have h1 : ∀ (l : List UE) , (∀ u ∈ l, u.m < 4) → l.length = (l.filter (isM 0)).length + (l.filter (isM 1)).length + (l.filter (isM 2)).length + (l.filter (isM 3)).length := by
    intro l
    induction l with
    | nil => intro _; rfl
    | cons u l ih =>
      intro hu
      have h0 := hu u (List.mem_cons_self ..)
      have h2 := ih (fun v hv => hu v (List.mem_cons_of_mem _ hv))
      simp only [List.filter_cons, List.length_cons, isM, decide_eq_true_eq]
      have : u.m = 0 ∨ u.m = 1 ∨ u.m = 2 ∨ u.m = 3 := by omega
      rcases this with e | e | e | e <;> rw [e] <;> simp <;> omega
  have h2 := h1 l (fun u hu => by have := h.m u hu; omega)
  have a0 := h.cn 0
  have a1 := h.cn 1
  have a2 := h.cn 2
  have a3 := h.cn 3
  have : m = 0 ∨ m = 1 ∨ m = 2 ∨ m = 3 := by omega
  rcases this with e | e | e | e <;> subst e <;> omega
theorem id_add {c : Int64} {m : Nat} (h : idN c < 16) (hm : m < 4) : uN (c + nL (16 * m)) = uN c + 16 * m := by
  unfold uN idN at *
  have e : (c + nL (16 * m)).toBitVec.toNat = (c.toBitVec.toNat + (nL (16 * m)).toBitVec.toNat) % 2 ^ 64 := by
    rw [Int64.toBitVec_add, BitVec.toNat_add]
  have e2 : (nL (16 * m)).toBitVec.toNat = 16 * m := by
    rcases (show m = 0 ∨ m = 1 ∨ m = 2 ∨ m = 3 by omega) with e | e | e | e <;> subst e <;> rfl
  rw [e, e2]
  have := c.toBitVec.isLt
  unfold uN at h
  omega
theorem idN_add {c : Int64} {m : Nat} (h : idN c < 16) (hm : m < 4) : idN (c + nL (16 * m)) = 16 * m + idN c ∧ leN (c + nL (16 * m)) = leN c ∧ ruN (c + nL (16 * m)) = ruN c := by
  have e := id_add h hm
  have g : ∀ n, 64 ∣ n → uN (c + nL (16 * m)) / n = uN c / n := by
    intro n hn
    rw [e]
    obtain ⟨k, rfl⟩ := hn
    rw [← Nat.div_div_eq_div_mul, ← Nat.div_div_eq_div_mul]
    congr 1
    unfold idN at h
    omega
  have e1 : adN (c + nL (16 * m)) = adN c := by unfold adN; rw [g 64 (by decide)]
  have e2 : leN (c + nL (16 * m)) = leN c := by unfold leN; rw [g 4194304 (by decide)]
  have e3 : szN (c + nL (16 * m)) = szN c := by unfold szN; rw [g 67108864 (by decide)]
  have e4 : kiN (c + nL (16 * m)) = kiN c := by unfold kiN; rw [g 268435456 (by decide)]
  have e5 : exN (c + nL (16 * m)) = exN c := by unfold exN; rw [g 1073741824 (by decide)]
  refine ⟨?_, e2, ?_⟩
  · unfold idN at *; rw [e]; omega
  · unfold ruN; rw [e1, e2, e3, e4, e5]
