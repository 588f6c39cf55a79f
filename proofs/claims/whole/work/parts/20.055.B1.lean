/-! A TICK of the state -/
def XS.isP (S : XS) (p : Nat) : Bool := if 4 ≤ p then decide (p - 4 < S.ns) else decide (p < S.nm)
def XS.shW (S : XS) (p : Nat) : WI := if p < S.nm then S.showM p else if 4 ≤ p ∧ p < 4 + S.ns then S.showS (p - 4) else S.wi p
def XS.shA (S : XS) (k : Nat) : XS := S.w_wi (fun p => if p < k then S.showM p else S.wi p)
def XS.shB (S : XS) (k : Nat) : XS := ((S.w_wi (fun p => if p < S.nm then S.showM p else if 4 ≤ p ∧ p < 4 + k then S.showS (p - 4) else S.wi p)).w_chb (fun s => if s < k then S.chB' s else S.chb s)).w_chr (fun s => if s < k then S.chR' s else S.chr s)
def XS.shC (S : XS) (k : Nat) : XS := (S.shB S.ns).w_mon (fun p => if p < k ∧ S.isP p = true then (S.mon p).look (S.shW p) else S.mon p)
def XS.sh (S : XS) : XS := S.shC 8
def XS.mvP (S : XS) (j : Nat) : Bool := S.isP (j / 5) && mvW (S.wi (j / 5)) (j % 5)
def XS.hdP (S : XS) (j : Nat) : Bool := S.isP (j / 5) && hdW (S.wi (j / 5)) (j % 5)
def XS.bump (S : XS) (p c : Nat) : XS := S.w_tr (va_up S.tr p (va_up (S.tr p) c (S.tr p c + 1)))
def XS.pas (S : XS) (j : Nat) : XS := if 20 ≤ j then S.passS (j / 5 - 4) (j % 5) else S.passM (j / 5) (j % 5)
def XS.go1 (S : XS) (j : Nat) : XS := if S.mvP j = true then (S.bump (j / 5) (j % 5)).pas j else S
def cnQ (q : Nat → Bool) : Nat → Nat → Nat → Nat
  | 0, _, n => n
  | d + 1, j, n => cnQ q d (j + 1) (if q j = true then n + 1 else n)
def XS.goA (S : XS) : XS := iterN XS.go1 40 0 S
def XS.moves (S : XS) : Nat := cnQ S.sh.mvP 40 0 0
def XS.tk1 (S : XS) : XS := S.sh.goA.move.w_time (S.time + 1)
theorem isP_lt {S : XS} {p : Nat} (h : S.isP p = true) (hn : S.nm ≤ 4 ∧ S.ns ≤ 4) : p < 8 := by
  unfold XS.isP at h
  split at h <;> simp at h <;> omega
theorem passM_fr (S : XS) (m c : Nat) : (S.passM m c).wi = S.wi ∧ (S.passM m c).nm = S.nm ∧ (S.passM m c).ns = S.ns ∧ (S.passM m c).time = S.time := by
  unfold XS.passM
  simp only
  repeat' split
  all_goals exact ⟨rfl, rfl, rfl, rfl⟩
theorem doWrite_fr (S : XS) (s : Nat) (e : WE) : (S.doWrite s e).1.wi = S.wi ∧ (S.doWrite s e).1.nm = S.nm ∧ (S.doWrite s e).1.ns = S.ns ∧ (S.doWrite s e).1.time = S.time := by
  rw [doWrite_st]
  repeat' split
  all_goals exact ⟨rfl, rfl, rfl, rfl⟩
theorem passS_fr (S : XS) (s c : Nat) : (S.passS s c).wi = S.wi ∧ (S.passS s c).nm = S.nm ∧ (S.passS s c).ns = S.ns ∧ (S.passS s c).time = S.time := by
  unfold XS.passS
  simp only
  repeat' split
  all_goals first
    | exact ⟨rfl, rfl, rfl, rfl⟩
    | exact doWrite_fr (S.drop (5 * (4 + s) + 1)) s _
    | skip
  · exact doWrite_fr (S.drop _) s _
theorem pas_fr (S : XS) (j : Nat) : (S.pas j).wi = S.wi ∧ (S.pas j).nm = S.nm ∧ (S.pas j).ns = S.ns ∧ (S.pas j).time = S.time := by
  unfold XS.pas
  split
  · exact passS_fr S _ _
  · exact passM_fr S _ _
theorem go1_fr (S : XS) (j : Nat) : (S.go1 j).wi = S.wi ∧ (S.go1 j).nm = S.nm ∧ (S.go1 j).ns = S.ns ∧ (S.go1 j).time = S.time := by
  unfold XS.go1
  split
  · exact pas_fr (S.bump (j / 5) (j % 5)) j
  · exact ⟨rfl, rfl, rfl, rfl⟩
theorem go1_P (S : XS) (j : Nat) : (S.go1 j).isP = S.isP ∧ (S.go1 j).mvP = S.mvP ∧ (S.go1 j).hdP = S.hdP := by
  obtain ⟨h1, h2, h3, _⟩ := go1_fr S j
  have h4 : (S.go1 j).isP = S.isP := by
    funext p
    unfold XS.isP
    rw [h2, h3]
  refine ⟨h4, ?_, ?_⟩
  · funext i
    unfold XS.mvP
    rw [h1, h4]
  · funext i
    unfold XS.hdP
    rw [h1, h4]
theorem showM_wi (S : XS) (f : Nat → WI) (m : Nat) (h : f m = S.wi m) : (S.w_wi f).showM m = S.showM m := by
  unfold XS.showM XS.adrW XS.datW
  rw [show (S.w_wi f).wi m = S.wi m from h]
  rfl
theorem shS_wi (S : XS) (f : Nat → WI) (g k : Nat → Option Nat) (s : Nat) (h : f (4 + s) = S.wi (4 + s)) (hg : g s = S.chb s) (hk : k s = S.chr s) :
    (((S.w_wi f).w_chb g).w_chr k).showS s = S.showS s ∧ (((S.w_wi f).w_chb g).w_chr k).chB' s = S.chB' s ∧ (((S.w_wi f).w_chb g).w_chr k).chR' s = S.chR' s := by
  have e1 : (((S.w_wi f).w_chb g).w_chr k).wi (4 + s) = S.wi (4 + s) := h
  have e2 : (((S.w_wi f).w_chb g).w_chr k).chb s = S.chb s := hg
  have e3 : (((S.w_wi f).w_chb g).w_chr k).chr s = S.chr s := hk
  have c1 : (((S.w_wi f).w_chb g).w_chr k).chB' s = S.chB' s := by
    unfold XS.chB'
    rw [e1, e2]
    rfl
  have c2 : (((S.w_wi f).w_chb g).w_chr k).chR' s = S.chR' s := by
    unfold XS.chR'
    rw [e1, e3]
    rfl
  refine ⟨?_, c1, c2⟩
  unfold XS.showS XS.wB XS.wR
  rw [c1, c2, e1]
  rfl
