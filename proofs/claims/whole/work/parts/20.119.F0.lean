/-! THE FACE: both objects beside each other -/
theorem RV.sm {Γ : gm_T} {φ φ' : ph_T} {r : Nat} {S : XS} (h : RV Γ φ r S) (s : Sm r (r + 92) φ φ') : RV Γ φ' r S := ⟨(RL.up h.rl (s.r (a := r) (by omega) (by omega))), (by rw [s.i (a := r) (by omega) (by omega)]; exact ⟨h.sc.nm, h.sc.ns, h.sc.lim, h.sc.pol, h.sc.whole, h.sc.time, h.sc.tk, h.sc.wm, h.sc.rm, h.sc.db, h.sc.er⟩), (by rw [s.i (a := r + 1) (by omega) (by omega)]; exact h.pg), (by rw [s.i (a := r + 2) (by omega) (by omega)]; exact h.mp), (by rw [s.i (a := r + 3) (by omega) (by omega)]; exact h.sp), (by rw [s.i (a := r + 4) (by omega) (by omega)]; exact h.ea), (by rw [s.i (a := r + 5) (by omega) (by omega)]; exact h.de), (by rw [s.i (a := r + 6) (by omega) (by omega)]; exact h.wa), (by rw [s.i (a := r + 7) (by omega) (by omega), s.i (a := r + 8) (by omega) (by omega)]; exact h.me), (by rw [s.i (a := r + 9) (by omega) (by omega), s.i (a := r + 10) (by omega) (by omega), s.i (a := r + 11) (by omega) (by omega), s.i (a := r + 12) (by omega) (by omega), s.i (a := r + 13) (by omega) (by omega), s.i (a := r + 14) (by omega) (by omega), s.i (a := r + 15) (by omega) (by omega), s.i (a := r + 16) (by omega) (by omega), s.i (a := r + 17) (by omega) (by omega), s.i (a := r + 18) (by omega) (by omega), s.i (a := r + 20) (by omega) (by omega), s.i (a := r + 21) (by omega) (by omega), s.i (a := r + 22) (by omega) (by omega), s.i (a := r + 23) (by omega) (by omega), s.i (a := r + 24) (by omega) (by omega), s.l (a := r + 19) (by omega) (by omega), s.l (a := r + 25) (by omega) (by omega)]; exact h.tk), (by rw [s.i (a := r + 26) (by omega) (by omega), s.i (a := r + 27) (by omega) (by omega), s.l (a := r + 28) (by omega) (by omega), s.i (a := r + 29) (by omega) (by omega)]; exact h.wi), (by rw [s.i (a := r + 31) (by omega) (by omega)]; exact h.tr), (by rw [s.l (a := r + 32) (by omega) (by omega), s.i (a := r + 33) (by omega) (by omega), s.i (a := r + 34) (by omega) (by omega), s.i (a := r + 35) (by omega) (by omega)]; exact h.row), (by rw [s.i (a := r + 36) (by omega) (by omega), s.i (a := r + 37) (by omega) (by omega), s.i (a := r + 38) (by omega) (by omega), s.i (a := r + 39) (by omega) (by omega)]; exact h.uw), (by rw [s.i (a := r + 40) (by omega) (by omega), s.i (a := r + 41) (by omega) (by omega), s.i (a := r + 42) (by omega) (by omega)]; exact h.ur), (by rw [s.i (a := r + 43) (by omega) (by omega), s.i (a := r + 44) (by omega) (by omega), s.i (a := r + 45) (by omega) (by omega), s.i (a := r + 46) (by omega) (by omega), s.i (a := r + 47) (by omega) (by omega)]; exact ⟨h.la.haw, h.la.har, h.la.hb, h.la.hg, h.la.hinn⟩), (by rw [s.i (a := r + 48) (by omega) (by omega), s.i (a := r + 49) (by omega) (by omega), s.i (a := r + 50) (by omega) (by omega), s.l (a := r + 51) (by omega) (by omega), s.i (a := r + 52) (by omega) (by omega), s.i (a := r + 53) (by omega) (by omega), s.i (a := r + 54) (by omega) (by omega), s.l (a := r + 55) (by omega) (by omega), s.i (a := r + 56) (by omega) (by omega)]; exact h.sw), (by rw [s.i (a := r + 57) (by omega) (by omega), s.i (a := r + 58) (by omega) (by omega), s.i (a := r + 59) (by omega) (by omega), s.l (a := r + 60) (by omega) (by omega), s.i (a := r + 61) (by omega) (by omega), s.i (a := r + 62) (by omega) (by omega), s.i (a := r + 63) (by omega) (by omega), s.l (a := r + 64) (by omega) (by omega), s.i (a := r + 65) (by omega) (by omega)]; exact h.sr), (by rw [s.i (a := r + 66) (by omega) (by omega), s.i (a := r + 67) (by omega) (by omega), s.i (a := r + 68) (by omega) (by omega), s.i (a := r + 69) (by omega) (by omega)]; exact ⟨h.ch.hnums, h.ch.hlat, h.ch.hchb, h.ch.hchr⟩), (by rw [s.i (a := r + 70) (by omega) (by omega), s.i (a := r + 71) (by omega) (by omega)]; exact h.rg), (by unfold maOf; rw [s.i (a := r + 72) (by omega) (by omega), s.l (a := r + 73) (by omega) (by omega), s.i (a := r + 74) (by omega) (by omega), s.i (a := r + 75) (by omega) (by omega), s.i (a := r + 76) (by omega) (by omega), s.i (a := r + 77) (by omega) (by omega), s.i (a := r + 78) (by omega) (by omega), s.i (a := r + 79) (by omega) (by omega), s.i (a := r + 80) (by omega) (by omega), s.i (a := r + 81) (by omega) (by omega), s.l (a := r + 82) (by omega) (by omega), s.i (a := r + 83) (by omega) (by omega), s.i (a := r + 84) (by omega) (by omega), s.i (a := r + 85) (by omega) (by omega), s.l (a := r + 86) (by omega) (by omega), s.i (a := r + 87) (by omega) (by omega)]; exact h.mo), (by rw [s.i (a := r + 88) (by omega) (by omega), s.i (a := r + 89) (by omega) (by omega), s.l (a := r + 90) (by omega) (by omega), s.i (a := r + 91) (by omega) (by omega)]; exact h.wt)⟩
theorem He.sm {φ φ' : ph_T} {r : Nat} {S : XS} (h : He φ r S) (s : Sm r (r + 92) φ φ') : He φ' r S := fun j hj => by
  rw [s.i (a := r + 30) (by omega) (by omega)]; exact h j hj
theorem He.err {φ : ph_T} {r : Nat} {S : XS} (h : He φ r S) (e : Nat) : He φ r (S.w_err e) := h
theorem CV.sm {Γ : gm_T} {φ φ' : ph_T} {b : Nat} {S : XS} (h : CV Γ φ b S) (s : Sm b (tAd b S.nm S.ns + 256) φ φ') : CV Γ φ' b S := by
  obtain ⟨g1, g2, g3, g4⟩ := h.reg
  have n4 := h.lay.nm4
  have s4 := h.lay.ns4
  have gb : b + 35 ≤ bQ b S.nm S.ns := by unfold bQ; omega
  refine ⟨?_, ?_, ?_, ?_, ?_, ?_, ?_, h.tko, ?_, ?_, ?_⟩
  · exact h.lay.up (s.r (by omega) (by omega)) (s.r (by omega) (by omega)) (s.r (by omega) (by omega)) (s.r (by omega) (by omega)) (s.r (by omega) (by omega)) (s.r (by omega) (by omega)) (s.r (by omega) (by omega))
  · rw [s.i (by omega) (by omega)]; exact h.tc
  · rw [s.i (by omega) (by omega)]; exact h.ti
  · exact h.mem.sm (s.mono (by omega) (by omega))
  · exact h.sw.sm (s.mono (by omega) (by omega))
  · intro m hm
    have := mA_in (b := b) (ns := S.ns) hm
    exact (h.ma m hm).sm (s.mono (by omega) (by omega))
  · exact h.tk.sm (s.mono (by omega) (by omega))
  · intro p hp
    obtain ⟨hd, h'⟩ := h.po p hp
    have := pA_in (b := b) n4.2 s4.2 hp
    exact ⟨hd, h'.sm (s.mono (by omega) (by omega))⟩
  · intro p hp
    have := pA_in (b := b) n4.2 s4.2 hp
    exact (h.mo p hp).sm (s.mono (by omega) (by omega))
  · intro s' hs'
    have := sA_in (b := b) (nm := S.nm) hs'
    exact (h.sl s' hs').sm (s.mono (by omega) (by omega))
theorem CV.err {Γ : gm_T} {φ : ph_T} {b : Nat} {S : XS} (h : CV Γ φ b S) (e : Nat) : CV Γ φ b (S.w_err e) := h.cg rfl rfl rfl rfl rfl rfl rfl rfl rfl rfl rfl rfl rfl rfl rfl rfl rfl rfl rfl rfl rfl rfl rfl rfl rfl rfl rfl rfl rfl rfl rfl rfl rfl rfl
theorem RFr.fr {r : Nat} {K : List Nat} {φ φ' : ph_T} (h : RFr r K φ φ') (hK : ∀ k ∈ K, k < 92) : Fr r (r + 92) φ φ' := by
  intro a ha
  have hn : a ∉ K.map (r + ·) := by
    intro hm
    obtain ⟨k, hk, e⟩ := List.mem_map.mp hm
    have := hK k hk
    omega
  exact ⟨(h.2 a hn).1, (h.2 a hn).2, by rw [h.1]⟩
/-- both objects, and the place for an answer -/
def LW (Γ : gm_T) (φ : ph_T) (x1 x2 x3 : Nat) (S : XS) (k : Nat) : Prop := (CV Γ φ x1 S) ∧ (RV Γ φ x2 S) ∧ (He φ x2 S) ∧ (JI k S) ∧ (gA Γ x3 1 = some 1) ∧ (tAd x1 S.nm S.ns + 256 ≤ x2) ∧ (x2 + 92 ≤ x3)
theorem LW.c {Γ : gm_T} {φ : ph_T} {x1 x2 x3 : Nat} {S : XS} {k : Nat} (h : LW Γ φ x1 x2 x3 S k) : CV Γ φ x1 S := h.1
theorem LW.r {Γ : gm_T} {φ : ph_T} {x1 x2 x3 : Nat} {S : XS} {k : Nat} (h : LW Γ φ x1 x2 x3 S k) : RV Γ φ x2 S := h.2.1
theorem LW.h {Γ : gm_T} {φ : ph_T} {x1 x2 x3 : Nat} {S : XS} {k : Nat} (h : LW Γ φ x1 x2 x3 S k) : He φ x2 S := h.2.2.1
theorem LW.j {Γ : gm_T} {φ : ph_T} {x1 x2 x3 : Nat} {S : XS} {k : Nat} (h : LW Γ φ x1 x2 x3 S k) : JI k S := h.2.2.2.1
theorem LW.o {Γ : gm_T} {φ : ph_T} {x1 x2 x3 : Nat} {S : XS} {k : Nat} (h : LW Γ φ x1 x2 x3 S k) : gA Γ x3 1 = some 1 := h.2.2.2.2.1
theorem LW.s1 {Γ : gm_T} {φ : ph_T} {x1 x2 x3 : Nat} {S : XS} {k : Nat} (h : LW Γ φ x1 x2 x3 S k) : tAd x1 S.nm S.ns + 256 ≤ x2 := h.2.2.2.2.2.1
theorem LW.s2 {Γ : gm_T} {φ : ph_T} {x1 x2 x3 : Nat} {S : XS} {k : Nat} (h : LW Γ φ x1 x2 x3 S k) : x2 + 92 ≤ x3 := h.2.2.2.2.2.2
/-- end of LW -/
def toN (x : Int32) : Nat := x.toBitVec.toNat
theorem toN_nI {n : Nat} (h : n < 2 ^ 32) : toN (nI n) = n := nI_N h
theorem nI_toN (x : Int32) : nI (toN x) = x := by
  apply zI_inj
  show BitVec.ofNat 32 x.toBitVec.toNat = x.toBitVec
  simp
theorem toN_lt (x : Int32) : toN x < 2 ^ 32 := x.toBitVec.isLt
/-- a number between two -/
def inN (x : Int32) (lo hi : Nat) : Bool := inL x.toInt64 (nL lo) (nL hi)
theorem inN_t {x : Int32} {lo hi : Nat} (hl : lo ≤ hi) (hh : hi < 2 ^ 31) (h : inN x lo hi = true) : ∃ n, lo ≤ n ∧ n ≤ hi ∧ x = nI n ∧ toN x = n := by
  obtain ⟨n, h1, h2, h3⟩ := (in_iff hl hh).mp h
  exact ⟨n, h1, h2, h3, by rw [h3]; exact toN_nI (by omega)⟩
theorem nIdx (Γ : gm_T) (φ : ph_T) (x : Int32) {n : Nat} (h0 : 0 < n) (h1 : n < 2 ^ 31) : f_Bus_needIndex Γ φ x (nI n) = some (if inN x 0 (n - 1) = true then .inl () else .inr IOB, φ) := e_needI Γ φ x h0 h1
theorem nNum (Γ : gm_T) (φ : ph_T) (x : Int32) {lo hi : Nat} (h1 : lo < 2 ^ 31) (h2 : hi < 2 ^ 31) : f_Bus_needNumber Γ φ x (nI lo) (nI hi) = some (if inN x lo hi = true then .inl () else .inr IAE, φ) := e_needN Γ φ x h1 h2
theorem bT_l {α β : Type} (v : α) (φ : ph_T) (k : α → ph_T → Option ((β ⊕ String) × ph_T)) : bT (some (.inl v, φ)) k = k v φ := rfl
theorem bT_r {α β : Type} (E : String) (φ : ph_T) (k : α → ph_T → Option ((β ⊕ String) × ph_T)) : bT (some (.inr E, φ)) k = some (.inr E, φ) := rfl
theorem bT_if {β : Type} {b : Bool} {E : String} (φ : ph_T) (k : Unit → ph_T → Option ((β ⊕ String) × ph_T)) : bT (some (if b = true then .inl () else .inr E, φ)) k = if b = true then k () φ else some (.inr E, φ) := by
  cases b <;> rfl
theorem e_inN (Γ : gm_T) (φ : ph_T) (x : Int32) (lo hi : Nat) : f_Ref_in Γ φ x.toInt64 (nL lo) (nL hi) = some (bI (inN x lo hi), φ) := e_in Γ φ _ _ _
theorem nI_64m1 {n : Nat} (h : 1 ≤ n) (h2 : n < 2 ^ 31) : (nI n).toInt64 - (1 : Int64) = nL (n - 1) := by
  have e1 : (nL (n - 1)).toInt = ((n - 1 : Nat) : Int) := Int64.toInt_ofNat_of_lt (by omega)
  apply Int64.toInt_inj.mp
  rw [e1, Int64.toInt_sub, Int32.toInt_toInt64, zI_toInt h2, show (1 : Int64).toInt = 1 from by decide]
  rw [Int.bmod_eq_of_le (by omega) (by omega)]
  omega
/-- the reference's code -/
theorem r_thrown {Γ : gm_T} {φ : ph_T} {r : Nat} {S : XS} (h : RV Γ φ r S) : f_Ref_thrown Γ φ r = some (nI S.err, φ) := by
  unfold f_Ref_thrown
  rw [if_pos h.rl.o, h.sc.er]
def ISE : String := "java/lang/IllegalStateException"
def UOE : String := "java/lang/UnsupportedOperationException"
