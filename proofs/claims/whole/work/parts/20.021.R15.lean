/-! THE REFERENCE's MONITORS -/
theorem rRe_eq (x : Int32) : (x >>> (nI 6 &&& nI 31)) &&& nI 3 = nI (rRe x) := by
  rw [show nI 6 &&& nI 31 = nI 6 from by decide]
  apply zI_inj
  rw [Int32.toBitVec_and, Int32.toBitVec_shiftRight]
  have h1 : ((nI 6).toBitVec.smod 32) = BitVec.ofNat 32 6 := by decide
  rw [h1, BitVec.sshiftRight_eq', show (BitVec.ofNat 32 6).toNat = 6 from rfl]
  apply BitVec.eq_of_getLsbD_eq
  intro i hi
  simp only [zI_bv, BitVec.getLsbD_and, BitVec.getLsbD_sshiftRight, BitVec.getLsbD_ofNat, hi, decide_true, Bool.true_and]
  unfold rRe
  rw [show (4 : Nat) = 2 ^ 2 from rfl, show (64 : Nat) = 2 ^ 6 from rfl, show (3 : Nat) = 2 ^ 2 - 1 from rfl, Nat.testBit_mod_two_pow, Nat.testBit_div_two_pow, Nat.testBit_two_pow_sub_one]
  by_cases h2 : i < 2
  · have h3 : 6 + i < 32 := by omega
    have h4 : ¬ 32 ≤ i := by omega
    simp [h2, h3, h4, BitVec.testBit_toNat, Nat.add_comm]
    intro h9
    omega
  · simp [h2]
theorem rRe_lt (x : Int32) : rRe x < 4 := Nat.mod_lt _ (by omega)
theorem rLa_eq (x : Int32) : (x &&& nI 256 = nI 0) ↔ rLa x = false := by
  have h : x &&& nI 256 = nI (x.toBitVec.toNat / 256 % 2 * 256) := by
    apply zI_inj
    rw [Int32.toBitVec_and]
    apply BitVec.eq_of_getLsbD_eq
    intro i hi
    simp only [zI_bv, BitVec.getLsbD_and, BitVec.getLsbD_ofNat, hi, decide_true, Bool.true_and]
    rw [show (256 : Nat) = 2 ^ 8 from rfl, Nat.testBit_two_pow]
    by_cases h8 : 8 = i
    · subst h8
      rw [← Nat.shiftLeft_eq, Nat.testBit_shiftLeft]
      simp only [decide_true, Bool.and_true]
      rw [show (2 : Nat) = 2 ^ 1 from rfl, Nat.testBit_mod_two_pow, ← Nat.pow_mul, Nat.testBit_div_two_pow]
      simp [BitVec.testBit_toNat]
    · rw [← Nat.shiftLeft_eq, Nat.testBit_shiftLeft, show (2 : Nat) = 2 ^ 1 from rfl, Nat.testBit_mod_two_pow]
      simp [h8]
      omega
  rw [h]
  unfold rLa
  have h2 : x.toBitVec.toNat / 256 % 2 < 2 := Nat.mod_lt _ (by omega)
  generalize x.toBitVec.toNat / 256 % 2 = y at h2
  match y, h2 with
  | 0, _ => decide
  | 1, _ => decide
def XS.setM (S : XS) (p : Nat) (o : MO) : XS := (S.w_mon (va_up S.mon p o))
theorem vz_ne {α : Type} {f : Nat → α} {k j : Nat} (v : α) (h : j ≠ k) : va_up f k v j = f j := by rw [vz_at, if_neg h]
theorem vz_self {α : Type} (f : Nat → α) (k : Nat) : va_up f k (f k) = f := by
  funext j
  simp only [vz_at]
  split
  · rename_i h; rw [h]
  · rfl
theorem setM_self (S : XS) (p : Nat) : S.setM p (S.mon p) = S := by unfold XS.setM; rw [vz_self, XS.w_mon_self]
theorem VM1.fr {A A' : MA} {q : Nat} {o : MO} (h : VM1 A q o) (e1 : ∀ c, c < 5 → A'.hel (5 * q + c) = A.hel (5 * q + c) ∧ A'.hc (5 * q + c) = A.hc (5 * q + c) ∧ A'.hr (5 * q + c) = A.hr (5 * q + c))
    (e2 : A'.tks q = A.tks q ∧ A'.rul q = A.rul q ∧ A'.cha q = A.cha q ∧ A'.tic q = A.tic q ∧ A'.nw q = A.nw q ∧ A'.nr q = A.nr q)
    (e3 : ∀ k, k < 16 → A'.has (16 * q + k) = A.has (16 * q + k) ∧ A'.bur (16 * q + k) = A.bur (16 * q + k) ∧ A'.bea (16 * q + k) = A.bea (16 * q + k) ∧ A'.las (16 * q + k) = A.las (16 * q + k) ∧ A'.rea (16 * q + k) = A.rea (16 * q + k) ∧ A'.rbe (16 * q + k) = A.rbe (16 * q + k))
    (e4 : ∀ k i, k < 16 → i < 16 → A'.str (16 * (16 * q + k) + i) = A.str (16 * (16 * q + k) + i)) : VM1 A' q o := by
  have hw := h.lw
  have hr := h.lr
  refine ⟨h.lw, h.lr, fun c hc => ?_, ?_, ?_, h.rl, ?_, ?_, ?_, ?_, fun k e he => ?_, fun k e he i hi => ?_, fun k e he => ?_, h.leg⟩
  · rw [(e1 c hc).1, (e1 c hc).2.1, (e1 c hc).2.2]; exact h.hel c hc
  · rw [e2.1]; exact h.tks
  · rw [e2.2.1]; exact h.rul
  · rw [e2.2.2.1]; exact h.cha
  · rw [e2.2.2.2.1]; exact h.tic
  · rw [e2.2.2.2.2.1]; exact h.nw
  · rw [e2.2.2.2.2.2]; exact h.nr
  · have := llt he
    have e := e3 k (by omega)
    rw [e.1, e.2.1, e.2.2.1, e.2.2.2.1]; exact h.ws k _ he
  · have := llt he
    have h9 := (h.ws k e he).2.2.2.2
    rw [e4 k i (by omega) (by omega)]; exact h.st k e he i hi
  · have := llt he
    have e := e3 k (by omega)
    rw [e.2.2.2.2.1, e.2.2.2.2.2]; exact h.rs k _ he
theorem VMo.set {A A' : MA} {mon : Nat → MO} (h : VMo A mon) {p : Nat} {o : MO} (h1 : VM1 A' p o) (hq : ∀ q, q < 10 → q ≠ p → VM1 A' q (mon q)) : VMo A' (va_up mon p o) := by
  intro q hq'
  simp only [vz_at]
  split
  · rename_i e; rw [e]; exact h1
  · rename_i e; exact hq q hq' e
theorem r_break {Γ : gm_T} {φ : ph_T} {r : Nat} {S : XS} (h : RV Γ φ r S) {p x c : Nat} (hp : p < 10) (hx0 : 0 < x) (hx : x < 13) :
    ∃ φ', f_Ref_breakAt Γ φ r (nI p) (nI x) (nI c) = some ((), φ') ∧ RV Γ φ' r (S.setM p ((S.mon p).note x c)) ∧ RFr r [76, 77, 78] φ φ' := by
  have hm := h.mo p hp
  have e1 : φ.1 (r + 76) p = nI (S.mon p).rule := hm.rul
  have e2 : φ.1 (r + 75) p = (S.mon p).ticks := hm.tks
  have hrl := hm.rl
  unfold f_Ref_breakAt f_Ref_breakAt_L35 MO.note
  simp (disch := first | assumption | omega) only [h.rl.o, rf_85 h.rl, rg_85 h.rl, rf_86 h.rl, rg_86 h.rl, rf_87 h.rl, rg_87 h.rl, rf_88 h.rl, rg_88 h.rl, Option.bind_some, if_true, zix, e1, ↓zm1, zI_ne_m, zI_m_ne, zI_lit, zI_le, zI_eq, zI_mul, zI_lt, zI_modn, zI_div, zI_sub, zI_add, zN_mod, uI_1, uI_2, uI_3, uL_1, uL_2, uL_3, vz_at, Nat.add_left_cancel_iff, Nat.reduceEqDiff, if_false, zr1, zr2]
  by_cases h0 : (S.mon p).rule = 0
  · rw [if_pos h0, if_pos ⟨h0, by omega⟩]
    simp only [e2]
    refine exP (by repeat (first | exact RFr.refl _ _ _ | refine RFr.uI ?_ (by decide) _ _ | refine RFr.uL ?_ (by decide) _ _ | refine rfr_uO ?_ (by decide) _ _)) (fun f => ?_)
    have hA : maOf (uI (uI (uI φ (r + 76) p (nI x)) (r + 77) p (nI c)) (r + 78) p (S.mon p).ticks) r = ((((maOf φ r).w_rul (va_up (φ.1 (r + 76)) p (nI x))).w_cha (va_up (φ.1 (r + 77)) p (nI c))).w_tic (va_up (φ.1 (r + 78)) p (S.mon p).ticks)) := by simp [maOf, uI_1, uI_2, uI_3, uL_1, uL_2, uL_3, vz_at]
    have hv : VMo (maOf (uI (uI (uI φ (r + 76) p (nI x)) (r + 77) p (nI c)) (r + 78) p (S.mon p).ticks) r) (va_up S.mon p (((((S.mon p)).w_rule (x)).w_chan (nI c)).w_tick ((S.mon p).ticks))) := by
      rw [hA]
      refine VMo.set h.mo ?_ (fun q hq hne => ?_)
      · refine ⟨hm.lw, hm.lr, hm.hel, hm.tks, vz_same _ _ _, hx, vz_same _ _ _, vz_same _ _ _, hm.nw, hm.nr, hm.ws, hm.st, hm.rs, fun h9 => ?_⟩
        exact absurd h9 (show ¬ (x = 0) by omega)
      · refine VM1.fr (h.mo q hq) (fun c _ => ⟨rfl, rfl, rfl⟩) ?_ (fun k _ => ⟨rfl, rfl, rfl, rfl, rfl, rfl⟩) (fun k i _ _ => rfl)
        refine ⟨?_, ?_, ?_, ?_, ?_, ?_⟩ <;> first | rfl | exact vz_ne _ hne
    exact ⟨(RL.up h.rl (congrFun f.1 r)), (by rw [f.o (by decide)]; exact ⟨h.sc.nm, h.sc.ns, h.sc.lim, h.sc.pol, h.sc.whole, h.sc.time, h.sc.tk, h.sc.wm, h.sc.rm, h.sc.db, h.sc.er⟩), (by rw [f.i 1 (by decide)]; exact h.pg), (by rw [f.i 2 (by decide)]; exact h.mp), (by rw [f.i 3 (by decide)]; exact h.sp), (by rw [f.i 4 (by decide)]; exact h.ea), (by rw [f.i 5 (by decide)]; exact h.de), (by rw [f.i 6 (by decide)]; exact h.wa), (by rw [f.i 7 (by decide), f.i 8 (by decide)]; exact h.me), (by rw [f.i 9 (by decide), f.i 10 (by decide), f.i 11 (by decide), f.i 12 (by decide), f.i 13 (by decide), f.i 14 (by decide), f.i 15 (by decide), f.i 16 (by decide), f.i 17 (by decide), f.i 18 (by decide), f.i 20 (by decide), f.i 21 (by decide), f.i 22 (by decide), f.i 23 (by decide), f.i 24 (by decide), f.l 19 (by decide), f.l 25 (by decide)]; exact h.tk), (by rw [f.i 26 (by decide), f.i 27 (by decide), f.l 28 (by decide), f.i 29 (by decide)]; exact h.wi), (by rw [f.i 31 (by decide)]; exact h.tr), (by rw [f.l 32 (by decide), f.i 33 (by decide), f.i 34 (by decide), f.i 35 (by decide)]; exact h.row), (by rw [f.i 36 (by decide), f.i 37 (by decide), f.i 38 (by decide), f.i 39 (by decide)]; exact h.uw), (by rw [f.i 40 (by decide), f.i 41 (by decide), f.i 42 (by decide)]; exact h.ur), (by rw [f.i 43 (by decide), f.i 44 (by decide), f.i 45 (by decide), f.i 46 (by decide), f.i 47 (by decide)]; exact ⟨h.la.haw, h.la.har, h.la.hb, h.la.hg, h.la.hinn⟩), (by rw [f.i 48 (by decide), f.i 49 (by decide), f.i 50 (by decide), f.l 51 (by decide), f.i 52 (by decide), f.i 53 (by decide), f.i 54 (by decide), f.l 55 (by decide), f.i 56 (by decide)]; exact h.sw), (by rw [f.i 57 (by decide), f.i 58 (by decide), f.i 59 (by decide), f.l 60 (by decide), f.i 61 (by decide), f.i 62 (by decide), f.i 63 (by decide), f.l 64 (by decide), f.i 65 (by decide)]; exact h.sr), (by rw [f.i 66 (by decide), f.i 67 (by decide), f.i 68 (by decide), f.i 69 (by decide)]; exact ⟨h.ch.hnums, h.ch.hlat, h.ch.hchb, h.ch.hchr⟩), (by rw [f.i 70 (by decide), f.i 71 (by decide)]; exact h.rg), hv, (by rw [f.i 88 (by decide), f.i 89 (by decide), f.l 90 (by decide), f.i 91 (by decide)]; exact h.wt)⟩
  · rw [if_neg h0, if_neg (fun hc => h0 hc.1)]
    refine exP (RFr.refl _ _ _) (fun f => ?_)
    have := setM_self S p
    unfold XS.setM at this ⊢
    rw [this]
    exact h
