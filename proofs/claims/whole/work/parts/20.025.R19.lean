/-! THE REFERENCE's monitors: new writes, beats -/
theorem rSt_eq (x : Int32) : x &&& nI 255 = nI (rSt x) := by
  apply zI_inj
  rw [Int32.toBitVec_and]
  apply BitVec.eq_of_toNat_eq
  simp [zI_bv, rSt, nI]
  rw [show (255 : Nat) = 2 ^ 8 - 1 from rfl, Nat.and_two_pow_sub_one_eq_mod]
  omega
theorem rSt_lt (x : Int32) : rSt x < 256 := Nat.mod_lt _ (by omega)
theorem nt_nI {l : Nat} (hl : l < 2 ^ 32) : nI l ^^^ m1 = nI (2 ^ 32 - (l + 1)) := by
  apply zI_inj
  rw [Int32.toBitVec_xor]
  apply BitVec.eq_of_getLsbD_eq
  intro i hi
  rw [BitVec.getLsbD_xor]
  have h1 : m1.toBitVec = BitVec.allOnes 32 := by decide
  rw [h1, zI_bv, zI_bv, BitVec.getLsbD_ofNat, BitVec.getLsbD_ofNat, BitVec.getLsbD_allOnes, Nat.testBit_two_pow_sub_succ hl]
  simp [hi]
theorem and_nt {a l : Nat} (ha : a < 256) (hl : l < 256) : a &&& (2 ^ 32 - (l + 1)) = a &&& (255 ^^^ l) := by
  apply Nat.eq_of_testBit_eq
  intro j
  rw [Nat.testBit_and, Nat.testBit_and, Nat.testBit_xor, Nat.testBit_two_pow_sub_succ (by omega)]
  by_cases hj : j < 8
  · have h9 : ∀ j : Fin 8, Nat.testBit 255 j.1 = true := by decide
    rw [h9 ⟨j, hj⟩]
    simp [show j < 32 by omega]
  · have : Nat.testBit a j = false := Nat.testBit_lt_two_pow (Nat.lt_of_lt_of_le ha (by rw [show 256 = 2 ^ 8 from rfl]; exact Nat.pow_le_pow_right (by omega) (by omega)))
    simp [this]
theorem r_newWrite {Γ : gm_T} {φ : ph_T} {r : Nat} {S : XS} (h : RV Γ φ r S) {p c : Nat} (hp : p < 10) :
    ((S.mon p).ws.length = 16 ∧ ∃ φ', f_Ref_newWrite Γ φ r (nI p) (nI c) = some (m1, φ') ∧ RV Γ φ' r (S.setM p ((S.mon p).note 12 c)) ∧ RFr r [76, 77, 78] φ φ') ∨
    ((S.mon p).ws.length < 16 ∧ ∃ φ', f_Ref_newWrite Γ φ r (nI p) (nI c) = some (nI (16 * p + (S.mon p).ws.length), φ') ∧ RV Γ φ' r (S.setM p ((S.mon p).w_ws ((S.mon p).ws ++ [mw0]))) ∧ RFr r [79, 81, 83, 84] φ φ') := by
  have hm := h.mo p hp
  have hlw := hm.lw
  have e1 : φ.1 (r + 79) p = nI (S.mon p).ws.length := hm.nw
  unfold f_Ref_newWrite
  simp (disch := first | assumption | omega) only [h.rl.o, rf_89 h.rl, rg_89 h.rl, rf_91 h.rl, rg_91 h.rl, rf_93 h.rl, rg_93 h.rl, rf_94 h.rl, rg_94 h.rl, Option.bind_some, if_true, zix, e1, ↓zm1, zI_ne_m, zI_m_ne, zI_lit, zI_le, zI_eq, zI_mul, zI_lt, zI_modn, zI_div, zI_sub, zI_add, zN_mod, z_or0]
  by_cases hc : (S.mon p).ws.length = 16
  · left
    refine ⟨hc, ?_⟩
    rw [if_pos hc]
    obtain ⟨φ', b1, b2, b3⟩ := r_break h (p := p) (x := 12) (c := c) hp (by omega) (by omega)
    exact ⟨φ', by rw [b1]; rfl, b2, b3⟩
  · right
    refine ⟨by omega, ?_⟩
    rw [if_neg hc]
    simp (disch := first | assumption | omega) only [zix, Option.bind_some, uI_1, uI_2, uI_3, uL_1, uL_2, uL_3, vz_at, Nat.add_left_cancel_iff, Nat.reduceEqDiff, if_false, zr1, zr2, e1, zI_add]
    refine exP (by repeat (first | exact RFr.refl _ _ _ | refine RFr.uI ?_ (by decide) _ _ | refine RFr.uL ?_ (by decide) _ _ | refine rfr_uO ?_ (by decide) _ _)) (fun f => ?_)
    refine h.setM_mo (f.mono (by decide)) ?_
    have hA : maOf (uI (uI (uI (uI φ (r + 81) (16 * p + (S.mon p).ws.length) (nI 0)) (r + 83) (16 * p + (S.mon p).ws.length) (nI 0)) (r + 84) (16 * p + (S.mon p).ws.length) (nI 0)) (r + 79) p (nI ((S.mon p).ws.length + 1))) r = (((((maOf φ r).w_nw (va_up (φ.1 (r + 79)) p (nI ((S.mon p).ws.length + 1)))).w_has (va_up (φ.1 (r + 81)) (16 * p + (S.mon p).ws.length) (nI 0))).w_bea (va_up (φ.1 (r + 83)) (16 * p + (S.mon p).ws.length) (nI 0))).w_las (va_up (φ.1 (r + 84)) (16 * p + (S.mon p).ws.length) (nI 0))) := by simp [maOf, uI_1, uI_2, uI_3, uL_1, uL_2, uL_3, vz_at]
    rw [hA]
    refine VMo.set h.mo ?_ (fun q hq hne => ?_)
    · refine ⟨by show ((S.mon p).ws ++ [_]).length ≤ 16; simp; omega, hm.lr, hm.hel, hm.tks, hm.rul, hm.rl, hm.cha, hm.tic, ?_, hm.nr, fun j x hx => ?_, fun j x hx i hi => ?_, hm.rs, hm.leg⟩
      · show va_up _ p _ p = nI ((S.mon p).ws ++ [_]).length
        rw [vz_same]
        simp
      · have hx' : ((S.mon p).ws ++ [mw0])[j]? = some x := hx
        show va_up (φ.1 (r + 81)) (16 * p + (S.mon p).ws.length) (nI 0) (16 * p + j) = bI x.has ∧ (x.has = true → φ.2.1 (r + 82) (16 * p + j) = x.con ∧ kiN x.con ≠ 3) ∧ va_up (φ.1 (r + 83)) (16 * p + (S.mon p).ws.length) (nI 0) (16 * p + j) = nI x.n ∧ va_up (φ.1 (r + 84)) (16 * p + (S.mon p).ws.length) (nI 0) (16 * p + j) = bI x.last ∧ x.n ≤ 16
        by_cases hj : j < (S.mon p).ws.length
        · rw [List.getElem?_append_left hj] at hx'
          rw [vz_at, vz_at, vz_at, if_neg (by omega), if_neg (by omega), if_neg (by omega)]
          exact hm.ws j x hx'
        · have hj2 : j = (S.mon p).ws.length := by
            have := llt hx'
            simp at this
            omega
          subst hj2
          simp at hx'
          subst hx'
          exact ⟨vz_same _ _ _, (fun h9 => by cases h9), vz_same _ _ _, vz_same _ _ _, Nat.zero_le 16⟩
      · have hx' : ((S.mon p).ws ++ [mw0])[j]? = some x := hx
        by_cases hj : j < (S.mon p).ws.length
        · rw [List.getElem?_append_left hj] at hx'
          exact hm.st j x hx' i hi
        · have hj2 : j = (S.mon p).ws.length := by
            have := llt hx'
            simp at this
            omega
          subst hj2
          simp at hx'
          subst hx'
          exact absurd hi (Nat.not_lt_zero i)
    · refine VM1.fr (h.mo q hq) (fun c _ => ⟨rfl, rfl, rfl⟩) ?_ (fun k hk => ⟨?_, rfl, ?_, ?_, rfl, rfl⟩) (fun k i _ _ => rfl)
      · refine ⟨?_, ?_, ?_, ?_, ?_, ?_⟩ <;> first | rfl | exact vz_ne _ hne
      · show va_up (φ.1 (r + 81)) (16 * p + (S.mon p).ws.length) (nI 0) (16 * q + k) = φ.1 (r + 81) (16 * q + k)
        rw [vz_at, if_neg (by omega)]
      · show va_up (φ.1 (r + 83)) (16 * p + (S.mon p).ws.length) (nI 0) (16 * q + k) = φ.1 (r + 83) (16 * q + k)
        rw [vz_at, if_neg (by omega)]
      · show va_up (φ.1 (r + 84)) (16 * p + (S.mon p).ws.length) (nI 0) (16 * q + k) = φ.1 (r + 84) (16 * q + k)
        rw [vz_at, if_neg (by omega)]
theorem r_checkBeat {Γ : gm_T} {φ : ph_T} {r : Nat} {S : XS} (h : RV Γ φ r S) {p j k ch : Nat} (hp : p < 10) {e : MW} (he : (S.mon p).ws[j]? = some e) (hh : e.has = true) (hk : k < e.n) :
    ∃ φ', f_Ref_checkBeat Γ φ r (nI p) (nI (16 * p + j)) (nI k) (nI ch) = some ((), φ') ∧ RV Γ φ' r (S.setM p ((S.mon p).note (badB e k) ch)) ∧ RFr r [76, 77, 78] φ φ' := by
  have hm := h.mo p hp
  have hj := llt he
  have hlw := hm.lw
  have hw := hm.ws j e he
  have hn := hw.2.2.2.2
  have w2 : φ.2.1 (r + 82) (16 * p + j) = e.con := (hw.2.1 hh).1
  have hki := (hw.2.1 hh).2
  have ws : φ.1 (r + 85) (16 * (16 * p + j) + k) = e.rst k := hm.st j e he k hk
  have hle := leN_le e.con
  have hpos := leN_pos e.con
  have hba := baN_lt e.con (k := k) (by omega)
  have hla := laN_lt (baN e.con k) (szN_cases e.con)
  have hst := rSt_lt (e.rst k)
  have hand : rSt (e.rst k) &&& (255 ^^^ laN (baN e.con k) (szN e.con)) ≤ rSt (e.rst k) := Nat.and_le_left
  have B : ∀ x, 0 < x → x < 13 → ∃ φ', (f_Ref_breakAt Γ φ r (nI p) (nI x) (nI ch)).bind (fun q => some ((), q.2)) = some ((), φ') ∧ RV Γ φ' r (S.setM p ((S.mon p).note x ch)) ∧ RFr r [76, 77, 78] φ φ' := by
    intro x h0 h13
    obtain ⟨φ', e1, e2, e3⟩ := r_break h (p := p) (x := x) (c := ch) hp h0 h13
    exact ⟨φ', by rw [e1]; rfl, e2, e3⟩
  have L63 : f_Ref_checkBeat_L63 Γ φ r (nI p) (nI ch) = (f_Ref_breakAt Γ φ r (nI p) (nI 7) (nI ch)).bind (fun q => some ((), q.2)) := by
    unfold f_Ref_checkBeat_L63
    rw [if_pos h.rl.o]
    rfl
  have L73 : f_Ref_checkBeat_L73 Γ φ r (nI p) (nI (16 * p + j)) (nI k) (nI ch) = if rSt (e.rst k) &&& (255 ^^^ laN (baN e.con k) (szN e.con)) = 0 then some ((), φ) else (f_Ref_breakAt Γ φ r (nI p) (nI 8) (nI ch)).bind (fun q => some ((), q.2)) := by
    unfold f_Ref_checkBeat_L73 f_Ref_checkBeat_L129
    simp (disch := first | assumption | omega) only [h.rl.o, rf_92 h.rl, rg_92 h.rl, rf_95 h.rl, rg_95 h.rl, Option.bind_some, if_true, zix, w2]
    rw [e_Ref_beatAt Γ φ e.con (k := k) (by omega) hki]
    simp only [Option.bind_some, rf_92 h.rl, rg_92 h.rl]
    rw [zix (show 16 * p + j < 160 by omega)]
    simp only [Option.bind_some, w2, e_Ref_sizeOf]
    rw [e_Ref_lanesOf Γ φ (by omega) (szN_cases e.con)]
    simp only [Option.bind_some, rf_95 h.rl, rg_95 h.rl, ↓zm1, zI_lit, zI_mul, zI_add]
    rw [zix (show 16 * (16 * p + j) + k < 2560 by omega)]
    simp only [Option.bind_some, ws, rSt_eq]
    rw [nt_nI (show laN (baN e.con k) (szN e.con) < 2 ^ 32 by omega), zI_and, and_nt hst hla]
    simp (disch := first | assumption | omega) only [zI_eq]
  unfold f_Ref_checkBeat f_Ref_checkBeat_L34 badB
  simp only [h.rl.o, if_true, rf_92 h.rl, rg_92 h.rl, rf_95 h.rl, rg_95 h.rl, Option.bind_some, zI_lit, zI_mul, zI_add]
  rw [zix (show 16 * p + j < 160 by omega)]
  simp only [Option.bind_some, w2, e_Ref_lengthOf, rf_95 h.rl, rg_95 h.rl]
  rw [zix (show 16 * (16 * p + j) + k < 2560 by omega)]
  simp only [Option.bind_some, ws, rLa_eq, L63, L73]
  simp (disch := first | assumption | omega) only [zI_sub, zI_eq, zI_lt]
  have T : ∃ φ', (if rSt (e.rst k) &&& (255 ^^^ laN (baN e.con k) (szN e.con)) = 0 then some ((), φ) else (f_Ref_breakAt Γ φ r (nI p) (nI 8) (nI ch)).bind (fun q => some ((), q.2))) = some ((), φ') ∧ RV Γ φ' r (S.setM p ((S.mon p).note (if rSt (e.rst k) &&& (255 ^^^ laN (baN e.con k) (szN e.con)) ≠ 0 then 8 else 0) ch)) ∧ RFr r [76, 77, 78] φ φ' := by
    by_cases h0 : rSt (e.rst k) &&& (255 ^^^ laN (baN e.con k) (szN e.con)) = 0
    · rw [if_pos h0, if_neg (fun hc => hc h0)]
      exact r_note h p ch
    · rw [if_neg h0, if_pos h0]
      exact B 8 (by omega) (by omega)
  by_cases hd : k = leN e.con - 1
  · cases hL : rLa (e.rst k) with
    | true =>
      simp only [hd, Bool.true_eq_false, if_false, if_true, decide_true, ne_eq, not_true, false_or, show ¬ (leN e.con ≤ leN e.con - 1) by omega] at T hL ⊢
      exact T
    | false =>
      simp only [hd, if_true, decide_true, ne_eq, Bool.true_eq_false, not_false_eq_true, true_or]
      exact B 7 (by omega) (by omega)
  · cases hL : rLa (e.rst k) with
    | true =>
      simp only [hd, Bool.true_eq_false, if_false, if_true, decide_false, ne_eq, Bool.false_eq_true, not_false_eq_true, true_or, show ¬ (1 = 0) by omega]
      exact B 7 (by omega) (by omega)
    | false =>
      simp only [hd, if_false, if_true, decide_false, ne_eq, not_true, false_or]
      by_cases hlt : k < leN e.con
      · rw [if_pos hlt, if_neg (show ¬ leN e.con ≤ k by omega)]
        exact T
      · rw [if_neg hlt, if_pos (show leN e.con ≤ k by omega)]
        exact B 7 (by omega) (by omega)
