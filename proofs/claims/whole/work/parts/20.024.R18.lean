/-! THE REFERENCE's monitors: a write is answered -/
theorem r_dropW_in {Γ : gm_T} {r p k : Nat} (K : ph_T → Nat → Int32 → Int32 → Option (Unit × ph_T)) (hk : k < 159) : ∀ (d i fu : Nat) (φ : ph_T), i + d = 16 → d < fu → RL Γ φ r →
    ∃ φ', f_Ref_dropWrite_L86 Γ K fu φ r (nI p) (nI k) (nI i) = K φ' r (nI p) (nI (k + 1)) ∧ RFr r [85] φ φ' ∧
      (∀ j, φ'.1 (r + 85) j = if 16 * k + i ≤ j ∧ j < 16 * k + 16 then φ.1 (r + 85) (j + 16) else φ.1 (r + 85) j) := by
  intro d
  induction d with
  | zero =>
    intro i fu φ hd hfu hl
    match fu, hfu with
    | fu + 1, _ =>
      unfold f_Ref_dropWrite_L86
      simp (disch := first | assumption | omega) only [↓zm1, zI_ne_m, zI_m_ne, zI_lit, zI_le, zI_eq, zI_mul, zI_lt, zI_modn, zI_div, zI_sub, zI_add, zN_mod]
      rw [if_pos (show 16 ≤ i by omega)]
      refine ⟨φ, rfl, RFr.refl _ _ _, fun j => ?_⟩
      rw [if_neg (by omega)]
  | succ d ih =>
    intro i fu φ hd hfu hl
    match fu, hfu with
    | fu + 1, hfu =>
      unfold f_Ref_dropWrite_L86
      simp (disch := first | assumption | omega) only [hl.o, rf_95 hl, rg_95 hl, Option.bind_some, if_true, zix, ↓zm1, zI_ne_m, zI_m_ne, zI_lit, zI_le, zI_eq, zI_mul, zI_lt, zI_modn, zI_div, zI_sub, zI_add, zN_mod]
      rw [if_neg (show ¬ 16 ≤ i by omega)]
      obtain ⟨φ', e, f, g1⟩ := ih (i + 1) fu (uI φ (r + 85) (16 * k + i) (φ.1 (r + 85) (16 * k + 16 + i))) (by omega) (by omega) (hl.up rfl)
      refine ⟨φ', e, RFr.trans (by repeat (first | exact RFr.refl _ _ _ | refine RFr.uI ?_ (by decide) _ _ | refine RFr.uL ?_ (by decide) _ _ | refine rfr_uO ?_ (by decide) _ _)) f, fun j => ?_⟩
      rw [g1]
      simp (disch := first | assumption | omega) only [uI_1, uI_2, uI_3, uL_1, uL_2, uL_3, vz_at, Nat.add_left_cancel_iff, Nat.reduceEqDiff, if_false, zr1, zr2, if_true, if_false]
      repeat' split
      all_goals first | rfl | omega | exact congrArg _ (by omega)
def isB (x : Int32) : Prop := x = nI 0 ∨ x = nI 1
theorem r_dropW_L {Γ : gm_T} {r p n : Nat} (hp : p < 10) (hn : n < 16) : ∀ (d j fu : Nat) (φ : ph_T), j + d = n → d < fu → RL Γ φ r → φ.1 (r + 79) p = nI n → (∀ k, 16 * p + j < k → k ≤ 16 * p + n → isB (φ.1 (r + 81) k) ∧ isB (φ.1 (r + 84) k)) →
    ∃ φ', f_Ref_dropWrite_L12 Γ fu φ r (nI p) (nI (16 * p + j)) = some ((), φ') ∧ RFr r [81, 82, 83, 84, 85] φ φ' ∧
      (∀ k, φ'.1 (r + 81) k = if 16 * p + j ≤ k ∧ k < 16 * p + n then φ.1 (r + 81) (k + 1) else φ.1 (r + 81) k) ∧
      (∀ k, φ'.2.1 (r + 82) k = if 16 * p + j ≤ k ∧ k < 16 * p + n then φ.2.1 (r + 82) (k + 1) else φ.2.1 (r + 82) k) ∧
      (∀ k, φ'.1 (r + 83) k = if 16 * p + j ≤ k ∧ k < 16 * p + n then φ.1 (r + 83) (k + 1) else φ.1 (r + 83) k) ∧
      (∀ k, φ'.1 (r + 84) k = if 16 * p + j ≤ k ∧ k < 16 * p + n then φ.1 (r + 84) (k + 1) else φ.1 (r + 84) k) ∧
      (∀ k, φ'.1 (r + 85) k = if 16 * (16 * p + j) ≤ k ∧ k < 16 * (16 * p + n) then φ.1 (r + 85) (k + 16) else φ.1 (r + 85) k) := by
  intro d
  induction d with
  | zero =>
    intro j fu φ hd hfu hl hm hb
    match fu, hfu with
    | fu + 1, _ =>
      unfold f_Ref_dropWrite_L12
      simp only [hl.o, if_true, rf_89 hl, rg_89 hl, Option.bind_some, zI_lit, zI_mul, zI_add]
      rw [zix (show p < 10 by omega)]
      simp only [Option.bind_some, hm, zI_add]
      rw [if_pos ((zI_le (by omega) (by omega)).mpr (by omega))]
      refine ⟨φ, rfl, RFr.refl _ _ _, fun k => ?_, fun k => ?_, fun k => ?_, fun k => ?_, fun k => ?_⟩ <;> rw [if_neg (by omega)]
  | succ d ih =>
    intro j fu φ hd hfu hl hm hb
    match fu, hfu with
    | fu + 1, hfu =>
      have hb1 := hb (16 * p + (j + 1)) (by omega) (by omega)
      unfold isB at hb1
      unfold f_Ref_dropWrite_L12
      simp only [hl.o, if_true, rf_89 hl, rg_89 hl, Option.bind_some, zI_lit, zI_mul, zI_add]
      rw [zix (show p < 10 by omega)]
      simp only [Option.bind_some, hm, zI_add]
      rw [if_neg (fun hc => by have := (zI_le (by omega) (by omega)).mp hc; omega), Nat.add_assoc]
      simp only [rf_91 hl, rg_91 hl, rf_92 hl, rg_92 hl, rf_93 hl, rg_93 hl, rf_94 hl, rg_94 hl, Option.bind_some, zix (show 16 * p + (j + 1) < 160 by omega), zix (show 16 * p + j < 160 by omega)]
      simp (disch := first | assumption | omega) only [uI_1, uI_2, uI_3, uL_1, uL_2, uL_3, vz_at, Nat.add_left_cancel_iff, Nat.reduceEqDiff, if_false, zr1, zr2, hb1.1, hb1.2, if_true]
      obtain ⟨φ1, e1, f1, g1⟩ := r_dropW_in (Γ := Γ) (r := r) (p := p) (k := 16 * p + j) (f_Ref_dropWrite_L12 Γ fu) (by omega) 16 0 jF (uI (uI (uL (uI φ (r + 81) (16 * p + j) (φ.1 (r + 81) (16 * p + (j + 1)))) (r + 82) (16 * p + j) (φ.2.1 (r + 82) (16 * p + (j + 1)))) (r + 83) (16 * p + j) (φ.1 (r + 83) (16 * p + (j + 1)))) (r + 84) (16 * p + j) (φ.1 (r + 84) (16 * p + (j + 1)))) (by omega) (by unfold jF; omega) (hl.up rfl)
      rw [e1]
      have hl1 : RL Γ φ1 r := hl.up (congrFun f1.1 r)
      have a81 : ∀ k, φ1.1 (r + 81) k = if k = 16 * p + j then φ.1 (r + 81) (16 * p + (j + 1)) else φ.1 (r + 81) k := fun k => by rw [f1.i 81 (by decide)]; simp [uI_1, uI_2, uI_3, uL_1, uL_2, uL_3, vz_at]
      have a82 : ∀ k, φ1.2.1 (r + 82) k = if k = 16 * p + j then φ.2.1 (r + 82) (16 * p + (j + 1)) else φ.2.1 (r + 82) k := fun k => by rw [f1.l 82 (by decide)]; simp [uI_1, uI_2, uI_3, uL_1, uL_2, uL_3, vz_at]
      have a83 : ∀ k, φ1.1 (r + 83) k = if k = 16 * p + j then φ.1 (r + 83) (16 * p + (j + 1)) else φ.1 (r + 83) k := fun k => by rw [f1.i 83 (by decide)]; simp [uI_1, uI_2, uI_3, uL_1, uL_2, uL_3, vz_at]
      have a84 : ∀ k, φ1.1 (r + 84) k = if k = 16 * p + j then φ.1 (r + 84) (16 * p + (j + 1)) else φ.1 (r + 84) k := fun k => by rw [f1.i 84 (by decide)]; simp [uI_1, uI_2, uI_3, uL_1, uL_2, uL_3, vz_at]
      have a85 : ∀ k, φ1.1 (r + 85) k = if 16 * (16 * p + j) ≤ k ∧ k < 16 * (16 * p + j) + 16 then φ.1 (r + 85) (k + 16) else φ.1 (r + 85) k := fun k => by rw [g1]; simp [uI_1, uI_2, uI_3, uL_1, uL_2, uL_3, vz_at]
      obtain ⟨φ', e, f, h1, h2, h3, h4, h5⟩ := ih (j + 1) fu φ1 (by omega) (by omega) hl1 (by rw [f1.i 79 (by decide)]; simp [uI_1, uI_2, uI_3, uL_1, uL_2, uL_3, vz_at, hm]) (fun k hk1 hk2 => by rw [a81, a84, if_neg (by omega), if_neg (by omega)]; exact hb k (by omega) hk2)
      rw [Nat.add_assoc]
      refine ⟨φ', e, RFr.trans (RFr.trans (by repeat (first | exact RFr.refl _ _ _ | refine RFr.uI ?_ (by decide) _ _ | refine RFr.uL ?_ (by decide) _ _ | refine rfr_uO ?_ (by decide) _ _)) (f1.mono (by decide))) f, fun k => ?_, fun k => ?_, fun k => ?_, fun k => ?_, fun k => ?_⟩
      · rw [h1, a81, a81]
        repeat' split
        all_goals first | rfl | omega | exact congrArg _ (by omega)
      · rw [h2, a82, a82]
        repeat' split
        all_goals first | rfl | omega | exact congrArg _ (by omega)
      · rw [h3, a83, a83]
        repeat' split
        all_goals first | rfl | omega | exact congrArg _ (by omega)
      · rw [h4, a84, a84]
        repeat' split
        all_goals first | rfl | omega | exact congrArg _ (by omega)
      · rw [h5, a85, a85]
        repeat' split
        all_goals first | rfl | omega | exact congrArg _ (by omega)
theorem bI_isB (b : Bool) : isB (bI b) := by cases b; exact Or.inl rfl; exact Or.inr rfl
theorem r_dropWrite {Γ : gm_T} {φ : ph_T} {r : Nat} {S : XS} (h : RV Γ φ r S) {p j : Nat} (hp : p < 10) (hj : j < (S.mon p).ws.length) :
    ∃ φ', f_Ref_dropWrite Γ φ r (nI p) (nI (16 * p + j)) = some ((), φ') ∧ RV Γ φ' r (S.setM p ((S.mon p).w_ws ((S.mon p).ws.eraseIdx j))) ∧ RFr r [79, 81, 82, 83, 84, 85] φ φ' := by
  have hm := h.mo p hp
  have hlw := hm.lw
  have e1 : φ.1 (r + 79) p = nI (S.mon p).ws.length := hm.nw
  unfold f_Ref_dropWrite
  simp (disch := first | assumption | omega) only [h.rl.o, rf_89 h.rl, rg_89 h.rl, Option.bind_some, if_true, zix, e1, ↓zm1, zI_ne_m, zI_m_ne, zI_lit, zI_le, zI_eq, zI_mul, zI_lt, zI_modn, zI_div, zI_sub, zI_add, zN_mod, uI_1, uI_2, uI_3, uL_1, uL_2, uL_3, vz_at, Nat.add_left_cancel_iff, Nat.reduceEqDiff, if_false, zr1, zr2]
  obtain ⟨φ', e, f, g1, g2, g3, g4, g5⟩ := r_dropW_L (Γ := Γ) (r := r) (p := p) (n := (S.mon p).ws.length - 1) hp (by omega) ((S.mon p).ws.length - 1 - j) j jF (uI φ (r + 79) p (nI ((S.mon p).ws.length - 1))) (by omega) (by unfold jF; omega) (h.rl.up rfl) (by simp [uI_1, uI_2, uI_3, uL_1, uL_2, uL_3, vz_at]) (fun k hk1 hk2 => by
    obtain ⟨x, hx⟩ := lget (l := (S.mon p).ws) (t := k - 16 * p) (by omega)
    have hw := hm.ws (k - 16 * p) x hx
    have q1 : φ.1 (r + 81) (16 * p + (k - 16 * p)) = bI x.has := hw.1
    have q4 : φ.1 (r + 84) (16 * p + (k - 16 * p)) = bI x.last := hw.2.2.2.1
    rw [show 16 * p + (k - 16 * p) = k by omega] at q1 q4
    simp (disch := first | assumption | omega) only [uI_1, uI_2, uI_3, uL_1, uL_2, uL_3, vz_at, Nat.add_left_cancel_iff, Nat.reduceEqDiff, if_false, zr1, zr2]
    rw [q1, q4]
    exact ⟨bI_isB _, bI_isB _⟩)
  have f2 : RFr r [79, 81, 82, 83, 84, 85] φ φ' := RFr.trans (by repeat (first | exact RFr.refl _ _ _ | refine RFr.uI ?_ (by decide) _ _ | refine RFr.uL ?_ (by decide) _ _ | refine rfr_uO ?_ (by decide) _ _)) (f.mono (by decide))
  refine ⟨φ', e, ?_, f2⟩
  refine h.setM_mo (f2.mono (by decide)) ?_
  have hA : maOf φ' r = (((((((maOf φ r).w_nw (va_up (φ.1 (r + 79)) p (nI ((S.mon p).ws.length - 1)))).w_has (φ'.1 (r + 81))).w_bur (φ'.2.1 (r + 82))).w_bea (φ'.1 (r + 83))).w_las (φ'.1 (r + 84))).w_str (φ'.1 (r + 85))) := by
    unfold maOf
    rw [f2.i 72 (by decide), f2.l 73 (by decide), f2.i 74 (by decide), f2.i 75 (by decide), f2.i 76 (by decide), f2.i 77 (by decide), f2.i 78 (by decide), f2.i 80 (by decide), f2.l 86 (by decide), f2.i 87 (by decide), f.i 79 (by decide)]
    simp [uI_1, uI_2, uI_3, uL_1, uL_2, uL_3, vz_at]
  have g1' : ∀ k, φ'.1 (r + 81) k = if 16 * p + j ≤ k ∧ k < 16 * p + ((S.mon p).ws.length - 1) then φ.1 (r + 81) (k + 1) else φ.1 (r + 81) k := fun k => by rw [g1]; simp [uI_1, uI_2, uI_3, uL_1, uL_2, uL_3, vz_at]
  have g2' : ∀ k, φ'.2.1 (r + 82) k = if 16 * p + j ≤ k ∧ k < 16 * p + ((S.mon p).ws.length - 1) then φ.2.1 (r + 82) (k + 1) else φ.2.1 (r + 82) k := fun k => by rw [g2]; simp [uI_1, uI_2, uI_3, uL_1, uL_2, uL_3, vz_at]
  have g3' : ∀ k, φ'.1 (r + 83) k = if 16 * p + j ≤ k ∧ k < 16 * p + ((S.mon p).ws.length - 1) then φ.1 (r + 83) (k + 1) else φ.1 (r + 83) k := fun k => by rw [g3]; simp [uI_1, uI_2, uI_3, uL_1, uL_2, uL_3, vz_at]
  have g4' : ∀ k, φ'.1 (r + 84) k = if 16 * p + j ≤ k ∧ k < 16 * p + ((S.mon p).ws.length - 1) then φ.1 (r + 84) (k + 1) else φ.1 (r + 84) k := fun k => by rw [g4]; simp [uI_1, uI_2, uI_3, uL_1, uL_2, uL_3, vz_at]
  have g5' : ∀ k, φ'.1 (r + 85) k = if 16 * (16 * p + j) ≤ k ∧ k < 16 * (16 * p + ((S.mon p).ws.length - 1)) then φ.1 (r + 85) (k + 16) else φ.1 (r + 85) k := fun k => by rw [g5]; simp [uI_1, uI_2, uI_3, uL_1, uL_2, uL_3, vz_at]
  rw [hA]
  refine VMo.set h.mo ?_ (fun q hq hne => ?_)
  · have hlen : ((S.mon p).ws.eraseIdx j).length = (S.mon p).ws.length - 1 := List.length_eraseIdx_of_lt hj
    refine ⟨by show ((S.mon p).ws.eraseIdx j).length ≤ 16; omega, hm.lr, hm.hel, hm.tks, hm.rul, hm.rl, hm.cha, hm.tic, ?_, hm.nr, fun k x hx => ?_, fun k x hx i hi => ?_, hm.rs, hm.leg⟩
    · show va_up _ p _ p = nI ((S.mon p).ws.eraseIdx j).length
      rw [vz_same, hlen]
    · have hk := llt hx
      have hk' : k < (S.mon p).ws.length - 1 := by rw [← hlen]; exact hk
      have hx' : ((S.mon p).ws.eraseIdx j)[k]? = some x := hx
      rw [eI_get] at hx'
      show φ'.1 (r + 81) (16 * p + k) = bI x.has ∧ (x.has = true → φ'.2.1 (r + 82) (16 * p + k) = x.con ∧ kiN x.con ≠ 3) ∧ φ'.1 (r + 83) (16 * p + k) = nI x.n ∧ φ'.1 (r + 84) (16 * p + k) = bI x.last ∧ x.n ≤ 16
      rw [g1', g2', g3', g4']
      by_cases hkj : k < j
      · rw [if_pos hkj] at hx'
        rw [if_neg (by omega), if_neg (by omega), if_neg (by omega), if_neg (by omega)]
        exact hm.ws k x hx'
      · rw [if_neg hkj] at hx'
        rw [if_pos (by omega), if_pos (by omega), if_pos (by omega), if_pos (by omega)]
        exact hm.ws (k + 1) x hx'
    · have hk := llt hx
      have hk' : k < (S.mon p).ws.length - 1 := by rw [← hlen]; exact hk
      have hx' : ((S.mon p).ws.eraseIdx j)[k]? = some x := hx
      rw [eI_get] at hx'
      show φ'.1 (r + 85) (16 * (16 * p + k) + i) = x.rst i
      rw [g5']
      by_cases hkj : k < j
      · rw [if_pos hkj] at hx'
        have hn := (hm.ws k x hx').2.2.2.2
        rw [if_neg (by omega)]
        exact hm.st k x hx' i hi
      · rw [if_neg hkj] at hx'
        have hn := (hm.ws (k + 1) x hx').2.2.2.2
        rw [if_pos (by omega)]
        have := hm.st (k + 1) x hx' i hi
        rw [← this]
        show φ.1 (r + 85) _ = φ.1 (r + 85) _
        exact congrArg _ (by omega)
  · refine VM1.fr (h.mo q hq) (fun c _ => ⟨rfl, rfl, rfl⟩) ?_ (fun k hk => ⟨?_, ?_, ?_, ?_, rfl, rfl⟩) (fun k i hk hi => ?_)
    · refine ⟨?_, ?_, ?_, ?_, ?_, ?_⟩ <;> first | rfl | exact vz_ne _ hne
    · show φ'.1 (r + 81) (16 * q + k) = φ.1 (r + 81) (16 * q + k)
      rw [g1', if_neg (by omega)]
    · show φ'.2.1 (r + 82) (16 * q + k) = φ.2.1 (r + 82) (16 * q + k)
      rw [g2', if_neg (by omega)]
    · show φ'.1 (r + 83) (16 * q + k) = φ.1 (r + 83) (16 * q + k)
      rw [g3', if_neg (by omega)]
    · show φ'.1 (r + 84) (16 * q + k) = φ.1 (r + 84) (16 * q + k)
      rw [g4', if_neg (by omega)]
    · show φ'.1 (r + 85) (16 * (16 * q + k) + i) = φ.1 (r + 85) (16 * (16 * q + k) + i)
      rw [g5', if_neg (by omega)]
theorem r_goB {Γ : gm_T} {φ : ph_T} {r : Nat} {S : XS} (h : RV Γ φ r S) {p : Nat} (hp : p < 10) (x : Int32) :
    ∃ φ', f_Ref_goB Γ φ r (nI p) (nI (rId x)) = some ((), φ') ∧ RV Γ φ' r (S.setM p ((S.mon p).goB x)) ∧ RFr r [79, 81, 82, 83, 84, 85] φ φ' := by
  have hm := h.mo p hp
  have hlw := hm.lw
  have hmw := r_monW h hp (rId_lt x)
  unfold f_Ref_goB f_Ref_goB_L18 MO.goB
  simp only [h.rl.o, if_true, hmw, Option.bind_some, ↓zm1]
  rw [List.eraseP_eq_eraseIdx]
  cases hf : (S.mon p).ws.findIdx? (isMwA (rId x)) with
  | none =>
    simp only [Option.map_none, oI, if_true]
    exact ⟨φ, rfl, by have := setM_self S p; rw [show (((S.mon p).w_ws ((S.mon p).ws)) : MO) = S.mon p from rfl, this]; exact h, RFr.refl _ _ _⟩
  | some k =>
    obtain ⟨e, he, _, _⟩ := fi_some hf
    have hk := llt he
    obtain ⟨φ', b1, b2, b3⟩ := r_dropWrite h hp hk
    simp (disch := first | assumption | omega) only [Option.map_some, oI, zI_ne_m, if_false, b1, Option.bind_some]
    exact ⟨φ', rfl, b2, b3⟩
