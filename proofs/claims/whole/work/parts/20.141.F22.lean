/-! ALL IS CLEARED: the class, its pieces -/
theorem e_fill1_L {Γ : gm_T} {a N : Nat} {v : Int32} (g : gA Γ a 0 = some N) (hN : N < 2 ^ 31) : ∀ (d i fu : Nat) (φ : ph_T), i + d = N → d < fu →
    ∃ φ', f_Arrays_fill1_L5 Γ fu φ (some a) v (nI i) (nI N) = some ((), φ') ∧ Fr a (a + 1) φ φ' ∧ φ'.2 = φ.2 ∧ ∀ j, φ'.1 a j = if i ≤ j ∧ j < N then v else φ.1 a j := by
  intro d
  induction d with
  | zero =>
    intro i fu φ hd hfu
    match fu, hfu with
    | fu + 1, _ =>
      refine ⟨φ, ?_, Fr.refl _ _ _, rfl, fun j => ?_⟩
      · rw [f_Arrays_fill1_L5, if_pos (by rw [zI_le (by omega) (by omega)]; omega)]
      · rw [if_neg (by omega)]
  | succ d ih =>
    intro i fu φ hd hfu
    match fu, hfu with
    | fu + 1, hfu =>
      obtain ⟨φ', b1, b2, b3, b4⟩ := ih (i + 1) fu (uI φ a i v) (by omega) (by omega)
      refine ⟨φ', ?_, (fr_uI (Fr.refl _ _ _) (by omega) _ _).trans b2, b3, fun j => ?_⟩
      · rw [f_Arrays_fill1_L5, if_neg (by rw [zI_le (by omega) (by omega)]; omega), Option.bind_some, g, Option.bind_some, zix (by omega), Option.bind_some, show nI i + (1 : Int32) = nI (i + 1) from by rw [zI_1, zI_add]]
        exact b1
      · rw [b4 j, uI_s, vz_at]
        by_cases e : j = i
        · rw [if_neg (by omega), if_pos e, if_pos (by omega)]
        · by_cases g2 : i + 1 ≤ j ∧ j < N
          · rw [if_pos g2, if_pos (by omega)]
          · rw [if_neg g2, if_neg e, if_neg (by omega)]
theorem e_fill1 {Γ : gm_T} {a N : Nat} (g : gA Γ a 0 = some N) (hN : N < 100000) (φ : ph_T) (v : Int32) : ∃ φ', f_Arrays_fill1 Γ φ (some a) v = some ((), φ') ∧ Fr a (a + 1) φ φ' ∧ φ'.2 = φ.2 ∧ ∀ j, j < N → φ'.1 a j = v := by
  obtain ⟨φ', b1, b2, b3, b4⟩ := e_fill1_L (v := v) g (by omega) N 0 jF φ (by omega) (by unfold jF; omega)
  refine ⟨φ', ?_, b2, b3, fun j hj => ?_⟩
  · unfold f_Arrays_fill1
    rw [Option.bind_some, g, Option.bind_some]
    exact b1
  · rw [b4 j, if_pos ⟨Nat.zero_le _, hj⟩]
theorem e_fill2_L {Γ : gm_T} {a N : Nat} {v : Int64} (g : gA Γ a 1 = some N) (hN : N < 2 ^ 31) : ∀ (d i fu : Nat) (φ : ph_T), i + d = N → d < fu →
    ∃ φ', f_Arrays_fill2_L6 Γ fu φ (some a) v (nI i) (nI N) = some ((), φ') ∧ Fr a (a + 1) φ φ' ∧ φ'.1 = φ.1 ∧ φ'.2.2 = φ.2.2 ∧ ∀ j, φ'.2.1 a j = if i ≤ j ∧ j < N then v else φ.2.1 a j := by
  intro d
  induction d with
  | zero =>
    intro i fu φ hd hfu
    match fu, hfu with
    | fu + 1, _ =>
      refine ⟨φ, ?_, Fr.refl _ _ _, rfl, rfl, fun j => ?_⟩
      · rw [f_Arrays_fill2_L6, if_pos (by rw [zI_le (by omega) (by omega)]; omega)]
      · rw [if_neg (by omega)]
  | succ d ih =>
    intro i fu φ hd hfu
    match fu, hfu with
    | fu + 1, hfu =>
      obtain ⟨φ', b1, b2, b3, b5, b4⟩ := ih (i + 1) fu (uL φ a i v) (by omega) (by omega)
      refine ⟨φ', ?_, (fr_uL (Fr.refl _ _ _) (by omega) _ _).trans b2, b3, b5, fun j => ?_⟩
      · rw [f_Arrays_fill2_L6, if_neg (by rw [zI_le (by omega) (by omega)]; omega), Option.bind_some, g, Option.bind_some, zix (by omega), Option.bind_some, show nI i + (1 : Int32) = nI (i + 1) from by rw [zI_1, zI_add]]
        exact b1
      · rw [b4 j, uL_2, if_pos rfl, vz_at]
        by_cases e : j = i
        · rw [if_neg (by omega), if_pos e, if_pos (by omega)]
        · by_cases g2 : i + 1 ≤ j ∧ j < N
          · rw [if_pos g2, if_pos (by omega)]
          · rw [if_neg g2, if_neg e, if_neg (by omega)]
theorem e_fill2 {Γ : gm_T} {a N : Nat} (g : gA Γ a 1 = some N) (hN : N < 100000) (φ : ph_T) (v : Int64) : ∃ φ', f_Arrays_fill2 Γ φ (some a) v = some ((), φ') ∧ Fr a (a + 1) φ φ' ∧ φ'.1 = φ.1 ∧ φ'.2.2 = φ.2.2 ∧ ∀ j, j < N → φ'.2.1 a j = v := by
  obtain ⟨φ', b1, b2, b3, b5, b4⟩ := e_fill2_L (v := v) g (by omega) N 0 jF φ (by omega) (by unfold jF; omega)
  refine ⟨φ', ?_, b2, b3, b5, fun j hj => ?_⟩
  · unfold f_Arrays_fill2
    rw [Option.bind_some, g, Option.bind_some]
    exact b1
  · rw [b4 j, if_pos ⟨Nat.zero_le _, hj⟩]
theorem c_memreset {Γ : gm_T} {φ : ph_T} {a : Nat} {mem : Nat → Nat} {spo : Nat → Bool} (h : CMem Γ φ a mem spo) :
    ∃ φ', f_Memory_reset Γ φ a = some ((), φ') ∧ CMem Γ φ' a (fun _ => 0) (fun _ => false) ∧ Fr a (a + 3) φ φ' := by
  obtain ⟨φ1, a1, a2, a3, a4, a5⟩ := e_fill2 h.g0 (by omega) φ (0 : Int64)
  obtain ⟨φ2, b1, b2, b3, b4, b5⟩ := e_fill2 h.g1 (by omega) φ1 (0 : Int64)
  refine ⟨φ2, ?_, ⟨h.o, ?_, ?_, h.g0, h.g1, fun y hy => ?_, fun y hy => ?_⟩, (a2.mono (by omega) (by omega)).trans (b2.mono (by omega) (by omega))⟩
  · unfold f_Memory_reset
    rw [if_pos h.o, h.f0, a1, Option.bind_some]
    show (Option.bind (f_Arrays_fill2 Γ φ1 (φ1.2.2 a 1) (0 : Int64)) fun q3 => some ((), q3.2)) = _
    rw [a4, h.f1, b1]
    rfl
  · rw [b4, a4]; exact h.f0
  · rw [b4, a4]; exact h.f1
  · rw [b2.l (by omega), a5 _ (by omega)]
    unfold byN
    rw [show uN (0 : Int64) = 0 by decide, Nat.zero_div]
  · rw [b5 _ (by omega), show uN (0 : Int64) = 0 by decide, Nat.zero_testBit]
theorem c_maset {Γ : gm_T} {φ : ph_T} {a b m : Nat} {l : List TK} {pt : Nat → Nat} {ea : Bool} (h : CMa Γ φ a b l m pt ea) :
    ∃ φ', f_Master_resetSettings Γ φ a = some ((), φ') ∧ CMa Γ φ' a b l m (fun _ => 65535) false ∧ Fr a (a + 2) φ φ' := by
  obtain ⟨φ1, a1, a2, a3, a5⟩ := e_fill1 h.g0 (by omega) φ (65535 : Int32)
  have f : Fr a (a + 2) φ (uI φ1 a 1 (0 : Int32)) := fr_uI (a2.mono (by omega) (by omega)) (by omega) _ _
  have e1 : φ1.1 a = φ.1 a := a2.i (by omega)
  refine ⟨uI φ1 a 1 (0 : Int32), ?_, ⟨h.o, ?_, ?_, ?_, h.g0, h.g2, h.g3, fun c hc => ?_, ?_, ?_, ?_, ?_, ?_, ?_, ?_, ?_, ?_⟩, f⟩
  · unfold f_Master_resetSettings
    rw [if_pos h.o, h.f0, a1, Option.bind_some, if_pos (by decide)]
  · rw [uI_3, a3]; exact h.f0
  · rw [uI_3, a3]; exact h.f2
  · rw [uI_3, a3]; exact h.f3
  · rw [uI_1, if_neg (by omega), a5 c hc]; rfl
  · rw [uI_s, vz_same]; rfl
  · rw [uI_3, a3]; exact h.wl
  · rw [uI_3, a3]; exact h.rl
  · rw [uI_s, vz_ne _ (by decide), e1]; exact h.cw
  · rw [uI_s, vz_ne _ (by decide), e1]; exact h.cr
  · rw [uI_s, vz_ne _ (by decide), e1]; exact h.sw
  · rw [uI_s, vz_ne _ (by decide), e1]; exact h.sr
  · rw [uI_s, vz_ne _ (by decide), e1]; exact h.fd
  · rw [uI_s, vz_ne _ (by decide), e1]; exact h.op
theorem CL.clr {α : Type} {Γ : gm_T} {φ φ' : ph_T} {a room : Nat} {E : ph_T → Nat → α → Prop} {l : List Nat} {L : List α} (h : CL Γ φ a room E l L) (e1 : φ'.1 a 1 = nI 0) (e2 : φ'.2.2 = φ.2.2) : CL Γ φ' a room E l [] :=
  ⟨⟨h.c.o, by rw [e2]; exact h.c.f, h.c.g, h.c.rm, e1, Nat.zero_le _, h.c.ll, h.c.nd, h.c.hl, by rw [e2]; exact h.c.at_, fun x hx => (h.c.lay x hx).up (by rw [e2])⟩, (fun k e x hk => by cases hk), h.loc⟩
theorem c_slreset {Γ : gm_T} {φ : ph_T} {a am s : Nat} {S T : XS} (h : CSl Γ φ a am S s) (t1 : T.sw s = []) (t2 : T.sr s = []) (t3 : ∀ c, c < 5 → T.spat s c = 65535) (t4 : ∀ j, T.rgt s j = none) (t5 : T.delay s = 0) (t6 : T.way s = 0) (t7 : T.chb s = none) (t8 : T.chr s = none) (t9 : T.lat s = none) :
    ∃ φ', f_Slave_reset Γ φ a = some ((), φ') ∧ CSl Γ φ' a am T s ∧ Fr a (a + 32) φ φ' := by
  obtain ⟨l1, hl1⟩ := h.sw
  obtain ⟨l2, hl2⟩ := h.sr
  obtain ⟨φ1, a1, a2, a3, a5⟩ := e_fill1 h.g1 (by omega) φ (65535 : Int32)
  obtain ⟨φ2, b1, b2, b3, b5⟩ := e_fill1 h.g4 (by omega) φ1 (-1 : Int32)
  have e22 : φ2.2.2 = φ.2.2 := by rw [b3, a3]
  have f : Fr a (a + 32) φ (uI (uI (uI (uI (uI (uI (uI φ2 (a + 2) 1 (0 : Int32)) (a + 16) 1 (0 : Int32)) a 6 (0 : Int32)) a 7 (0 : Int32)) a 8 (-1 : Int32)) a 9 (-1 : Int32)) a 10 (-1 : Int32)) := fr_uI (fr_uI (fr_uI (fr_uI (fr_uI (fr_uI (fr_uI ((a2.mono (by omega) (by omega)).trans (b2.mono (by omega) (by omega))) (by omega) _ _) (by omega) _ _) (by omega) _ _) (by omega) _ _) (by omega) _ _) (by omega) _ _) (by omega) _ _
  refine ⟨_, ?_, ⟨h.o, ?_, ?_, ?_, ?_, ?_, ?_, h.g1, h.g4, h.g5, ⟨l1, ?_⟩, ⟨l2, ?_⟩, fun c hc => ?_, fun j hj => ⟨?_, ?_⟩, ?_, ?_, ?_, ?_, ?_⟩, f⟩
  · unfold f_Slave_reset
    rw [if_pos h.o, h.f1, a1, Option.bind_some]
    show (Option.bind (f_Arrays_fill1 Γ φ1 (φ1.2.2 a 4) (-1 : Int32)) _) = _
    rw [a3, h.f4, b1, Option.bind_some]
    show (Option.bind (φ2.2.2 a 2) _) = _
    rw [e22, h.f2, Option.bind_some, if_pos hl1.c.o]
    rw [h.f3, Option.bind_some, if_pos hl2.c.o]
  · rw [uI_3, uI_3, uI_3, uI_3, uI_3, uI_3, uI_3, e22]; exact h.f0
  · rw [uI_3, uI_3, uI_3, uI_3, uI_3, uI_3, uI_3, e22]; exact h.f1
  · rw [uI_3, uI_3, uI_3, uI_3, uI_3, uI_3, uI_3, e22]; exact h.f2
  · rw [uI_3, uI_3, uI_3, uI_3, uI_3, uI_3, uI_3, e22]; exact h.f3
  · rw [uI_3, uI_3, uI_3, uI_3, uI_3, uI_3, uI_3, e22]; exact h.f4
  · rw [uI_3, uI_3, uI_3, uI_3, uI_3, uI_3, uI_3, e22]; exact h.f5
  · rw [t1]
    refine hl1.clr ?_ ?_
    · rw [uI_1, if_neg (by omega), uI_1, if_neg (by omega), uI_1, if_neg (by omega), uI_1, if_neg (by omega), uI_1, if_neg (by omega), uI_1, if_neg (by omega), uI_s, vz_same]; rfl
    · rw [uI_3, uI_3, uI_3, uI_3, uI_3, uI_3, uI_3, e22]
  · rw [t2]
    refine hl2.clr ?_ ?_
    · rw [uI_1, if_neg (by omega), uI_1, if_neg (by omega), uI_1, if_neg (by omega), uI_1, if_neg (by omega), uI_1, if_neg (by omega), uI_s, vz_same]; rfl
    · rw [uI_3, uI_3, uI_3, uI_3, uI_3, uI_3, uI_3, e22]
  · rw [uI_1, if_neg (by omega), uI_1, if_neg (by omega), uI_1, if_neg (by omega), uI_1, if_neg (by omega), uI_1, if_neg (by omega), uI_1, if_neg (by omega), uI_1, if_neg (by omega), b2.i (by omega), a5 c hc, t3 c hc]; rfl
  · rw [uI_1, if_neg (by omega), uI_1, if_neg (by omega), uI_1, if_neg (by omega), uI_1, if_neg (by omega), uI_1, if_neg (by omega), uI_1, if_neg (by omega), uI_1, if_neg (by omega), b5 j hj, t4 j]; rfl
  · intro q hq; rw [t4 j] at hq; cases hq
  · rw [uI_s, uI_s, uI_s, uI_s, uI_s, vz_ne _ (by decide), vz_ne _ (by decide), vz_ne _ (by decide), vz_ne _ (by decide), vz_same, t5]; rfl
  · rw [uI_s, uI_s, uI_s, uI_s, uI_s, vz_ne _ (by decide), vz_ne _ (by decide), vz_ne _ (by decide), vz_same, t6]; rfl
  · intro i hi; rw [t7] at hi; cases hi
  · intro i hi; rw [t8] at hi; cases hi
  · rw [uI_s, uI_s, uI_s, uI_s, uI_s, vz_same, t9]; rfl
