/-! masks of lanes; the reference shows data -/
theorem e_maskOf_L (Γ : gm_T) (φ : ph_T) {ln : Nat} (hl : ln < 2 ^ 31) : ∀ d i a fu, i + d = 8 → d < fu → f_Ref_maskOf_L4 Γ fu φ (nI ln) a (nI i) = some (mskF ln d i a, φ) := by
  intro d
  induction d with
  | zero =>
    intro i a fu hd hf
    match fu, hf with
    | fu + 1, _ =>
      unfold f_Ref_maskOf_L4 mskF
      simp (disch := first | assumption | omega) only [↓zm1, zI_ne_m, zI_m_ne, zI_lit, zI_le, zI_eq, zI_mul, zI_lt, zI_modn, zI_div, zI_sub, zI_add, zN_mod]
      rw [if_pos (by omega)]
  | succ d ih =>
    intro i a fu hd hf
    match fu, hf with
    | fu + 1, hf =>
      have h31 : i &&& 31 = i := (Nat.and_two_pow_sub_one_eq_mod i 5).trans (Nat.mod_eq_of_lt (by omega))
      have hle : ln >>> i &&& 1 ≤ 1 := Nat.and_le_right
      unfold f_Ref_maskOf_L4 f_Ref_maskOf_L32
      simp only [zI_lit, zI_mul, zI_and, h31, sh_l (show 8 * i < 64 by omega)]
      simp (disch := first | assumption | omega) only [↓zm1, zI_ne_m, zI_m_ne, zI_lit, zI_le, zI_eq, zI_mul, zI_lt, zI_modn, zI_div, zI_sub, zI_add, zN_mod, zI_and, zI_shr]
      rw [if_neg (by omega)]
      unfold mskF
      rw [tb_dec]
      by_cases hc : ln >>> i &&& 1 = 1
      · rw [if_pos hc, ih (i + 1) _ fu (by omega) (by omega)]
        simp only [hc, decide_true, if_true]
      · rw [if_neg hc, ih (i + 1) _ fu (by omega) (by omega)]
        simp only [hc, decide_false, Bool.false_eq_true, if_false]
        rw [Int64.or_zero]
theorem e_maskOf (Γ : gm_T) (φ : ph_T) {ln : Nat} (hl : ln < 2 ^ 31) : f_Ref_maskOf Γ φ (nI ln) = some (mskL ln, φ) := by
  unfold f_Ref_maskOf mskL
  rw [zI_0, e_maskOf_L Γ φ hl 8 0 0 jF (by omega) (by unfold jF; omega)]
theorem e_laneBits_L (Γ : gm_T) (φ : ph_T) {ln : Nat} (hl : ln < 2 ^ 31) : ∀ d i a fu, i + d = 8 → d < fu → f_Bus_laneBits_L4 Γ fu φ (nI ln) a (nI i) = some (mskF ln d i a, φ) := by
  intro d
  induction d with
  | zero =>
    intro i a fu hd hf
    match fu, hf with
    | fu + 1, _ =>
      unfold f_Bus_laneBits_L4 mskF
      simp (disch := first | assumption | omega) only [↓zm1, zI_ne_m, zI_m_ne, zI_lit, zI_le, zI_eq, zI_mul, zI_lt, zI_modn, zI_div, zI_sub, zI_add, zN_mod]
      rw [if_pos (by omega)]
  | succ d ih =>
    intro i a fu hd hf
    match fu, hf with
    | fu + 1, hf =>
      have h31 : i &&& 31 = i := (Nat.and_two_pow_sub_one_eq_mod i 5).trans (Nat.mod_eq_of_lt (by omega))
      have hle : ln >>> i &&& 1 ≤ 1 := Nat.and_le_right
      unfold f_Bus_laneBits_L4 f_Bus_laneBits_L30
      simp only [zI_lit, zI_mul, zI_and, h31, sh_l (show 8 * i < 64 by omega)]
      simp (disch := first | assumption | omega) only [↓zm1, zI_ne_m, zI_m_ne, zI_lit, zI_le, zI_eq, zI_mul, zI_lt, zI_modn, zI_div, zI_sub, zI_add, zN_mod, zI_and, zI_shr]
      rw [if_neg (by omega)]
      unfold mskF
      rw [tb_dec]
      by_cases hc : ln >>> i &&& 1 = 1
      · rw [if_pos hc, ih (i + 1) _ fu (by omega) (by omega)]
        simp only [hc, decide_true, if_true]
      · rw [if_neg hc, ih (i + 1) _ fu (by omega) (by omega)]
        simp only [hc, decide_false, Bool.false_eq_true, if_false]
theorem e_laneBits (Γ : gm_T) (φ : ph_T) {ln : Nat} (hl : ln < 2 ^ 31) : f_Bus_laneBits Γ φ (nI ln) = some (mskL ln, φ) := by
  unfold f_Bus_laneBits mskL
  rw [zI_0, e_laneBits_L Γ φ hl 8 0 0 jF (by omega) (by unfold jF; omega)]
/-- strobes: bit by bit -/
def spF (x : Nat) : Nat → Nat → Nat → Nat
  | 0, _, a => a
  | d + 1, i, a => spF x d (i + 1) (if Nat.testBit x i = true then a &&& 255 else a &&& (255 - 2 ^ i))
theorem spF_bit (x : Nat) : ∀ d i a, i + d = 8 → a < 256 → ∀ j, Nat.testBit (spF x d i a) j = (Nat.testBit a j && (decide (j < i) || Nat.testBit x j)) := by
  intro d
  induction d with
  | zero =>
    intro i a hi ha j
    unfold spF
    by_cases hj : j < i
    · simp [hj]
    · have : Nat.testBit a j = false := Nat.testBit_lt_two_pow (Nat.lt_of_lt_of_le ha (by rw [show 256 = 2 ^ 8 from rfl]; exact Nat.pow_le_pow_right (by omega) (by omega)))
      simp [this]
  | succ d ih =>
    intro i a hi ha j
    unfold spF
    have h8 : ∀ i : Fin 8, ∀ j : Fin 8, Nat.testBit (255 - 2 ^ i.1) j.1 = decide (j.1 ≠ i.1) := by decide
    split
    · rename_i hx
      rw [ih (i + 1) _ (by omega) (Nat.lt_of_le_of_lt Nat.and_le_left ha)]
      by_cases hj8 : j < 8
      · have : Nat.testBit 255 j = true := by
          have h9 : ∀ j : Fin 8, Nat.testBit 255 j.1 = true := by decide
          exact h9 ⟨j, hj8⟩
        rw [Nat.testBit_and, this]
        by_cases hji : j = i
        · subst hji; simp [hx]
        · have : (decide (j < i + 1)) = decide (j < i) := by simp; omega
          simp [this]
      · have : Nat.testBit a j = false := Nat.testBit_lt_two_pow (Nat.lt_of_lt_of_le ha (by rw [show 256 = 2 ^ 8 from rfl]; exact Nat.pow_le_pow_right (by omega) (by omega)))
        simp [this]
    · rename_i hx
      rw [ih (i + 1) _ (by omega) (Nat.lt_of_le_of_lt Nat.and_le_left ha)]
      by_cases hj8 : j < 8
      · rw [Nat.testBit_and, h8 ⟨i, by omega⟩ ⟨j, hj8⟩]
        by_cases hji : j = i
        · subst hji; simp [hx]
        · have : (decide (j < i + 1)) = decide (j < i) := by simp; omega
          simp [this, hji]
      · have : Nat.testBit a j = false := Nat.testBit_lt_two_pow (Nat.lt_of_lt_of_le ha (by rw [show 256 = 2 ^ 8 from rfl]; exact Nat.pow_le_pow_right (by omega) (by omega)))
        simp [this]
theorem spF_and (x : Nat) {a : Nat} (ha : a < 256) : spF x 8 0 a = a &&& x := by
  apply Nat.eq_of_testBit_eq
  intro j
  rw [spF_bit x 8 0 a rfl ha, Nat.testBit_and]
  simp
theorem spF_lt (x : Nat) : ∀ d i a, a < 256 → spF x d i a < 256 := by
  intro d
  induction d with
  | zero => intro i a ha; exact ha
  | succ d ih =>
    intro i a ha
    unfold spF
    split
    · exact ih _ _ (Nat.lt_of_le_of_lt Nat.and_le_left ha)
    · exact ih _ _ (Nat.lt_of_le_of_lt Nat.and_le_left ha)
theorem nt_bit : ∀ i : Fin 8, ((1 : Int32) <<< (nI i.1 &&& 31)) ^^^ (-1 : Int32) = nI (4294967295 - 2 ^ i.1) := by decide +kernel
theorem and_big : ∀ i : Fin 8, ∀ a, a < 256 → a &&& (4294967295 - 2 ^ i.1) = a &&& (255 - 2 ^ i.1) := by
  intro i a ha
  apply Nat.eq_of_testBit_eq
  intro j
  rw [Nat.testBit_and, Nat.testBit_and]
  by_cases hj : j < 8
  · have h8 : ∀ i : Fin 8, ∀ j : Fin 8, Nat.testBit (255 - 2 ^ i.1) j.1 = Nat.testBit (4294967295 - 2 ^ i.1) j.1 := by decide +kernel
    rw [h8 i ⟨j, hj⟩]
  · have : Nat.testBit a j = false := Nat.testBit_lt_two_pow (Nat.lt_of_lt_of_le ha (by rw [show 256 = 2 ^ 8 from rfl]; exact Nat.pow_le_pow_right (by omega) (by omega)))
    simp [this]
theorem or_256 {a : Nat} (ha : a < 256) (b : Bool) : a ||| (if b = true then 256 else 0) = a + (if b = true then 256 else 0) := by
  cases b
  · simp
  · have h : ∀ a : Fin 256, a.1 ||| 256 = a.1 + 256 := by decide +kernel
    simp only [if_true]
    exact h ⟨a, ha⟩
theorem bit_long (x : Int64) {i : Nat} (hi : i < 8) : (lg_cmp ((x >>> (Int32.toInt64 (nI (56 + i)) &&& 63)) &&& (1 : Int64)) (1 : Int64) = 0) = (Nat.testBit (uN x / 2 ^ 56) i = true) := by
  rw [sh_l (by omega)]
  have h := zL_and x (k := 56 + i) (j := 1) (by omega) (by omega)
  rw [show nL (2 ^ 1 - 1) = (1 : Int64) from rfl] at h
  rw [h, Nat.testBit_div_two_pow, Nat.testBit_eq_decide_div_mod_eq, Nat.add_comm i 56]
  have h2 : uN x / 2 ^ (56 + i) % 2 ^ 1 < 2 := Nat.mod_lt _ (by omega)
  simp only [Nat.pow_one] at h2 ⊢
  generalize uN x / 2 ^ (56 + i) % 2 = y at h2
  match y, h2 with
  | 0, _ => decide
  | 1, _ => decide
