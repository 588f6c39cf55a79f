/-! NUMBERS: ints as naturals (nI), longs by their bits. -/
theorem zI_bv (n : Nat) : (nI n).toBitVec = BitVec.ofNat 32 n := rfl
theorem zI_inj {a b : Int32} (h : a.toBitVec = b.toBitVec) : a = b := Int32.toBitVec_inj.mp h
theorem zI_toInt {n : Nat} (h : n < 2 ^ 31) : (nI n).toInt = (n : Int) := by
  unfold nI
  exact Int32.toInt_ofNat_of_lt h
theorem zI_add (a b : Nat) : nI a + nI b = nI (a + b) := (Int32.ofNat_add a b).symm
theorem zI_mul (a b : Nat) : nI a * nI b = nI (a * b) := (Int32.ofNat_mul a b).symm
theorem zI_sub {a b : Nat} (h : b ≤ a) : nI a - nI b = nI (a - b) := by
  have e : nI a = nI (a - b) + nI b := by rw [zI_add]; congr 1; omega
  rw [e, Int32.add_sub_cancel]
theorem zI_le {a b : Nat} (ha : a < 2 ^ 31) (hb : b < 2 ^ 31) : nI a ≤ nI b ↔ a ≤ b := by
  rw [Int32.le_iff_toInt_le, zI_toInt ha, zI_toInt hb]; omega
theorem zI_lt {a b : Nat} (ha : a < 2 ^ 31) (hb : b < 2 ^ 31) : nI a < nI b ↔ a < b := by
  rw [Int32.lt_iff_toInt_lt, zI_toInt ha, zI_toInt hb]; omega
theorem zI_eq {a b : Nat} (ha : a < 2 ^ 31) (hb : b < 2 ^ 31) : nI a = nI b ↔ a = b := by
  rw [← Int32.toInt_inj, zI_toInt ha, zI_toInt hb]; omega
theorem zI_0 : (0 : Int32) = nI 0 := rfl
theorem zI_1 : (1 : Int32) = nI 1 := rfl
theorem zI_lit (n : Nat) : (OfNat.ofNat n : Int32) = nI n := rfl
def m1 : Int32 := -1
theorem zm1 : (-1 : Int32) = m1 := rfl
theorem zI_m1_toInt : (-1 : Int32).toInt = -1 := by decide
theorem zI_ne_m1 {a : Nat} (ha : a < 2 ^ 31) : nI a ≠ -1 := by
  intro h
  have := congrArg Int32.toInt h
  rw [zI_toInt ha, zI_m1_toInt] at this
  omega
theorem zI_m1_lt {a : Nat} (ha : a < 2 ^ 31) : (-1 : Int32) < nI a := by
  rw [Int32.lt_iff_toInt_lt, zI_toInt ha, zI_m1_toInt]; omega
theorem zI_m1_lt0 : (-1 : Int32) < 0 := by decide
theorem zI_m1_p1 : (-1 : Int32) + 1 = 0 := by decide
theorem zI_ne_m {a : Nat} (ha : a < 2 ^ 31) : (nI a = m1) = False := eq_false (zI_ne_m1 ha)
theorem zI_m_ne {a : Nat} (ha : a < 2 ^ 31) : (m1 = nI a) = False := eq_false (fun h => zI_ne_m1 ha h.symm)
theorem zI_m_lt {a : Nat} (ha : a < 2 ^ 31) : (m1 < nI a) = True := eq_true (zI_m1_lt ha)
theorem zI_lt_m {a : Nat} (ha : a < 2 ^ 31) : (nI a < m1) = False := eq_false (by rw [Int32.lt_iff_toInt_lt, zI_toInt ha, show m1.toInt = -1 from by decide]; omega)
theorem zI_m_p1 : m1 + nI 1 = nI 0 := by decide
theorem zI_clamp {n : Nat} (h : n < 2 ^ 31) : (nI n).toNatClampNeg = n := by
  unfold Int32.toNatClampNeg
  rw [zI_toInt h]; simp
theorem zI_nneg {n : Nat} (h : n < 2 ^ 31) : ¬ nI n < 0 := by
  rw [zI_0, zI_lt h (by omega)]; omega
theorem zix {n N : Nat} (h : n < N) (hN : N < 2 ^ 31 := by omega) : ix (nI n) N = some n := by
  unfold ix
  rw [if_neg]
  · rw [zI_clamp (by omega)]
  · rw [zI_clamp (by omega)]
    intro hc
    rcases hc with hc | hc
    · exact zI_nneg (by omega) hc
    · omega
theorem zI_div {a b : Nat} (ha : a < 2 ^ 31) (hb : b < 2 ^ 31) : nI a / nI b = nI (a / b) := by
  apply Int32.toInt_inj.mp
  rw [zI_toInt (by have := Nat.div_le_self a b; omega), Int32.toInt_div, zI_toInt ha, zI_toInt hb]
  rw [← Int.ofNat_tdiv, Int.bmod_eq_of_le]
  · have := Nat.div_le_self a b; generalize a / b = e at *; simp
    try omega
  · have := Nat.div_le_self a b; generalize a / b = e at *; simp
    try omega
theorem zI_mod {a b : Nat} (ha : a < 2 ^ 31) (hb : b < 2 ^ 31) : nI a - nI a / nI b * nI b = nI (a % b) := by
  rw [zI_div ha hb, zI_mul, zI_sub (Nat.div_mul_le_self a b)]
  congr 1
  have := Nat.div_add_mod' a b
  omega
theorem zI_modn (a b : Nat) : nI a - nI (a / b * b) = nI (a % b) := by
  rw [zI_sub (Nat.div_mul_le_self a b)]
  congr 1
  have := Nat.div_add_mod' a b
  omega
theorem zN_mod (a b : Nat) : a - a / b * b = a % b := by
  have := Nat.div_add_mod' a b
  omega
theorem zI_and (a b : Nat) : nI a &&& nI b = nI (a &&& b) := by
  apply zI_inj
  simp [zI_bv]
theorem zI_or (a b : Nat) : nI a ||| nI b = nI (a ||| b) := by
  apply zI_inj
  simp [zI_bv]
theorem zI_shl {a b : Nat} (hb : b < 32) : nI a <<< nI b = nI (a <<< b) := by
  apply zI_inj
  rw [Int32.toBitVec_shiftLeft]
  simp only [zI_bv]
  apply BitVec.eq_of_toNat_eq
  have h1 : ((BitVec.ofNat 32 b).smod 32) = BitVec.ofNat 32 b := by
    have hb2 : b < 32 := hb
    clear hb
    revert b
    decide +kernel
  rw [BitVec.shiftLeft_eq', h1]
  simp [Nat.shiftLeft_eq, Nat.mod_eq_of_lt (show b < 4294967296 by omega), Nat.mod_mul_mod]
theorem zI_shr {a b : Nat} (ha : a < 2 ^ 31) (hb : b < 32) : nI a >>> nI b = nI (a >>> b) := by
  apply zI_inj
  rw [Int32.toBitVec_shiftRight]
  simp only [zI_bv]
  have h1 : ((BitVec.ofNat 32 b).smod 32) = BitVec.ofNat 32 b := by
    have hb2 : b < 32 := hb
    clear hb
    revert b
    decide +kernel
  rw [BitVec.sshiftRight_eq', h1]
  apply BitVec.eq_of_toNat_eq
  have hm : (BitVec.ofNat 32 a).msb = false := by
    rw [BitVec.msb_eq_decide]; simp; omega
  rw [BitVec.toNat_sshiftRight, hm]
  simp [Nat.mod_eq_of_lt (show b < 4294967296 by omega)]
  rw [Nat.mod_eq_of_lt (show a < 4294967296 by omega), Nat.mod_eq_of_lt]
  have := Nat.shiftRight_le a b
  omega

/-- a long's bits as a natural -/
def uN (c : Int64) : Nat := c.toBitVec.toNat
def nL (n : Nat) : Int64 := Int64.ofNat n
theorem uN_lt (c : Int64) : uN c < 2 ^ 64 := c.toBitVec.isLt
theorem uN_nL {n : Nat} (h : n < 2 ^ 64) : uN (nL n) = n := by
  show (BitVec.ofNat 64 n).toNat = n
  rw [BitVec.toNat_ofNat, Nat.mod_eq_of_lt h]
theorem nL_uN (c : Int64) : nL (uN c) = c := by
  apply Int64.toBitVec_inj.mp
  show BitVec.ofNat 64 c.toBitVec.toNat = c.toBitVec
  simp
theorem uN_inj {a b : Int64} (h : uN a = uN b) : a = b := by rw [← nL_uN a, h, nL_uN]
theorem zL_shr_bv (c : Int64) {k : Nat} (hk : k < 64) : (c >>> nL k).toBitVec = c.toBitVec.sshiftRight k := by
  rw [Int64.toBitVec_shiftRight]
  have h1 : ((BitVec.ofNat 64 k).smod 64) = BitVec.ofNat 64 k := by
    have hb2 : k < 64 := hk
    clear hk
    revert k
    decide +kernel
  show c.toBitVec.sshiftRight' ((BitVec.ofNat 64 k).smod 64) = _
  rw [h1, BitVec.sshiftRight_eq']
  simp [Nat.mod_eq_of_lt (show k < 18446744073709551616 by omega)]
theorem zL_cls (c : Int64) {k j : Nat} (hk : k < 64) (h : k + j ≤ 64) (hj : j ≤ 31) : Int64.toInt32 (c >>> nL k) &&& nI (2 ^ j - 1) = nI (uN c / 2 ^ k % 2 ^ j) := by
  apply zI_inj
  rw [Int32.toBitVec_and, Int64.toBitVec_toInt32, zL_shr_bv c hk]
  simp only [zI_bv]
  apply BitVec.eq_of_getLsbD_eq
  intro i hi
  simp only [BitVec.getLsbD_and, BitVec.getLsbD_signExtend, BitVec.getLsbD_setWidth, BitVec.getLsbD_sshiftRight, BitVec.getLsbD_ofNat, Nat.testBit_mod_two_pow, Nat.testBit_div_two_pow, Nat.testBit_two_pow_sub_one, hi, decide_true, Bool.true_and]
  by_cases h2 : i < j
  · have h3 : k + i < 64 := by omega
    have h4 : ¬ (64 ≤ i) := by omega
    have h6 : i < 64 := by omega
    simp [h2, h3, h4, h6, uN, BitVec.testBit_toNat, Nat.add_comm]
  · simp [h2, show i < 64 by omega]
theorem zL_ref (c : Int64) {k j : Nat} (hk : k < 64) (h : k + j ≤ 64) (hj : j ≤ 31) : Int64.toInt32 ((c >>> nL k) &&& nL (2 ^ j - 1)) = nI (uN c / 2 ^ k % 2 ^ j) := by
  apply zI_inj
  rw [Int64.toBitVec_toInt32, Int64.toBitVec_and, zL_shr_bv c hk]
  simp only [zI_bv]
  apply BitVec.eq_of_getLsbD_eq
  intro i hi
  have h5 : (nL (2 ^ j - 1)).toBitVec = BitVec.ofNat 64 (2 ^ j - 1) := rfl
  simp only [h5, BitVec.getLsbD_and, BitVec.getLsbD_signExtend, BitVec.getLsbD_setWidth, BitVec.getLsbD_sshiftRight, BitVec.getLsbD_ofNat, Nat.testBit_mod_two_pow, Nat.testBit_div_two_pow, Nat.testBit_two_pow_sub_one, hi, decide_true, Bool.true_and]
  by_cases h2 : i < j
  · have h3 : k + i < 64 := by omega
    have h4 : ¬ (64 ≤ i) := by omega
    have h6 : i < 64 := by omega
    simp [h2, h3, h4, h6, uN, BitVec.testBit_toNat, Nat.add_comm]
  · simp [h2, show i < 64 by omega]
theorem zL_cls0 (c : Int64) {j : Nat} (hj : j ≤ 31) : Int64.toInt32 c &&& nI (2 ^ j - 1) = nI (uN c % 2 ^ j) := by
  have h := zL_cls c (k := 0) (j := j) (by omega) (by omega) hj
  have h2 : c >>> nL 0 = c := by
    apply Int64.toBitVec_inj.mp
    rw [zL_shr_bv c (by omega)]
    simp
  rw [h2] at h
  simpa using h
theorem zL_ref0 (c : Int64) {j : Nat} (hj : j ≤ 31) : Int64.toInt32 (c &&& nL (2 ^ j - 1)) = nI (uN c % 2 ^ j) := by
  have h := zL_ref c (k := 0) (j := j) (by omega) (by omega) hj
  have h2 : c >>> nL 0 = c := by
    apply Int64.toBitVec_inj.mp
    rw [zL_shr_bv c (by omega)]
    simp
  rw [h2] at h
  simpa using h
theorem zL_and (c : Int64) {k j : Nat} (hk : k < 64) (h : k + j ≤ 64) : (c >>> nL k) &&& nL (2 ^ j - 1) = nL (uN c / 2 ^ k % 2 ^ j) := by
  apply Int64.toBitVec_inj.mp
  rw [Int64.toBitVec_and, zL_shr_bv c hk]
  show _ = BitVec.ofNat 64 _
  apply BitVec.eq_of_getLsbD_eq
  intro i hi
  have h5 : (nL (2 ^ j - 1)).toBitVec = BitVec.ofNat 64 (2 ^ j - 1) := rfl
  simp only [h5, BitVec.getLsbD_and, BitVec.getLsbD_signExtend, BitVec.getLsbD_setWidth, BitVec.getLsbD_sshiftRight, BitVec.getLsbD_ofNat, Nat.testBit_mod_two_pow, Nat.testBit_div_two_pow, Nat.testBit_two_pow_sub_one, hi, decide_true, Bool.true_and]
  by_cases h2 : i < j
  · have h3 : k + i < 64 := by omega
    have h4 : ¬ (64 ≤ i) := by omega
    have h6 : i < 64 := by omega
    simp [h2, h3, h4, h6, uN, BitVec.testBit_toNat, Nat.add_comm]
  · simp [h2, show i < 64 by omega]
theorem nL_add (a b : Nat) : nL a + nL b = nL (a + b) := (Int64.ofNat_add a b).symm
theorem nL_mul (a b : Nat) : nL a * nL b = nL (a * b) := (Int64.ofNat_mul a b).symm
theorem nL_sub {a b : Nat} (h : b ≤ a) : nL a - nL b = nL (a - b) := by
  have e : nL a = nL (a - b) + nL b := by rw [nL_add]; congr 1; omega
  rw [e, Int64.add_sub_cancel]
theorem nL_shl {a b : Nat} (hb : b < 64) : nL a <<< nL b = nL (a * 2 ^ b) := by
  apply Int64.toBitVec_inj.mp
  rw [Int64.toBitVec_shiftLeft]
  show BitVec.ofNat 64 a <<< ((BitVec.ofNat 64 b).smod 64) = BitVec.ofNat 64 (a * 2 ^ b)
  apply BitVec.eq_of_toNat_eq
  have h1 : ((BitVec.ofNat 64 b).smod 64) = BitVec.ofNat 64 b := by
    have hb2 : b < 64 := hb
    clear hb
    revert b
    decide +kernel
  rw [BitVec.shiftLeft_eq', h1]
  simp [Nat.shiftLeft_eq, Nat.mod_eq_of_lt (show b < 18446744073709551616 by omega), Nat.mod_mul_mod]
theorem nI_L {n : Nat} (h : n < 2 ^ 31) : (nI n).toInt64 = nL n := by
  apply Int64.toInt_inj.mp
  rw [Int32.toInt_toInt64, zI_toInt h]
  exact (Int64.toInt_ofNat_of_lt (by omega)).symm
theorem zL_lit (n : Nat) : (OfNat.ofNat n : Int64) = nL n := rfl
/-- the parts of a burst's content -/
def idN (c : Int64) : Nat := uN c % 64
def adN (c : Int64) : Nat := uN c / 64 % 65536
def leN (c : Int64) : Nat := uN c / 4194304 % 16 + 1
def szN (c : Int64) : Nat := 2 ^ (uN c / 67108864 % 4)
def kiN (c : Int64) : Nat := uN c / 268435456 % 4
def exN (c : Int64) : Nat := uN c / 1073741824 % 2
def urN (c : Int64) : Nat := uN c / 2147483648 % 16
theorem idN_lt (c : Int64) : idN c < 64 := Nat.mod_lt _ (by omega)
theorem adN_lt (c : Int64) : adN c < 65536 := Nat.mod_lt _ (by omega)
theorem leN_pos (c : Int64) : 0 < leN c := Nat.succ_pos _
theorem leN_le (c : Int64) : leN c ≤ 16 := by have : uN c / 4194304 % 16 < 16 := Nat.mod_lt _ (by omega); unfold leN; omega
theorem kiN_lt (c : Int64) : kiN c < 4 := Nat.mod_lt _ (by omega)
theorem exN_lt (c : Int64) : exN c < 2 := Nat.mod_lt _ (by omega)
theorem urN_lt (c : Int64) : urN c < 16 := Nat.mod_lt _ (by omega)
theorem szN_cases (c : Int64) : szN c = 1 ∨ szN c = 2 ∨ szN c = 4 ∨ szN c = 8 := by
  unfold szN
  have : uN c / 67108864 % 4 < 4 := Nat.mod_lt _ (by omega)
  generalize uN c / 67108864 % 4 = x at *
  match x, this with
  | 0, _ => simp
  | 1, _ => simp
  | 2, _ => simp
  | 3, _ => simp
theorem szN_pos (c : Int64) : 0 < szN c := by have := szN_cases c; omega
theorem szN_le (c : Int64) : szN c ≤ 8 := by have := szN_cases c; omega
theorem sh_lit : ∀ k : Fin 64, (Int32.toInt64 (nI k.1) &&& 63) = nL k.1 := by decide +kernel
theorem sh_l {k : Nat} (hk : k < 64) : (Int32.toInt64 (nI k) &&& 63) = nL k := sh_lit ⟨k, hk⟩
theorem e_Burst_idOf (Γ : gm_T) (φ : ph_T) (c : Int64) : f_Burst_idOf Γ φ c = some (nI (idN c), φ) := by
  unfold f_Burst_idOf
  rw [show (63 : Int32) = nI (2 ^ 6 - 1) from rfl, zL_cls0 c (by omega)]; rfl
theorem e_Burst_addressOf (Γ : gm_T) (φ : ph_T) (c : Int64) : f_Burst_addressOf Γ φ c = some (nI (adN c), φ) := by
  unfold f_Burst_addressOf
  rw [show (Int32.toInt64 (6 : Int32) &&& 63) = nL 6 from by decide, show (65535 : Int32) = nI (2 ^ 16 - 1) from rfl, zL_cls c (by omega) (by omega) (by omega)]; rfl
theorem e_Burst_lengthOf (Γ : gm_T) (φ : ph_T) (c : Int64) : f_Burst_lengthOf Γ φ c = some (nI (leN c), φ) := by
  unfold f_Burst_lengthOf
  rw [show (Int32.toInt64 (22 : Int32) &&& 63) = nL 22 from by decide, show (15 : Int32) = nI (2 ^ 4 - 1) from rfl, zL_cls c (by omega) (by omega) (by omega), zI_1, zI_add]; rfl
theorem e_Burst_kindOf (Γ : gm_T) (φ : ph_T) (c : Int64) : f_Burst_kindOf Γ φ c = some (nI (kiN c), φ) := by
  unfold f_Burst_kindOf
  rw [show (Int32.toInt64 (28 : Int32) &&& 63) = nL 28 from by decide, show (3 : Int32) = nI (2 ^ 2 - 1) from rfl, zL_cls c (by omega) (by omega) (by omega)]; rfl
theorem e_Burst_urgencyOf (Γ : gm_T) (φ : ph_T) (c : Int64) : f_Burst_urgencyOf Γ φ c = some (nI (urN c), φ) := by
  unfold f_Burst_urgencyOf
  rw [show (Int32.toInt64 (31 : Int32) &&& 63) = nL 31 from by decide, show (15 : Int32) = nI (2 ^ 4 - 1) from rfl, zL_cls c (by omega) (by omega) (by omega)]; rfl
theorem sz_shl : ∀ x : Fin 4, (1 : Int32) <<< (nI x.1 &&& 31) = nI (2 ^ x.1) := by decide +kernel
theorem e_Burst_bytesOf (Γ : gm_T) (φ : ph_T) (c : Int64) : f_Burst_bytesOf Γ φ c = some (nI (szN c), φ) := by
  unfold f_Burst_bytesOf
  rw [show (Int32.toInt64 (26 : Int32) &&& 63) = nL 26 from by decide, show (3 : Int32) = nI (2 ^ 2 - 1) from rfl, zL_cls c (by omega) (by omega) (by omega)]
  rw [sz_shl ⟨uN c / 2 ^ 26 % 2 ^ 2, Nat.mod_lt _ (by omega)⟩]; rfl
theorem e_Ref_idOf (Γ : gm_T) (φ : ph_T) (c : Int64) : f_Ref_idOf Γ φ c = some (nI (idN c), φ) := by
  unfold f_Ref_idOf
  rw [show (63 : Int64) = nL (2 ^ 6 - 1) from rfl, zL_ref0 c (by omega)]; rfl
theorem e_Ref_addressOf (Γ : gm_T) (φ : ph_T) (c : Int64) : f_Ref_addressOf Γ φ c = some (nI (adN c), φ) := by
  unfold f_Ref_addressOf
  rw [show (Int32.toInt64 (6 : Int32) &&& 63) = nL 6 from by decide, show (65535 : Int64) = nL (2 ^ 16 - 1) from rfl, zL_ref c (by omega) (by omega) (by omega)]; rfl
theorem e_Ref_lengthOf (Γ : gm_T) (φ : ph_T) (c : Int64) : f_Ref_lengthOf Γ φ c = some (nI (leN c), φ) := by
  unfold f_Ref_lengthOf
  rw [show (Int32.toInt64 (22 : Int32) &&& 63) = nL 22 from by decide, show (15 : Int64) = nL (2 ^ 4 - 1) from rfl, zL_ref c (by omega) (by omega) (by omega), zI_1, zI_add]; rfl
theorem e_Ref_kindOf (Γ : gm_T) (φ : ph_T) (c : Int64) : f_Ref_kindOf Γ φ c = some (nI (kiN c), φ) := by
  unfold f_Ref_kindOf
  rw [show (Int32.toInt64 (28 : Int32) &&& 63) = nL 28 from by decide, show (3 : Int64) = nL (2 ^ 2 - 1) from rfl, zL_ref c (by omega) (by omega) (by omega)]; rfl
theorem e_Ref_urgencyOf (Γ : gm_T) (φ : ph_T) (c : Int64) : f_Ref_urgencyOf Γ φ c = some (nI (urN c), φ) := by
  unfold f_Ref_urgencyOf
  rw [show (Int32.toInt64 (31 : Int32) &&& 63) = nL 31 from by decide, show (15 : Int64) = nL (2 ^ 4 - 1) from rfl, zL_ref c (by omega) (by omega) (by omega)]; rfl
theorem e_Ref_sizeOf (Γ : gm_T) (φ : ph_T) (c : Int64) : f_Ref_sizeOf Γ φ c = some (nI (szN c), φ) := by
  unfold f_Ref_sizeOf
  rw [show (Int32.toInt64 (26 : Int32) &&& 63) = nL 26 from by decide, show (3 : Int64) = nL (2 ^ 2 - 1) from rfl, zL_ref c (by omega) (by omega) (by omega)]
  rw [sz_shl ⟨uN c / 2 ^ 26 % 2 ^ 2, Nat.mod_lt _ (by omega)⟩]; rfl
theorem ex_cmp : ∀ x : Fin 2, (lg_cmp (nL x.1) 1 = 0) = (x.1 = 1) := by decide +kernel
theorem e_Burst_isExclusive (Γ : gm_T) (φ : ph_T) (c : Int64) : f_Burst_isExclusive Γ φ c = some (nI (exN c), φ) := by
  unfold f_Burst_isExclusive f_Burst_isExclusive_L16
  rw [show (Int32.toInt64 (30 : Int32) &&& 63) = nL 30 from by decide]
  have h := zL_and c (k := 30) (j := 1) (by omega) (by omega)
  rw [show nL (2 ^ 1 - 1) = (1 : Int64) from rfl] at h
  rw [h]
  have h2 := exN_lt c
  have h3 : uN c / 2 ^ 30 % 2 ^ 1 = exN c := rfl
  rw [h3]
  generalize exN c = x at h2
  match x, h2 with
  | 0, _ => rfl
  | 1, _ => rfl
theorem e_Ref_isAlone (Γ : gm_T) (φ : ph_T) (c : Int64) : f_Ref_isAlone Γ φ c = some (nI (exN c), φ) := by
  unfold f_Ref_isAlone f_Ref_isAlone_L16
  rw [show (Int32.toInt64 (30 : Int32) &&& 63) = nL 30 from by decide]
  have h := zL_and c (k := 30) (j := 1) (by omega) (by omega)
  rw [show nL (2 ^ 1 - 1) = (1 : Int64) from rfl] at h
  rw [h]
  have h2 := exN_lt c
  have h3 : uN c / 2 ^ 30 % 2 ^ 1 = exN c := rfl
  rw [h3]
  generalize exN c = x at h2
  match x, h2 with
  | 0, _ => rfl
  | 1, _ => rfl
