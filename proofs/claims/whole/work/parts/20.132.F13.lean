/-! THE FACE: a request's numbers -/
theorem nL_and (a b : Nat) : nL a &&& nL b = nL (a &&& b) := by
  apply Int64.toBitVec_inj.mp
  rw [Int64.toBitVec_and]
  unfold nL
  rw [Int64.toBitVec_ofNat', Int64.toBitVec_ofNat', Int64.toBitVec_ofNat', BitVec.ofNat_and]
def rqN (h a i : Nat) : Nat := i + a * 2 ^ 6 + h % 256 * 2 ^ 22 + h / 512 % 2 * 2 ^ 30 + h / 2048 % 16 * 2 ^ 31
def rqR (h a i : Nat) : Nat := i + 64 * a + h % 16 * 2 ^ 22 + h / 16 % 4 * 2 ^ 26 + h / 64 % 4 * 2 ^ 28 + h / 512 % 2 * 2 ^ 30
theorem rq_lt {h a i : Nat} (ha : a < 65536) (hi : i < 16) : rqN h a i < 2 ^ 35 ∧ rqR h a i < 2 ^ 35 := by
  unfold rqN rqR
  omega
theorem rq_parts {h a i : Nat} (hh : h < 32768) (ha : a < 65536) (hi : i < 16) : idN (nL (rqN h a i)) = i ∧ adN (nL (rqN h a i)) = a ∧ leN (nL (rqN h a i)) = h % 16 + 1 ∧ seN (nL (rqN h a i)) = h / 16 % 4 ∧ kiN (nL (rqN h a i)) = h / 64 % 4 ∧ exN (nL (rqN h a i)) = h / 512 % 2 ∧ urN (nL (rqN h a i)) = h / 2048 := by
  have hl := (rq_lt (h := h) ha hi).1
  unfold idN adN leN seN kiN exN urN
  rw [uN_nL (by omega)]
  unfold rqN
  refine ⟨by omega, by omega, by omega, by omega, by omega, by omega, ?_⟩
  have e1 : h / 2048 % 16 = h / 2048 := Nat.mod_eq_of_lt (by omega)
  rw [e1]
  have e2 : h / 2048 < 16 := by omega
  have e3 : h % 256 < 256 := Nat.mod_lt _ (by decide)
  have e4 : h / 512 % 2 < 2 := Nat.mod_lt _ (by decide)
  generalize h / 2048 = u at *
  generalize h % 256 = v at *
  generalize h / 512 % 2 = w at *
  omega
theorem rqR_parts {h a i : Nat} (ha : a < 65536) (hi : i < 16) : adN (nL (rqR h a i)) = a ∧ leN (nL (rqR h a i)) = h % 16 + 1 ∧ seN (nL (rqR h a i)) = h / 16 % 4 ∧ kiN (nL (rqR h a i)) = h / 64 % 4 ∧ exN (nL (rqR h a i)) = h / 512 % 2 := by
  have hl := (rq_lt (h := h) ha hi).2
  unfold adN leN seN kiN exN
  rw [uN_nL (by omega)]
  unfold rqR
  refine ⟨by omega, by omega, by omega, by omega, by omega⟩
theorem sz_se (c : Int64) : szN c = 2 ^ seN c := rfl
theorem rq_ru {h a i : Nat} (hh : h < 32768) (ha : a < 65536) (hi : i < 16) : ruN (nL (rqR h a i)) = ruN (nL (rqN h a i)) := by
  obtain ⟨_, a2, a3, a4, a5, a6, _⟩ := rq_parts hh ha hi
  obtain ⟨b2, b3, b4, b5, b6⟩ := rqR_parts (h := h) ha hi
  unfold ruN
  rw [sz_se, sz_se, a2, a3, a4, a5, a6, b2, b3, b4, b5, b6]
theorem and_bit (n k : Nat) : n &&& 2 ^ k = n / 2 ^ k % 2 * 2 ^ k := by
  apply Nat.eq_of_testBit_eq
  intro i
  rw [Nat.testBit_and, Nat.testBit_two_pow]
  have h2 : n / 2 ^ k % 2 = 0 ∨ n / 2 ^ k % 2 = 1 := by omega
  by_cases e : k = i
  · subst e
    rw [decide_eq_true rfl, Bool.and_true, Nat.testBit_eq_decide_div_mod_eq]
    rcases h2 with h2 | h2
    · rw [h2, Nat.zero_mul, Nat.zero_testBit]; rfl
    · rw [h2, Nat.one_mul, Nat.testBit_two_pow]; simp
  · rw [decide_eq_false e, Bool.and_false]
    rcases h2 with h2 | h2
    · rw [h2, Nat.zero_mul, Nat.zero_testBit]
    · rw [h2, Nat.one_mul, Nat.testBit_two_pow, decide_eq_false e]
theorem bit_if {h k : Nat} (hh : h < 2 ^ 31) (hk : k < 31) {α : Type} (x y : α) : (if nI h &&& nI (2 ^ k) = 0 then x else y) = if h / 2 ^ k % 2 = 0 then x else y := by
  rw [zI_and, and_bit]
  have h2 : h / 2 ^ k % 2 = 0 ∨ h / 2 ^ k % 2 = 1 := by omega
  rcases h2 with h2 | h2
  · rw [h2, Nat.zero_mul, if_pos (show nI 0 = 0 from rfl), if_pos rfl]
  · rw [h2, Nat.one_mul, if_neg, if_neg (by decide)]
    rw [zI_0, zI_eq (Nat.pow_lt_pow_right (by decide) hk) (by decide)]
    exact Nat.ne_of_gt (Nat.two_pow_pos _)
theorem e_contentOf (Γ : gm_T) (φ : ph_T) {h a i : Nat} (hh : h < 32768) (ha : a < 65536) (hi : i < 16) : f_Burst_contentOf Γ φ (nI h) (nI a) (nI i) = some (nL (rqN h a i), φ) := by
  have key : ∀ e : Nat, e = h / 512 % 2 → f_Burst_contentOf_L13 Γ φ (nI h) (nI a) (nI i) (nL e) = some (nL (rqN h a i), φ) := by
    intro e he
    unfold f_Burst_contentOf_L13
    rw [nI_L (by omega), nI_L (by omega), nI_L (by omega), show (Int32.toInt64 (6 : Int32) &&& 63) = nL 6 from sh_l (k := 6) (by decide), show (Int32.toInt64 (22 : Int32) &&& 63) = nL 22 from sh_l (k := 22) (by decide), show (Int32.toInt64 (30 : Int32) &&& 63) = nL 30 from sh_l (k := 30) (by decide), show (Int32.toInt64 (31 : Int32) &&& 63) = nL 31 from sh_l (k := 31) (by decide)]
    rw [show ((11 : Int32) &&& 31) = nI 11 from by decide, zI_shr (by omega) (by decide), show (15 : Int32) = nI (2 ^ 4 - 1) from rfl, zI_and, Nat.and_two_pow_sub_one_eq_mod, Nat.shiftRight_eq_div_pow, nI_L (by omega), show (255 : Int64) = nL (2 ^ 8 - 1) from rfl, nL_and, Nat.and_two_pow_sub_one_eq_mod]
    rw [nL_shl (by decide), nL_shl (by decide), nL_shl (by decide), nL_shl (by decide), nL_or, nL_or, nL_or, nL_or]
    rw [or_add (k := 6) (by omega), or_add (k := 22) (by omega), or_add (k := 30) (by omega), or_add (k := 31) (by omega), he]
    rfl
  unfold f_Burst_contentOf
  rw [show (512 : Int32) = nI (2 ^ 9) from rfl, bit_if (by omega) (by decide)]
  by_cases g : h / 2 ^ 9 % 2 = 0
  · rw [if_pos g]
    exact key 0 (by omega)
  · rw [if_neg g]
    exact key 1 (by omega)
theorem r_burst {h a i : Nat} (hh : h < 32768) (ha : a < 65536) (hi : i < 16) : ((((((Int32.toInt64 (nI i)) + ((64 : Int64) * (Int32.toInt64 (nI a)))) + (((Int32.toInt64 (nI h)) &&& (15 : Int64)) <<< (Int32.toInt64 (22 : Int32) &&& 63))) + (((Int32.toInt64 (nI h >>> ((4 : Int32) &&& 31))) &&& (3 : Int64)) <<< (Int32.toInt64 (26 : Int32) &&& 63))) + (((Int32.toInt64 (nI h >>> ((6 : Int32) &&& 31))) &&& (3 : Int64)) <<< (Int32.toInt64 (28 : Int32) &&& 63))) + (((Int32.toInt64 (nI h >>> ((9 : Int32) &&& 31))) &&& (1 : Int64)) <<< (Int32.toInt64 (30 : Int32) &&& 63))) = nL (rqR h a i) := by
  rw [show (Int32.toInt64 (22 : Int32) &&& 63) = nL 22 from sh_l (k := 22) (by decide), show (Int32.toInt64 (26 : Int32) &&& 63) = nL 26 from sh_l (k := 26) (by decide), show (Int32.toInt64 (28 : Int32) &&& 63) = nL 28 from sh_l (k := 28) (by decide), show (Int32.toInt64 (30 : Int32) &&& 63) = nL 30 from sh_l (k := 30) (by decide)]
  rw [show ((4 : Int32) &&& 31) = nI 4 from by decide, show ((6 : Int32) &&& 31) = nI 6 from by decide, show ((9 : Int32) &&& 31) = nI 9 from by decide, zI_shr (by omega) (by decide), zI_shr (by omega) (by decide), zI_shr (by omega) (by decide), Nat.shiftRight_eq_div_pow, Nat.shiftRight_eq_div_pow, Nat.shiftRight_eq_div_pow]
  rw [nI_L (by omega), nI_L (by omega), nI_L (by omega), nI_L (by omega), nI_L (by omega), nI_L (by omega)]
  rw [show (15 : Int64) = nL (2 ^ 4 - 1) from rfl, show (3 : Int64) = nL (2 ^ 2 - 1) from rfl, show (1 : Int64) = nL (2 ^ 1 - 1) from rfl, show (64 : Int64) = nL 64 from rfl, nL_and, nL_and, nL_and, nL_and, Nat.and_two_pow_sub_one_eq_mod, Nat.and_two_pow_sub_one_eq_mod, Nat.and_two_pow_sub_one_eq_mod, Nat.and_two_pow_sub_one_eq_mod]
  rw [nL_shl (by decide), nL_shl (by decide), nL_shl (by decide), nL_shl (by decide), nL_mul, nL_add, nL_add, nL_add, nL_add, nL_add]
  rfl
theorem lcg_c (x : Int64) : ((6364136223846793005 : Int64) * x) + (1442695040888963407 : Int64) = lcg x := by
  unfold lcg
  rw [Int64.mul_comm]
theorem itN_c {α : Type} (f : α → α) : ∀ n x, itN f (n + 1) x = f (itN f n x) := by
  intro n
  induction n with
  | zero => intro x; rfl
  | succ n ih => intro x; rw [itN_s, ih, itN_s]
theorem lcgN_c (n : Nat) (x : Int64) : lcgN (n + 1) x = lcg (lcgN n x) := itN_c lcg n x
theorem lcgN_0 (x : Int64) : lcgN 0 x = x := rfl
theorem e_top (x : Int64) : Int64.toInt32 ((Int64.toUInt64 x >>> (Int64.toUInt64 (Int32.toInt64 (56 : Int32)) &&& Int64.toUInt64 63)).toInt64) = nI (uN x / 2 ^ 56) := by
  rw [show (Int64.toUInt64 (Int32.toInt64 (56 : Int32)) &&& Int64.toUInt64 63) = (56 : UInt64) from by decide]
  apply zI_inj
  apply BitVec.eq_of_toNat_eq
  have hx : uN x < 2 ^ 64 := x.toBitVec.isLt
  have e1 : (Int64.toInt32 ((Int64.toUInt64 x >>> (56 : UInt64)).toInt64)).toBitVec.toNat = uN x / 2 ^ 56 % 2 ^ 32 := by
    rw [Int64.toBitVec_toInt32, BitVec.signExtend_eq_setWidth_of_le _ (by decide), BitVec.toNat_setWidth]
    congr 1
    show ((Int64.toUInt64 x >>> (56 : UInt64)).toBitVec).toNat = _
    rw [UInt64.toBitVec_shiftRight, show ((56 : UInt64).toBitVec % 64) = BitVec.ofNat 64 56 from by decide]
    show (x.toBitVec >>> BitVec.ofNat 64 56).toNat = _
    rw [BitVec.ushiftRight_eq', BitVec.toNat_ushiftRight, Nat.shiftRight_eq_div_pow]
    rfl
  rw [e1]
  show _ = (BitVec.ofNat 32 (uN x / 2 ^ 56)).toNat
  rw [BitVec.toNat_ofNat]
