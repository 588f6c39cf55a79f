/-! THE CLASS: memory -/
theorem uN_and (a b : Int64) : uN (a &&& b) = uN a &&& uN b := by unfold uN; rw [Int64.toBitVec_and, BitVec.toNat_and]
theorem uN_or (a b : Int64) : uN (a ||| b) = uN a ||| uN b := by unfold uN; rw [Int64.toBitVec_or, BitVec.toNat_or]
theorem uN_xor (a b : Int64) : uN (a ^^^ b) = uN a ^^^ uN b := by unfold uN; rw [Int64.toBitVec_xor, BitVec.toNat_xor]
theorem uN_not (a : Int64) (j : Nat) : Nat.testBit (uN (a ^^^ (-1 : Int64))) j = (decide (j < 64) && !Nat.testBit (uN a) j) := by
  rw [uN_xor, Nat.testBit_xor, show uN (-1 : Int64) = 2 ^ 64 - 1 from by decide, Nat.testBit_two_pow_sub_one]
  by_cases h : j < 64
  · simp [h]
  · have : Nat.testBit (uN a) j = false := Nat.testBit_lt_two_pow (Nat.lt_of_lt_of_le (uN_lt a) (Nat.pow_le_pow_right (by omega) (by omega)))
    simp [h, this]
theorem msk_bits : ∀ l : Fin 256, ∀ j : Fin 64, Nat.testBit (uN (mskL l.1)) j.1 = Nat.testBit l.1 (j.1 / 8) := by decide +kernel
theorem msk_bit {l j : Nat} (hl : l < 256) (hj : j < 64) : Nat.testBit (uN (mskL l)) j = Nat.testBit l (j / 8) := msk_bits ⟨l, hl⟩ ⟨j, hj⟩
theorem byN_bit (d : Int64) (i k : Nat) : Nat.testBit (byN d i) k = (decide (k < 8) && Nat.testBit (uN d) (8 * i + k)) := by
  unfold byN
  rw [show (256 : Nat) = 2 ^ 8 from rfl, Nat.testBit_mod_two_pow, Nat.testBit_div_two_pow, Nat.add_comm]
theorem byN_lt (d : Int64) (i : Nat) : byN d i < 256 := Nat.mod_lt _ (by omega)
theorem by_store (o d : Int64) {st i : Nat} (hs : st < 256) (hi : i < 8) : byN ((o &&& (mskL st ^^^ (-1 : Int64))) ||| (d &&& mskL st)) i = if Nat.testBit st i = true then byN d i else byN o i := by
  apply Nat.eq_of_testBit_eq
  intro k
  rw [byN_bit]
  by_cases hk : k < 8
  · rw [uN_or, Nat.testBit_or, uN_and, Nat.testBit_and, uN_and, Nat.testBit_and, uN_not, msk_bit hs (by omega), show (8 * i + k) / 8 = i by omega]
    cases h : Nat.testBit st i
    · simp [hk, byN_bit, show 8 * i + k < 64 by omega]
    · simp [hk, byN_bit]
  · split <;> simp [hk, byN_bit]
def CMem (Γ : gm_T) (φ : ph_T) (a : Nat) (mem : Nat → Nat) (spo : Nat → Bool) : Prop := (Γ a = .inr 2) ∧ (φ.2.2 a 0 = some (a + 1)) ∧ (φ.2.2 a 1 = some (a + 2)) ∧ (gA Γ (a + 1) 1 = some 8192) ∧ (gA Γ (a + 2) 1 = some 1024) ∧ (∀ y, y < 65536 → byN (φ.2.1 (a + 1) (y / 8)) (y % 8) = mem y) ∧ (∀ y, y < 65536 → Nat.testBit (uN (φ.2.1 (a + 2) (y / 64))) (y % 64) = spo y)
theorem CMem.o {Γ : gm_T} {φ : ph_T} {a : Nat} {mem : Nat → Nat} {spo : Nat → Bool} (h : CMem Γ φ a mem spo) : Γ a = .inr 2 := h.1
theorem CMem.f0 {Γ : gm_T} {φ : ph_T} {a : Nat} {mem : Nat → Nat} {spo : Nat → Bool} (h : CMem Γ φ a mem spo) : φ.2.2 a 0 = some (a + 1) := h.2.1
theorem CMem.f1 {Γ : gm_T} {φ : ph_T} {a : Nat} {mem : Nat → Nat} {spo : Nat → Bool} (h : CMem Γ φ a mem spo) : φ.2.2 a 1 = some (a + 2) := h.2.2.1
theorem CMem.g0 {Γ : gm_T} {φ : ph_T} {a : Nat} {mem : Nat → Nat} {spo : Nat → Bool} (h : CMem Γ φ a mem spo) : gA Γ (a + 1) 1 = some 8192 := h.2.2.2.1
theorem CMem.g1 {Γ : gm_T} {φ : ph_T} {a : Nat} {mem : Nat → Nat} {spo : Nat → Bool} (h : CMem Γ φ a mem spo) : gA Γ (a + 2) 1 = some 1024 := h.2.2.2.2.1
theorem CMem.w {Γ : gm_T} {φ : ph_T} {a : Nat} {mem : Nat → Nat} {spo : Nat → Bool} (h : CMem Γ φ a mem spo) : ∀ y, y < 65536 → byN (φ.2.1 (a + 1) (y / 8)) (y % 8) = mem y := h.2.2.2.2.2.1
theorem CMem.s {Γ : gm_T} {φ : ph_T} {a : Nat} {mem : Nat → Nat} {spo : Nat → Bool} (h : CMem Γ φ a mem spo) : ∀ y, y < 65536 → Nat.testBit (uN (φ.2.1 (a + 2) (y / 64))) (y % 64) = spo y := h.2.2.2.2.2.2
theorem CMem.sm {Γ : gm_T} {φ φ' : ph_T} {a : Nat} {mem : Nat → Nat} {spo : Nat → Bool} (h : CMem Γ φ a mem spo) (s : Sm a (a + 3) φ φ') : CMem Γ φ' a mem spo := by
  refine ⟨h.o, ?_, ?_, h.g0, h.g1, ?_, ?_⟩
  · rw [s.r (by omega) (by omega)]; exact h.f0
  · rw [s.r (by omega) (by omega)]; exact h.f1
  · rw [s.l (by omega) (by omega)]; exact h.w
  · rw [s.l (by omega) (by omega)]; exact h.s
theorem e_wordOf (Γ : gm_T) (φ : ph_T) {x : Nat} (hx : x < 65536) : f_Memory_wordOf Γ φ (nI x) = some (nI (x / 8), φ) := by
  unfold f_Memory_wordOf
  rw [show ((3 : Int32) &&& 31) = nI 3 from by decide, zI_shr (by omega) (by omega), show (8191 : Int32) = nI (2 ^ 13 - 1) from rfl, zI_and, Nat.and_two_pow_sub_one_eq_mod, Nat.shiftRight_eq_div_pow]
  congr 3
  omega
theorem e_spoWordOf (Γ : gm_T) (φ : ph_T) {x : Nat} (hx : x < 65536) : f_Memory_spoiltWordOf Γ φ (nI x) = some (nI (x / 64), φ) := by
  unfold f_Memory_spoiltWordOf
  rw [show ((6 : Int32) &&& 31) = nI 6 from by decide, zI_shr (by omega) (by omega), show (1023 : Int32) = nI (2 ^ 10 - 1) from rfl, zI_and, Nat.and_two_pow_sub_one_eq_mod, Nat.shiftRight_eq_div_pow]
  congr 3
  omega
theorem cand7 (x : Nat) : nI x &&& (7 : Int32) = nI (x % 8) := by
  rw [show (7 : Int32) = nI (2 ^ 3 - 1) from rfl, zI_and, Nat.and_two_pow_sub_one_eq_mod]
theorem c_byteAt {Γ : gm_T} {φ : ph_T} {a : Nat} {mem : Nat → Nat} {spo : Nat → Bool} (h : CMem Γ φ a mem spo) {x : Nat} (hx : x < 65536) : f_Memory_byteAt Γ φ a (nI x) = some (nI (mem x), φ) := by
  unfold f_Memory_byteAt
  simp (disch := first | assumption | omega) only [h.o, if_true, e_wordOf Γ φ hx, h.f0, h.g0, Option.bind_some, zix, cand7]
  rw [show (8 : Int32) = nI 8 from rfl, zI_mul, sh_l (by omega), show (255 : Int32) = nI (2 ^ 8 - 1) from rfl, zL_cls _ (by omega) (by omega) (by omega)]
  have := h.w x hx
  unfold byN at this
  rw [show (2 : Nat) ^ 8 = 256 from rfl, this]
theorem c_store {Γ : gm_T} {φ : ph_T} {a : Nat} {mem : Nat → Nat} {spo : Nat → Bool} (h : CMem Γ φ a mem spo) {x st : Nat} (hx : x < 65536) (hs : st < 256) (d : Int64) :
    ∃ φ', f_Memory_store Γ φ a (nI x) d (nI st) = some ((), φ') ∧ CMem Γ φ' a (stB mem x st d) spo ∧ Fr a (a + 3) φ φ' := by
  unfold f_Memory_store
  rw [e_laneBits Γ φ (by omega)]
  simp (disch := first | assumption | omega) only [h.o, if_true, e_wordOf Γ φ hx, h.f0, h.g0, Option.bind_some, zix]
  refine ⟨_, rfl, ⟨h.o, h.f0, h.f1, h.g0, h.g1, ?_, ?_⟩, fr_uL (Fr.refl _ _ _) (by omega) _ _⟩
  · intro y hy
    rw [uL_2, if_pos rfl, vz_at]
    unfold stB
    by_cases e : y / 8 = x / 8
    · rw [if_pos e, by_store _ _ hs (by omega)]
      by_cases t : Nat.testBit st (y % 8) = true
      · rw [if_pos t, if_pos ⟨e, t⟩]
      · rw [if_neg t, if_neg (fun hh => t hh.2), ← e]; exact h.w y hy
    · rw [if_neg e, if_neg (fun hh => e hh.1)]; exact h.w y hy
  · intro y hy
    rw [uL_2, if_neg (by omega)]
    exact h.s y hy
theorem fold_dig (X : Nat) : ∀ n, (List.range n).foldl (fun a i => a + X / 2 ^ (8 * i) % 256 * 2 ^ (8 * i)) 0 = X % 2 ^ (8 * n) := by
  intro n
  induction n with
  | zero => simp [Nat.mod_one]
  | succ n ih =>
    rw [List.range_succ, List.foldl_append, ih]
    simp only [List.foldl_cons, List.foldl_nil]
    rw [show 8 * (n + 1) = 8 * n + 8 by omega, Nat.pow_add, show (2 : Nat) ^ 8 = 256 from rfl, Nat.mod_mul, Nat.mul_comm (2 ^ (8 * n))]
theorem foldl_eq {f g : Nat → Nat → Nat} : ∀ (l : List Nat) (a : Nat), (∀ i ∈ l, ∀ a, f a i = g a i) → l.foldl f a = l.foldl g a := by
  intro l
  induction l with
  | nil => intro a _; rfl
  | cons x l ih =>
    intro a h
    rw [List.foldl_cons, List.foldl_cons, h x (List.mem_cons_self ..) a]
    exact ih _ (fun i hi => h i (List.mem_cons_of_mem _ hi))
theorem by_and (o : Int64) {st i : Nat} (hs : st < 256) (hi : i < 8) : byN (o &&& mskL st) i = if Nat.testBit st i = true then byN o i else 0 := by
  apply Nat.eq_of_testBit_eq
  intro k
  rw [byN_bit]
  by_cases hk : k < 8
  · rw [uN_and, Nat.testBit_and, msk_bit hs (by omega), show (8 * i + k) / 8 = i by omega]
    cases h : Nat.testBit st i
    · simp
    · simp [hk, byN_bit]
  · split <;> simp [hk, byN_bit]
theorem c_load {Γ : gm_T} {φ : ph_T} {a : Nat} {mem : Nat → Nat} {spo : Nat → Bool} (h : CMem Γ φ a mem spo) {x st : Nat} (hx : x < 65536) (hs : st < 256) :
    f_Memory_load Γ φ a (nI x) (nI st) = some (nL (ldB mem x st), φ) := by
  unfold f_Memory_load
  simp (disch := first | assumption | omega) only [h.o, if_true, e_wordOf Γ φ hx, e_laneBits Γ φ (show st < 2 ^ 31 by omega), h.f0, h.g0, Option.bind_some, zix]
  congr 2
  rw [← nL_uN (φ.2.1 (a + 1) (x / 8) &&& mskL st)]
  congr 1
  have h1 := fold_dig (uN (φ.2.1 (a + 1) (x / 8) &&& mskL st)) 8
  rw [Nat.mod_eq_of_lt (show uN (φ.2.1 (a + 1) (x / 8) &&& mskL st) < 2 ^ (8 * 8) from uN_lt _)] at h1
  rw [← h1]
  unfold ldB
  apply foldl_eq
  intro i hi acc
  have hi8 : i < 8 := List.mem_range.mp hi
  have h2 : uN (φ.2.1 (a + 1) (x / 8) &&& mskL st) / 2 ^ (8 * i) % 256 = byN (φ.2.1 (a + 1) (x / 8) &&& mskL st) i := rfl
  rw [h2, by_and _ hs hi8]
  have h3 := h.w (x - x % 8 + i) (by omega)
  rw [show (x - x % 8 + i) / 8 = x / 8 by omega, show (x - x % 8 + i) % 8 = i by omega] at h3
  by_cases t : Nat.testBit st i = true
  · rw [if_pos t, if_pos t, h3]
  · rw [if_neg t, if_neg t]; omega
theorem and56 {x : Nat} (hx : x < 65536) : nI x &&& (56 : Int32) = nI (x / 8 % 8 * 8) := by
  rw [show (56 : Int32) = nI 56 from rfl, zI_and]
  congr 1
  apply Nat.eq_of_testBit_eq
  intro j
  have h56 : Nat.testBit 56 j = (decide (3 ≤ j) && decide (j < 6)) := by
    by_cases h : j < 6
    · match j, h with
      | 0, _ => decide
      | 1, _ => decide
      | 2, _ => decide
      | 3, _ => decide
      | 4, _ => decide
      | 5, _ => decide
    · have : Nat.testBit 56 j = false := Nat.testBit_lt_two_pow (Nat.lt_of_lt_of_le (show 56 < 2 ^ 6 by omega) (Nat.pow_le_pow_right (by omega) (by omega)))
      simp [this, h]
  rw [Nat.testBit_and, h56, show x / 8 % 8 * 8 = (x / 2 ^ 3 % 2 ^ 3) <<< 3 from by rw [Nat.shiftLeft_eq], Nat.testBit_shiftLeft, Nat.testBit_mod_two_pow, Nat.testBit_div_two_pow]
  by_cases h3 : 3 ≤ j
  · simp only [h3, decide_true, Bool.true_and, ge_iff_le, show j - 3 + 3 = j by omega]
    by_cases h6 : j < 6
    · simp [h6, show j - 3 < 3 by omega]
    · simp [h6, show ¬ j - 3 < 3 by omega]
  · simp [h3]
theorem any_cg {α : Type} {f g : α → Bool} : ∀ (l : List α), (∀ i ∈ l, f i = g i) → l.any f = l.any g := by
  intro l
  induction l with
  | nil => intro _; rfl
  | cons x l ih =>
    intro h
    rw [List.any_cons, List.any_cons, h x (List.mem_cons_self ..), ih (fun i hi => h i (List.mem_cons_of_mem _ hi))]
theorem any_bit {X : Nat} (hX : X < 256) : (X = 0) ↔ ((List.range 8).any fun i => Nat.testBit X i) = false := by
  constructor
  · intro h; subst h; simp
  · intro h
    apply Nat.eq_of_testBit_eq
    intro j
    rw [Nat.zero_testBit]
    by_cases hj : j < 8
    · rw [List.any_eq_false] at h
      have := h j (List.mem_range.mpr hj)
      simpa using this
    · exact Nat.testBit_lt_two_pow (Nat.lt_of_lt_of_le hX (by rw [show 256 = 2 ^ 8 from rfl]; exact Nat.pow_le_pow_right (by omega) (by omega)))
theorem shr_and (W : Int64) {k st : Nat} (hk : k + 8 ≤ 64) (hs : st < 256) : (W >>> nL k) &&& nL st = nL (uN W / 2 ^ k % 256 &&& st) := by
  apply Int64.toBitVec_inj.mp
  rw [Int64.toBitVec_and, zL_shr_bv W (by omega)]
  apply BitVec.eq_of_getLsbD_eq
  intro i hi
  have h5 : (nL st).toBitVec = BitVec.ofNat 64 st := rfl
  have h6 : (nL (uN W / 2 ^ k % 256 &&& st)).toBitVec = BitVec.ofNat 64 (uN W / 2 ^ k % 256 &&& st) := rfl
  rw [h5, h6, BitVec.getLsbD_and, BitVec.getLsbD_sshiftRight, BitVec.getLsbD_ofNat, BitVec.getLsbD_ofNat, Nat.testBit_and, show (256 : Nat) = 2 ^ 8 from rfl, Nat.testBit_mod_two_pow, Nat.testBit_div_two_pow]
  by_cases h8 : i < 8
  · have h3 : k + i < 64 := by omega
    have h4 : ¬ (64 ≤ i) := by omega
    simp [h8, h3, h4, hi, uN, BitVec.testBit_toNat, Nat.add_comm]
  · have : Nat.testBit st i = false := Nat.testBit_lt_two_pow (Nat.lt_of_lt_of_le hs (by rw [show 256 = 2 ^ 8 from rfl]; exact Nat.pow_le_pow_right (by omega) (by omega)))
    simp [this]
theorem nL_eq0 {n : Nat} (h : n < 2 ^ 63) : (nL n = 0) ↔ n = 0 := by
  constructor
  · intro e
    have := congrArg uN e
    rw [uN_nL (by omega)] at this
    exact this
  · intro e; subst e; rfl
theorem c_isSpoilt {Γ : gm_T} {φ : ph_T} {a : Nat} {mem : Nat → Nat} {spo : Nat → Bool} (h : CMem Γ φ a mem spo) {x st : Nat} (hx : x < 65536) (hs : st < 256) :
    f_Memory_isSpoilt Γ φ a (nI x) (nI st) = some (bI (spoB spo x st), φ) := by
  unfold f_Memory_isSpoilt f_Memory_isSpoilt_L27
  simp (disch := first | assumption | omega) only [h.o, if_true, e_spoWordOf Γ φ hx, h.f1, h.g1, Option.bind_some, zix, lg_eq]
  rw [and56 hx, sh_l (by omega), nI_L (by omega), shr_and _ (by omega) hs]
  have hX : uN (φ.2.1 (a + 2) (x / 64)) / 2 ^ (x / 8 % 8 * 8) % 256 &&& st < 256 := Nat.lt_of_le_of_lt Nat.and_le_right hs
  have e1 : spoB spo x st = ((List.range 8).any fun i => Nat.testBit (uN (φ.2.1 (a + 2) (x / 64)) / 2 ^ (x / 8 % 8 * 8) % 256 &&& st) i) := by
    unfold spoB
    apply any_cg
    intro i hi
    have hi8 : i < 8 := List.mem_range.mp hi
    have h3 := h.s (x - x % 8 + i) (by omega)
    rw [show (x - x % 8 + i) / 64 = x / 64 by omega, show (x - x % 8 + i) % 64 = i + x / 8 % 8 * 8 by omega] at h3
    rw [Nat.testBit_and, show (256 : Nat) = 2 ^ 8 from rfl, Nat.testBit_mod_two_pow, Nat.testBit_div_two_pow, h3]
    simp [hi8, Bool.and_comm]
  rw [e1]
  by_cases h0 : (uN (φ.2.1 (a + 2) (x / 64)) / 2 ^ (x / 8 % 8 * 8) % 256 &&& st) = 0
  · rw [if_pos ((nL_eq0 (by omega)).mpr h0), if_pos (by decide), (any_bit hX).mp h0]; rfl
  · rw [if_neg (fun e => h0 ((nL_eq0 (by omega)).mp e)), if_pos (by decide)]
    have : ((List.range 8).any fun i => Nat.testBit (uN (φ.2.1 (a + 2) (x / 64)) / 2 ^ (x / 8 % 8 * 8) % 256 &&& st) i) = true := by
      cases hh : ((List.range 8).any fun i => Nat.testBit (uN (φ.2.1 (a + 2) (x / 64)) / 2 ^ (x / 8 % 8 * 8) % 256 &&& st) i)
      · exact absurd ((any_bit hX).mpr hh) h0
      · rfl
    rw [this]; rfl
