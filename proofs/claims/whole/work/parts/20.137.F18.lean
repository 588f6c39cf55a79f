/-! THE FACE: bits are counted -/
def bc : Nat → Nat → Nat
  | 0, _ => 0
  | d + 1, n => n % 2 + bc d (n / 2)
theorem bc_count : ∀ d n, bc d n = (List.range d).countP (fun i => n.testBit i) := by
  intro d
  induction d with
  | zero => intro n; rfl
  | succ d ih =>
    intro n
    rw [List.range_succ_eq_map, List.countP_cons, List.countP_map]
    show n % 2 + bc d (n / 2) = _
    rw [ih]
    have e : ((fun i => n.testBit i) ∘ Nat.succ) = fun i => (n / 2).testBit i := by
      funext i
      show n.testBit (i + 1) = _
      rw [Nat.testBit_succ]
    rw [e, Nat.testBit_zero]
    have : n % 2 = 0 ∨ n % 2 = 1 := by omega
    rcases this with h | h <;> rw [h] <;> simp <;> omega
/-- a number by its bytes -/
def val : List Nat → Nat
  | [] => 0
  | b :: l => b + 256 * val l
def rep (m : Nat) : Nat → Nat
  | 0 => 0
  | n + 1 => m + 256 * rep m n
theorem and_256 {p u : Nat} (hp : p < 256) (hu : u < 256) (q v : Nat) : (p + 256 * q) &&& (u + 256 * v) = (p &&& u) + 256 * (q &&& v) := by
  have e : ∀ a b, a < 256 → a + 256 * b = b <<< 8 ||| a := by
    intro a b ha
    rw [← Nat.shiftLeft_add_eq_or_of_lt (by exact ha), Nat.shiftLeft_eq]
    omega
  have hpu : p &&& u < 256 := Nat.lt_of_le_of_lt Nat.and_le_left hp
  rw [e p q hp, e u v hu, e _ _ hpu]
  apply Nat.eq_of_testBit_eq
  intro i
  simp only [Nat.testBit_and, Nat.testBit_or, Nat.testBit_shiftLeft]
  by_cases h8 : 8 ≤ i
  · have h1 : p.testBit i = false := Nat.testBit_lt_two_pow (Nat.lt_of_lt_of_le hp (by
      calc 256 = 2 ^ 8 := rfl
        _ ≤ 2 ^ i := Nat.pow_le_pow_right (by decide) h8))
    have h2 : u.testBit i = false := Nat.testBit_lt_two_pow (Nat.lt_of_lt_of_le hu (by
      calc 256 = 2 ^ 8 := rfl
        _ ≤ 2 ^ i := Nat.pow_le_pow_right (by decide) h8))
    rw [h1, h2]
    simp [h8]
  · simp [h8]
def t1 (b : Nat) : Nat := b - ((b / 2) &&& 85)
def t2 (b : Nat) : Nat := (b &&& 51) + ((b / 4) &&& 51)
def t3 (b : Nat) : Nat := (b + b / 16) &&& 15
theorem t_dec : ∀ b : Fin 256, t1 b.1 < 256 ∧ ((b.1 / 2) &&& 85) ≤ b.1 ∧ t2 b.1 < 256 ∧ t2 (t1 b.1) ≤ 68 ∧ t2 (t1 b.1) % 16 ≤ 4 ∧ t3 (t2 (t1 b.1)) = bc 8 b.1 ∧ bc 8 b.1 ≤ 8 := by decide +kernel
theorem t_dec1 : ∀ b : Fin 256, ∀ c : Fin 2, ((b.1 / 2 + 128 * c.1) &&& 85) = ((b.1 / 2) &&& 85) := by decide +kernel
theorem t_dec2 : ∀ b : Fin 256, ∀ c : Fin 4, ((b.1 / 4 + 64 * c.1) &&& 51) = ((b.1 / 4) &&& 51) := by decide +kernel
theorem t_dec3 : ∀ b : Fin 69, ∀ c : Fin 5, ((b.1 + b.1 / 16 + 16 * c.1) &&& 15) = t3 b.1 := by decide +kernel
def okB (l : List Nat) : Prop := ∀ b ∈ l, b < 256
theorem s1_val : ∀ l : List Nat, okB l → ((val l / 2) &&& rep 85 l.length) ≤ val l ∧ val l - ((val l / 2) &&& rep 85 l.length) = val (l.map t1) := by
  intro l
  induction l with
  | nil => intro _; exact ⟨Nat.le_refl _, rfl⟩
  | cons b l ih =>
    intro h
    have hb := h b (List.mem_cons_self ..)
    obtain ⟨i1, i2⟩ := ih (fun x hx => h x (List.mem_cons_of_mem _ hx))
    have d := t_dec ⟨b, hb⟩
    have d1 := t_dec1 ⟨b, hb⟩ ⟨val l % 2, Nat.mod_lt _ (by decide)⟩
    simp only at d d1
    have e : val (b :: l) / 2 = (b / 2 + 128 * (val l % 2)) + 256 * (val l / 2) := by
      show (b + 256 * val l) / 2 = _
      omega
    have e2 : rep 85 (b :: l).length = 85 + 256 * rep 85 l.length := rfl
    rw [e, e2, and_256 (by omega) (by decide), d1]
    show ((b / 2) &&& 85) + 256 * _ ≤ b + 256 * val l ∧ b + 256 * val l - (((b / 2) &&& 85) + 256 * _) = t1 b + 256 * val (l.map t1)
    rw [← i2]
    unfold t1
    omega
theorem s2_val : ∀ l : List Nat, okB l → (val l &&& rep 51 l.length) + ((val l / 4) &&& rep 51 l.length) = val (l.map t2) := by
  intro l
  induction l with
  | nil => intro _; rfl
  | cons b l ih =>
    intro h
    have hb := h b (List.mem_cons_self ..)
    have i2 := ih (fun x hx => h x (List.mem_cons_of_mem _ hx))
    have d1 := t_dec2 ⟨b, hb⟩ ⟨val l % 4, Nat.mod_lt _ (by decide)⟩
    simp only at d1
    have e : val (b :: l) / 4 = (b / 4 + 64 * (val l % 4)) + 256 * (val l / 4) := by
      show (b + 256 * val l) / 4 = _
      omega
    have e2 : rep 51 (b :: l).length = 51 + 256 * rep 51 l.length := rfl
    rw [e, e2, and_256 (by omega) (by decide), d1]
    show ((b + 256 * val l) &&& (51 + 256 * rep 51 l.length)) + _ = t2 b + 256 * val (l.map t2)
    rw [and_256 hb (by decide), ← i2]
    unfold t2
    omega
theorem s3_val : ∀ l : List Nat, (∀ b ∈ l, b ≤ 68 ∧ b % 16 ≤ 4) → ((val l + val l / 16) &&& rep 15 l.length) = val (l.map t3) := by
  intro l
  induction l with
  | nil => intro _; rfl
  | cons b l ih =>
    intro h
    have hb := h b (List.mem_cons_self ..)
    have i2 := ih (fun x hx => h x (List.mem_cons_of_mem _ hx))
    have hc : val l % 16 ≤ 4 := by
      cases l with
      | nil => decide
      | cons c l =>
        have := h c (List.mem_cons_of_mem _ (List.mem_cons_self ..))
        show (c + 256 * val l) % 16 ≤ 4
        omega
    have d1 := t_dec3 ⟨b, by omega⟩ ⟨val l % 16, by omega⟩
    simp only at d1
    have e : val (b :: l) + val (b :: l) / 16 = (b + b / 16 + 16 * (val l % 16)) + 256 * (val l + val l / 16) := by
      show b + 256 * val l + (b + 256 * val l) / 16 = _
      omega
    have e2 : rep 15 (b :: l).length = 15 + 256 * rep 15 l.length := rfl
    rw [e, e2, and_256 (by omega) (by decide), d1, i2]
    rfl
theorem bc_8 (d n : Nat) : bc (d + 8) n = bc 8 (n % 256) + bc d (n / 256) := by
  have e : n / 2 / 2 / 2 / 2 / 2 / 2 / 2 / 2 = n / 256 := by omega
  show n % 2 + (n / 2 % 2 + (n / 2 / 2 % 2 + (n / 2 / 2 / 2 % 2 + (n / 2 / 2 / 2 / 2 % 2 + (n / 2 / 2 / 2 / 2 / 2 % 2 + (n / 2 / 2 / 2 / 2 / 2 / 2 % 2 + (n / 2 / 2 / 2 / 2 / 2 / 2 / 2 % 2 + bc d (n / 2 / 2 / 2 / 2 / 2 / 2 / 2 / 2)))))))) = _
  rw [e]
  show _ = (n % 256 % 2 + (n % 256 / 2 % 2 + (n % 256 / 2 / 2 % 2 + (n % 256 / 2 / 2 / 2 % 2 + (n % 256 / 2 / 2 / 2 / 2 % 2 + (n % 256 / 2 / 2 / 2 / 2 / 2 % 2 + (n % 256 / 2 / 2 / 2 / 2 / 2 / 2 % 2 + (n % 256 / 2 / 2 / 2 / 2 / 2 / 2 / 2 % 2 + 0)))))))) + bc d (n / 256)
  generalize bc d (n / 256) = z
  omega
theorem bc_val : ∀ l : List Nat, okB l → bc (8 * l.length) (val l) = (l.map (bc 8)).sum := by
  intro l
  induction l with
  | nil => intro _; rfl
  | cons b l ih =>
    intro h
    have hb := h b (List.mem_cons_self ..)
    rw [List.length_cons, show 8 * (l.length + 1) = 8 * l.length + 8 by omega, bc_8]
    have e1 : val (b :: l) % 256 = b := by show (b + 256 * val l) % 256 = b; omega
    have e2 : val (b :: l) / 256 = val l := by show (b + 256 * val l) / 256 = val l; omega
    rw [e1, e2, ih (fun x hx => h x (List.mem_cons_of_mem _ hx)), List.map_cons, List.sum_cons]
def bys (n : Nat) : List Nat := [n % 256, n / 256 % 256, n / 256 / 256 % 256, n / 256 / 256 / 256 % 256, n / 256 / 256 / 256 / 256 % 256, n / 256 / 256 / 256 / 256 / 256 % 256, n / 256 / 256 / 256 / 256 / 256 / 256 % 256, n / 256 / 256 / 256 / 256 / 256 / 256 / 256 % 256]
theorem bys_val {n : Nat} (h : n < 2 ^ 64) : val (bys n) = n ∧ okB (bys n) := by
  refine ⟨?_, ?_⟩
  · show n % 256 + 256 * (n / 256 % 256 + 256 * (n / 256 / 256 % 256 + 256 * (n / 256 / 256 / 256 % 256 + 256 * (n / 256 / 256 / 256 / 256 % 256 + 256 * (n / 256 / 256 / 256 / 256 / 256 % 256 + 256 * (n / 256 / 256 / 256 / 256 / 256 / 256 % 256 + 256 * (n / 256 / 256 / 256 / 256 / 256 / 256 / 256 % 256 + 256 * 0))))))) = n
    omega
  · intro b hb
    unfold bys at hb
    simp only [List.mem_cons, List.not_mem_nil, or_false] at hb
    rcases hb with h | h | h | h | h | h | h | h <;> rw [h] <;> exact Nat.mod_lt _ (by decide)
theorem shru (n k : Nat) (hk : k < 64) (hn : n < 2 ^ 64) {s : UInt64} (hs : s.toBitVec = BitVec.ofNat 64 k) : (Int64.toUInt64 (nL n) >>> s).toInt64 = nL (n / 2 ^ k) := by
  apply Int64.toBitVec_inj.mp
  apply BitVec.eq_of_toNat_eq
  show ((Int64.toUInt64 (nL n) >>> s).toBitVec).toNat = (BitVec.ofNat 64 (n / 2 ^ k)).toNat
  rw [UInt64.toBitVec_shiftRight, hs]
  have e : (BitVec.ofNat 64 k % 64#64) = BitVec.ofNat 64 k := by
    apply BitVec.eq_of_toNat_eq
    rw [BitVec.toNat_umod, BitVec.toNat_ofNat, BitVec.toNat_ofNat]
    have : k % 2 ^ 64 = k := Nat.mod_eq_of_lt (by omega)
    rw [this]
    exact Nat.mod_eq_of_lt hk
  show ((nL n).toBitVec >>> (BitVec.ofNat 64 k % 64#64)).toNat = _
  rw [e, BitVec.ushiftRight_eq', BitVec.toNat_ushiftRight, Nat.shiftRight_eq_div_pow, BitVec.toNat_ofNat, BitVec.toNat_ofNat, Nat.mod_eq_of_lt (show k < 2 ^ 64 by omega)]
  show (BitVec.ofNat 64 n).toNat / 2 ^ k = _
  rw [BitVec.toNat_ofNat, Nat.mod_eq_of_lt hn]
  have : n / 2 ^ k < 2 ^ 64 := Nat.lt_of_le_of_lt (Nat.div_le_self _ _) hn
  rw [Nat.mod_eq_of_lt this]
