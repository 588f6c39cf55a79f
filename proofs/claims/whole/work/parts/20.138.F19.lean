/-! THE FACE: bits are counted, as the JDK does -/
def jA (p : Int64) : Int64 := p - (((Int64.toUInt64 p >>> (Int64.toUInt64 (Int32.toInt64 (1 : Int32)) &&& Int64.toUInt64 63)).toInt64) &&& (6148914691236517205 : Int64))
def jB (p : Int64) : Int64 := (p &&& (3689348814741910323 : Int64)) + (((Int64.toUInt64 p >>> (Int64.toUInt64 (Int32.toInt64 (2 : Int32)) &&& Int64.toUInt64 63)).toInt64) &&& (3689348814741910323 : Int64))
def jC (p : Int64) : Int64 := (p + ((Int64.toUInt64 p >>> (Int64.toUInt64 (Int32.toInt64 (4 : Int32)) &&& Int64.toUInt64 63)).toInt64)) &&& (1085102592571150095 : Int64)
def jD (p : Int64) : Int64 := p + ((Int64.toUInt64 p >>> (Int64.toUInt64 (Int32.toInt64 (8 : Int32)) &&& Int64.toUInt64 63)).toInt64)
def jE (p : Int64) : Int64 := p + ((Int64.toUInt64 p >>> (Int64.toUInt64 (Int32.toInt64 (16 : Int32)) &&& Int64.toUInt64 63)).toInt64)
def jG (p : Int64) : Int64 := p + ((Int64.toUInt64 p >>> (Int64.toUInt64 (Int32.toInt64 (32 : Int32)) &&& Int64.toUInt64 63)).toInt64)
theorem e_Lbc0 (Γ : gm_T) (φ : ph_T) (p : Int64) : f_Long_bitCount Γ φ p = some (Int64.toInt32 (jG (jE (jD (jC (jB (jA p)))))) &&& (127 : Int32), φ) := by
  unfold f_Long_bitCount jG jE jD jC jB jA
  rfl
theorem jA_n {n : Nat} (hn : n < 2 ^ 64) : jA (nL n) = nL (n - ((n / 2) &&& 6148914691236517205)) := by
  unfold jA
  rw [shru n 1 (by decide) hn (by decide), zL_lit, nL_and, nL_sub]
  exact Nat.le_trans Nat.and_le_left (Nat.div_le_self _ _)
theorem jB_n {n : Nat} (hn : n < 2 ^ 64) : jB (nL n) = nL ((n &&& 3689348814741910323) + ((n / 4) &&& 3689348814741910323)) := by
  unfold jB
  rw [shru n 2 (by decide) hn (by decide), zL_lit, nL_and, nL_and, nL_add]
theorem jC_n {n : Nat} (hn : n < 2 ^ 64) : jC (nL n) = nL ((n + n / 16) &&& 1085102592571150095) := by
  unfold jC
  rw [shru n 4 (by decide) hn (by decide), zL_lit, nL_add, nL_and]
theorem jD_n {n : Nat} (hn : n < 2 ^ 64) : jD (nL n) = nL (n + n / 256) := by
  unfold jD
  rw [shru n 8 (by decide) hn (by decide), nL_add]
theorem jE_n {n : Nat} (hn : n < 2 ^ 64) : jE (nL n) = nL (n + n / 65536) := by
  unfold jE
  rw [shru n 16 (by decide) hn (by decide), nL_add]
theorem jG_n {n : Nat} (hn : n < 2 ^ 64) : jG (nL n) = nL (n + n / 4294967296) := by
  unfold jG
  rw [shru n 32 (by decide) hn (by decide), nL_add]
theorem val_lt : ∀ l : List Nat, okB l → val l < 256 ^ l.length := by
  intro l
  induction l with
  | nil => intro _; decide
  | cons b l ih =>
    intro h
    have hb := h b (List.mem_cons_self ..)
    have := ih (fun x hx => h x (List.mem_cons_of_mem _ hx))
    show b + 256 * val l < 256 ^ (l.length + 1)
    rw [Nat.pow_succ]
    omega
theorem okB_map {l : List Nat} {f : Nat → Nat} (h : ∀ b ∈ l, f b < 256) : okB (l.map f) := by
  intro x hx
  obtain ⟨b, hb, rfl⟩ := List.mem_map.mp hx
  exact h b hb
theorem q256 (A Y : Nat) (h : A < 256) : (A + 256 * Y) / 256 = Y := by omega
theorem q16 (A Y : Nat) (h : A < 65536) : (A + 65536 * Y) / 65536 = Y := by omega
theorem q32 (A Y : Nat) (h : A < 4294967296) : (A + 4294967296 * Y) / 4294967296 = Y := by omega
theorem q7 (A Y : Nat) (h : A < 128) : (A + 256 * Y) % 128 = A := by omega
def f1 (c0 c1 c2 c3 c4 c5 c6 c7 : Nat) : Nat := c0 + 256 * (c1 + 256 * (c2 + 256 * (c3 + 256 * (c4 + 256 * (c5 + 256 * (c6 + 256 * c7))))))
theorem g1 (c0 c1 c2 c3 c4 c5 c6 c7 : Nat) (h0 : c0 < 256) : f1 c0 c1 c2 c3 c4 c5 c6 c7 + f1 c0 c1 c2 c3 c4 c5 c6 c7 / 256 = f1 (c0 + c1) (c1 + c2) (c2 + c3) (c3 + c4) (c4 + c5) (c5 + c6) (c6 + c7) c7 := by
  have : f1 c0 c1 c2 c3 c4 c5 c6 c7 / 256 = c1 + 256 * (c2 + 256 * (c3 + 256 * (c4 + 256 * (c5 + 256 * (c6 + 256 * c7))))) := q256 _ _ h0
  rw [this]
  unfold f1
  simp only [Nat.mul_add, ← Nat.mul_assoc, Nat.reduceMul]
  simp only [Nat.add_assoc, Nat.add_comm, Nat.add_left_comm]
theorem g2 (c0 c1 c2 c3 c4 c5 c6 c7 : Nat) (h0 : c0 + 256 * c1 < 65536) : f1 c0 c1 c2 c3 c4 c5 c6 c7 + f1 c0 c1 c2 c3 c4 c5 c6 c7 / 65536 = f1 (c0 + c2) (c1 + c3) (c2 + c4) (c3 + c5) (c4 + c6) (c5 + c7) c6 c7 := by
  have e : f1 c0 c1 c2 c3 c4 c5 c6 c7 = (c0 + 256 * c1) + 65536 * (c2 + 256 * (c3 + 256 * (c4 + 256 * (c5 + 256 * (c6 + 256 * c7))))) := by
    unfold f1
    simp only [Nat.mul_add, ← Nat.mul_assoc, Nat.reduceMul, Nat.add_assoc]
  have : f1 c0 c1 c2 c3 c4 c5 c6 c7 / 65536 = c2 + 256 * (c3 + 256 * (c4 + 256 * (c5 + 256 * (c6 + 256 * c7)))) := by rw [e]; exact q16 _ _ h0
  rw [this]
  unfold f1
  simp only [Nat.mul_add, ← Nat.mul_assoc, Nat.reduceMul]
  simp only [Nat.add_assoc, Nat.add_comm, Nat.add_left_comm]
theorem g3 (c0 c1 c2 c3 c4 c5 c6 c7 : Nat) (h0 : c0 + 256 * c1 + 65536 * c2 + 16777216 * c3 < 4294967296) : f1 c0 c1 c2 c3 c4 c5 c6 c7 + f1 c0 c1 c2 c3 c4 c5 c6 c7 / 4294967296 = f1 (c0 + c4) (c1 + c5) (c2 + c6) (c3 + c7) c4 c5 c6 c7 := by
  have e : f1 c0 c1 c2 c3 c4 c5 c6 c7 = (c0 + 256 * c1 + 65536 * c2 + 16777216 * c3) + 4294967296 * (c4 + 256 * (c5 + 256 * (c6 + 256 * c7))) := by
    unfold f1
    simp only [Nat.mul_add, ← Nat.mul_assoc, Nat.reduceMul, Nat.add_assoc]
  have : f1 c0 c1 c2 c3 c4 c5 c6 c7 / 4294967296 = c4 + 256 * (c5 + 256 * (c6 + 256 * c7)) := by rw [e]; exact q32 _ _ h0
  rw [this]
  unfold f1
  simp only [Nat.mul_add, ← Nat.mul_assoc, Nat.reduceMul]
  simp only [Nat.add_assoc, Nat.add_comm, Nat.add_left_comm]
theorem f1_lt {c0 c1 c2 c3 c4 c5 c6 c7 : Nat} (h0 : c0 ≤ 64) (h1 : c1 ≤ 64) (h2 : c2 ≤ 64) (h3 : c3 ≤ 64) (h4 : c4 ≤ 64) (h5 : c5 ≤ 64) (h6 : c6 ≤ 64) (h7 : c7 ≤ 64) : f1 c0 c1 c2 c3 c4 c5 c6 c7 < 2 ^ 64 := by
  have a7 : 256 * c7 ≤ 16384 := Nat.mul_le_mul_left 256 h7
  have a6 : 256 * (c6 + 256 * c7) ≤ 256 * (64 + 16384) := Nat.mul_le_mul_left _ (Nat.add_le_add h6 a7)
  have a5 : 256 * (c5 + 256 * (c6 + 256 * c7)) ≤ 256 * (64 + 256 * (64 + 16384)) := Nat.mul_le_mul_left _ (Nat.add_le_add h5 a6)
  have a4 : 256 * (c4 + 256 * (c5 + 256 * (c6 + 256 * c7))) ≤ 256 * (64 + 256 * (64 + 256 * (64 + 16384))) := Nat.mul_le_mul_left _ (Nat.add_le_add h4 a5)
  have a3 : 256 * (c3 + 256 * (c4 + 256 * (c5 + 256 * (c6 + 256 * c7)))) ≤ 256 * (64 + 256 * (64 + 256 * (64 + 256 * (64 + 16384)))) := Nat.mul_le_mul_left _ (Nat.add_le_add h3 a4)
  have a2 : 256 * (c2 + 256 * (c3 + 256 * (c4 + 256 * (c5 + 256 * (c6 + 256 * c7))))) ≤ 256 * (64 + 256 * (64 + 256 * (64 + 256 * (64 + 256 * (64 + 16384))))) := Nat.mul_le_mul_left _ (Nat.add_le_add h2 a3)
  have a1 : 256 * (c1 + 256 * (c2 + 256 * (c3 + 256 * (c4 + 256 * (c5 + 256 * (c6 + 256 * c7)))))) ≤ 256 * (64 + 256 * (64 + 256 * (64 + 256 * (64 + 256 * (64 + 256 * (64 + 16384)))))) := Nat.mul_le_mul_left _ (Nat.add_le_add h1 a2)
  exact Nat.lt_of_le_of_lt (Nat.add_le_add h0 a1) (by decide)
theorem sma2 {a b : Nat} (h0 : a ≤ 16) (h1 : b ≤ 16) : a + 256 * b < 65536 := by omega
theorem sma4 {a b c d : Nat} (h0 : a ≤ 32) (h1 : b ≤ 32) (h2 : c ≤ 32) (h3 : d ≤ 32) : a + 256 * b + 65536 * c + 16777216 * d < 4294967296 := by omega
theorem le2 {a b : Nat} (h0 : a ≤ 8) (h1 : b ≤ 8) : a + b ≤ 16 := by omega
theorem le4 {a b : Nat} (h0 : a ≤ 16) (h1 : b ≤ 16) : a + b ≤ 32 := by omega
theorem le8 {a b : Nat} (h0 : a ≤ 32) (h1 : b ≤ 32) : a + b ≤ 64 := by omega
theorem w64 {a : Nat} (h : a ≤ 32) : a ≤ 64 := by omega
theorem w16 {a : Nat} (h : a ≤ 8) : a ≤ 16 := by omega
theorem w32 {a : Nat} (h : a ≤ 16) : a ≤ 32 := by omega
theorem fin_sum {c0 c1 c2 c3 c4 c5 c6 c7 : Nat} (h0 : c0 ≤ 8) (h1 : c1 ≤ 8) (h2 : c2 ≤ 8) (h3 : c3 ≤ 8) (h4 : c4 ≤ 8) (h5 : c5 ≤ 8) (h6 : c6 ≤ 8) (h7 : c7 ≤ 8) : Int64.toInt32 (jG (jE (jD (nL (f1 c0 c1 c2 c3 c4 c5 c6 c7))))) &&& (127 : Int32) = nI (c0 + c1 + (c2 + c3) + (c4 + c5 + (c6 + c7))) := by
  have k1 := f1_lt (w64 (w32 (w16 h0))) (w64 (w32 (w16 h1))) (w64 (w32 (w16 h2))) (w64 (w32 (w16 h3))) (w64 (w32 (w16 h4))) (w64 (w32 (w16 h5))) (w64 (w32 (w16 h6))) (w64 (w32 (w16 h7)))
  rw [jD_n k1, g1 _ _ _ _ _ _ _ _ (Nat.lt_of_le_of_lt h0 (by decide))]
  have a01 := le2 h0 h1
  have a12 := le2 h1 h2
  have a23 := le2 h2 h3
  have a34 := le2 h3 h4
  have a45 := le2 h4 h5
  have a56 := le2 h5 h6
  have a67 := le2 h6 h7
  have a7 := w16 h7
  have k2 := f1_lt (w64 (w32 a01)) (w64 (w32 a12)) (w64 (w32 a23)) (w64 (w32 a34)) (w64 (w32 a45)) (w64 (w32 a56)) (w64 (w32 a67)) (w64 (w32 a7))
  rw [jE_n k2, g2 _ _ _ _ _ _ _ _ (sma2 a01 a12)]
  have b0 := le4 a01 a23
  have b1 := le4 a12 a34
  have b2 := le4 a23 a45
  have b3 := le4 a34 a56
  have b4 := le4 a45 a67
  have b5 := le4 a56 a7
  have k3 := f1_lt (w64 b0) (w64 b1) (w64 b2) (w64 b3) (w64 b4) (w64 b5) (w64 (w32 a67)) (w64 (w32 a7))
  rw [jG_n k3, g3 _ _ _ _ _ _ _ _ (sma4 b0 b1 b2 b3)]
  have k4 := f1_lt (le8 b0 b4) (le8 b1 b5) (le8 b2 (w32 a67)) (le8 b3 (w32 a7)) (w64 b4) (w64 b5) (w64 (w32 a67)) (w64 (w32 a7))
  rw [show (127 : Int32) = nI (2 ^ 7 - 1) from rfl, zL_cls0 _ (by decide), uN_nL k4]
  congr 1
  exact q7 _ _ (Nat.lt_of_le_of_lt (le8 b0 b4) (by decide))
theorem e_Lbc (Γ : gm_T) (φ : ph_T) {n : Nat} (hn : n < 2 ^ 64) : f_Long_bitCount Γ φ (nL n) = some (nI (bc 64 n), φ) := by
  obtain ⟨v1, v2⟩ := bys_val hn
  have hlen : (bys n).length = 8 := rfl
  obtain ⟨a1, a2⟩ := s1_val (bys n) v2
  rw [v1, hlen, show rep 85 8 = 6148914691236517205 from by decide] at a1 a2
  have ok1 : okB ((bys n).map t1) := okB_map (fun b hb => (t_dec ⟨b, v2 b hb⟩).1)
  have b2 := s2_val _ ok1
  rw [List.length_map, hlen, show rep 51 8 = 3689348814741910323 from by decide] at b2
  have ok2 : ∀ b ∈ ((bys n).map t1).map t2, b ≤ 68 ∧ b % 16 ≤ 4 := by
    intro x hx
    obtain ⟨y, hy, rfl⟩ := List.mem_map.mp hx
    obtain ⟨b, hb, rfl⟩ := List.mem_map.mp hy
    have d := t_dec ⟨b, v2 b hb⟩
    exact ⟨d.2.2.2.1, d.2.2.2.2.1⟩
  have c2 := s3_val _ ok2
  rw [List.length_map, List.length_map, hlen, show rep 15 8 = 1085102592571150095 from by decide] at c2
  have hpc : (((bys n).map t1).map t2).map t3 = (bys n).map (bc 8) := by
    rw [List.map_map, List.map_map]
    apply List.map_congr_left
    intro b hb
    exact (t_dec ⟨b, v2 b hb⟩).2.2.2.2.2.1
  have l1 : val ((bys n).map t1) < 2 ^ 64 := by
    have := val_lt _ ok1
    rw [List.length_map, hlen] at this
    exact this
  have l2 : val (((bys n).map t1).map t2) < 2 ^ 64 := by
    have := val_lt (((bys n).map t1).map t2) (fun b hb => by have := (ok2 b hb).1; omega)
    rw [List.length_map, List.length_map, hlen] at this
    exact this
  have hle : ∀ k, bc 8 (k % 256) ≤ 8 := fun k => (t_dec ⟨k % 256, Nat.mod_lt _ (by decide)⟩).2.2.2.2.2.2
  rw [e_Lbc0, jA_n hn, a2, jB_n l1, b2, jC_n l2, c2, hpc]
  have hs := bc_val (bys n) v2
  rw [v1, hlen] at hs
  rw [show bc 64 n = ((bys n).map (bc 8)).sum from hs]
  have em : val ((bys n).map (bc 8)) = f1 (bc 8 (n % 256)) (bc 8 (n / 256 % 256)) (bc 8 (n / 256 / 256 % 256)) (bc 8 (n / 256 / 256 / 256 % 256)) (bc 8 (n / 256 / 256 / 256 / 256 % 256)) (bc 8 (n / 256 / 256 / 256 / 256 / 256 % 256)) (bc 8 (n / 256 / 256 / 256 / 256 / 256 / 256 % 256)) (bc 8 (n / 256 / 256 / 256 / 256 / 256 / 256 / 256 % 256)) := rfl
  have es : ((bys n).map (bc 8)).sum = (bc 8 (n % 256)) + (bc 8 (n / 256 % 256)) + ((bc 8 (n / 256 / 256 % 256)) + (bc 8 (n / 256 / 256 / 256 % 256))) + ((bc 8 (n / 256 / 256 / 256 / 256 % 256)) + (bc 8 (n / 256 / 256 / 256 / 256 / 256 % 256)) + ((bc 8 (n / 256 / 256 / 256 / 256 / 256 / 256 % 256)) + (bc 8 (n / 256 / 256 / 256 / 256 / 256 / 256 / 256 % 256)))) := by
    unfold bys
    simp only [List.map_cons, List.map_nil, List.sum_cons, List.sum_nil, Nat.add_zero, Nat.add_assoc]
  rw [em, es, fin_sum (hle n) (hle (n / 256)) (hle (n / 256 / 256)) (hle (n / 256 / 256 / 256)) (hle (n / 256 / 256 / 256 / 256)) (hle (n / 256 / 256 / 256 / 256 / 256)) (hle (n / 256 / 256 / 256 / 256 / 256 / 256)) (hle (n / 256 / 256 / 256 / 256 / 256 / 256 / 256))]
