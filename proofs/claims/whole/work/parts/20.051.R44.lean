/-! a read's bytes -/
theorem la_bits : ∀ (h l i : Fin 8), l.1 ≤ h.1 → Nat.testBit (2 ^ (h.1 + 1) - 2 ^ l.1) i.1 = decide (l.1 ≤ i.1 ∧ i.1 ≤ h.1) := by decide +kernel
theorem la_bit (x : Nat) {n i : Nat} (hn : n = 1 ∨ n = 2 ∨ n = 4 ∨ n = 8) (hi : i < 8) : Nat.testBit (laN x n) i = decide (x % 8 ≤ i ∧ i < x % 8 + (n - x % n)) := by
  have h1 := la_le x hn
  have h2 : (x - x % n + n - 1) % 8 < 8 := Nat.mod_lt _ (by omega)
  have h3 : x % 8 < 8 := Nat.mod_lt _ (by omega)
  have h4 := la_bits ⟨_, h2⟩ ⟨_, h3⟩ ⟨i, hi⟩ h1
  unfold laN
  rw [show Nat.testBit (2 ^ ((x - x % n + n - 1) % 8 + 1) - 2 ^ (x % 8)) i = decide (x % 8 ≤ i ∧ i ≤ (x - x % n + n - 1) % 8) from h4]
  congr 1
  apply propext
  rcases hn with hn | hn | hn | hn <;> subst hn <;> omega
theorem la_end (x : Nat) {n : Nat} (hn : n = 1 ∨ n = 2 ∨ n = 4 ∨ n = 8) : x % 8 + (n - x % n) ≤ 8 ∧ 0 < n - x % n := by
  rcases hn with hn | hn | hn | hn <;> subst hn <;> omega
theorem spoB_la (spo : Nat → Bool) (x : Nat) {n : Nat} (hn : n = 1 ∨ n = 2 ∨ n = 4 ∨ n = 8) : spoB spo x (laN x n) = (List.range' x (n - x % n)).any spo := by
  have he := la_end x hn
  unfold spoB
  rw [Bool.eq_iff_iff, List.any_eq_true, List.any_eq_true]
  constructor
  · rintro ⟨i, hi, h⟩
    rw [List.mem_range] at hi
    rw [la_bit x hn hi] at h
    simp only [Bool.and_eq_true, decide_eq_true_eq] at h
    exact ⟨x - x % 8 + i, by rw [List.mem_range'_1]; omega, h.2⟩
  · rintro ⟨y, hy, h⟩
    rw [List.mem_range'_1] at hy
    refine ⟨x % 8 + (y - x), by rw [List.mem_range]; omega, ?_⟩
    rw [la_bit x hn (by omega), decide_eq_true (by omega), Bool.true_and, show x - x % 8 + (x % 8 + (y - x)) = y by omega]
    exact h
def ldS (mem : Nat → Nat) : Nat → Nat → Nat → Nat
  | 0, _, a => a
  | d + 1, y, a => ldS mem d (y + 1) (a + mem y * 2 ^ (8 * (y % 8)))
theorem fold_no {f : Nat → Nat → Nat} : ∀ (l : List Nat) (a : Nat), (∀ i ∈ l, ∀ a, f a i = a) → l.foldl f a = a := by
  intro l
  induction l with
  | nil => intro a _; rfl
  | cons i l ih =>
    intro a h
    rw [List.foldl_cons, h i (List.mem_cons_self ..), ih a (fun j hj => h j (List.mem_cons_of_mem _ hj))]
theorem fold_ldS (mem : Nat → Nat) (x st : Nat) : ∀ d i a, i + d ≤ 8 → (∀ j, i ≤ j → j < i + d → Nat.testBit st j = true) → (List.range' i d).foldl (fun a i => if Nat.testBit st i = true then a + mem (x - x % 8 + i) * 2 ^ (8 * i) else a) a = ldS mem d (x - x % 8 + i) a := by
  intro d
  induction d with
  | zero => intro i a _ _; rfl
  | succ d ih =>
    intro i a hi hb
    rw [List.range'_succ, List.foldl_cons, if_pos (hb i (Nat.le_refl _) (by omega)), ih (i + 1) _ (by omega) (fun j h1 h2 => hb j (by omega) (by omega)), ldS, show (x - x % 8 + i) % 8 = i by omega]
    rfl
theorem ldB_la (mem : Nat → Nat) (x : Nat) {n : Nat} (hn : n = 1 ∨ n = 2 ∨ n = 4 ∨ n = 8) : ldB mem x (laN x n) = ldS mem (n - x % n) x 0 := by
  have he := la_end x hn
  unfold ldB
  rw [List.range_eq_range', show 8 = x % 8 + ((n - x % n) + (8 - (x % 8 + (n - x % n)))) by omega, ← List.range'_append_1, ← List.range'_append_1, List.foldl_append, List.foldl_append, Nat.zero_add, ← show 8 = x % 8 + ((n - x % n) + (8 - (x % 8 + (n - x % n)))) by omega]
  rw [fold_no (List.range' 0 (x % 8))]
  · rw [fold_ldS mem x (laN x n) (n - x % n) (x % 8) 0 he.1 (fun j h1 h2 => by rw [la_bit x hn (by omega), decide_eq_true (by omega)]), fold_no, show x - x % 8 + x % 8 = x by omega]
    intro i hi a
    rw [List.mem_range'_1] at hi
    rw [la_bit x hn (by omega), decide_eq_false (by omega)]
    simp
  · intro i hi a
    rw [List.mem_range'_1] at hi
    rw [la_bit x hn (by omega), decide_eq_false (by omega)]
    simp
theorem nL_or (a b : Nat) : nL a ||| nL b = nL (a ||| b) := by
  apply Int64.toBitVec_inj.mp
  rw [Int64.toBitVec_or]
  unfold nL
  rw [Int64.toBitVec_ofNat', Int64.toBitVec_ofNat', Int64.toBitVec_ofNat', BitVec.ofNat_or]
theorem or_add {a b k : Nat} (ha : a < 2 ^ k) : a ||| (b * 2 ^ k) = a + b * 2 ^ k := by
  rw [Nat.or_comm, Nat.add_comm, ← Nat.shiftLeft_eq, Nat.shiftLeft_add_eq_or_of_lt ha]
theorem e_isSpoilt_L {Γ : gm_T} {φ : ph_T} {r : Nat} {mem : Nat → Nat} {spo : Nat → Bool} (hl : RL Γ φ r) (hm : VMem (φ.1 (r + 7)) (φ.1 (r + 8)) mem spo) {x n : Nat} (hx : x < 65536) (hn : n = 1 ∨ n = 2 ∨ n = 4 ∨ n = 8) : ∀ d y b fu, y + d = x - x % n + n → d < fu →
    f_Ref_isSpoilt_L20 Γ fu φ r (nI x) (nI n) (bI b) (nI y) = some (bI (b || (List.range' y d).any spo), φ) := by
  have he := la_end x hn
  have hxm : x - x % n + n ≤ 65536 := by rcases hn with hn | hn | hn | hn <;> subst hn <;> omega
  intro d
  induction d with
  | zero =>
    intro y b fu hd hfu
    match fu, hfu with
    | fu + 1, _ =>
      rw [f_Ref_isSpoilt_L20, if_neg (by rw [zI_0, zI_eq (by omega) (by omega)]; omega), zI_mod (by omega) (by omega), zI_sub (Nat.mod_le _ _), zI_add, if_pos (by rw [zI_le (by omega) (by omega)]; omega), zI_0, zI_1, if_pos (by cases b <;> decide)]
      simp
  | succ d ih =>
    intro y b fu hd hfu
    match fu, hfu with
    | fu + 1, hfu =>
      have hy := (hm y (by omega)).2
      rw [f_Ref_isSpoilt_L20, if_neg (by rw [zI_0, zI_eq (by omega) (by omega)]; omega), zI_mod (by omega) (by omega), zI_sub (Nat.mod_le _ _), zI_add, if_neg (by rw [zI_le (by omega) (by omega)]; omega)]
      unfold f_Ref_isSpoilt_L51 f_Ref_isSpoilt_L56
      rw [zI_1, zI_add]
      have i0 := ih (y + 1) false fu (by omega) (by omega)
      have i1 := ih (y + 1) true fu (by omega) (by omega)
      rw [bI_f] at i0
      rw [bI_t] at i1
      rw [List.range'_succ, List.any_cons]
      cases b with
      | true =>
        rw [if_neg (by decide), i1, Bool.true_or, Bool.true_or]
      | false =>
        rw [if_pos (by rfl), if_pos hl.o, rf_14 hl, Option.bind_some, rg_14 hl, Option.bind_some, zix (by omega), Option.bind_some, hy, Bool.false_or]
        cases spo y with
        | true => rw [if_neg (by decide), i1, Bool.true_or]
        | false => rw [if_pos (by rfl), zI_0, i0]
theorem e_isSpoilt {Γ : gm_T} {φ : ph_T} {r : Nat} {mem : Nat → Nat} {spo : Nat → Bool} (hl : RL Γ φ r) (hm : VMem (φ.1 (r + 7)) (φ.1 (r + 8)) mem spo) {c : Int64} {k : Nat} (hr : ruN c = 0) (hk : k < leN c) : f_Ref_isSpoilt Γ φ r c (nI k) = some (bI (spoR spo c k), φ) := by
  have hle := leN_le c
  have hn := szN_cases c
  have hx := ba_ok hr hk
  have hs := szN_le c
  have hp := szN_pos c
  have hmo := Nat.mod_lt (baN c k) hp
  have hml := Nat.mod_le (baN c k) (szN c)
  unfold f_Ref_isSpoilt
  rw [e_Ref_beatAt Γ φ c (by omega) (ru_kind hr), Option.bind_some, e_Ref_sizeOf, Option.bind_some, zI_0, ← bI_f, e_isSpoilt_L hl hm hx hn (szN c - baN c k % szN c) (baN c k) false jF (by omega) (by unfold jF; omega), Bool.false_or, spoR, spoB_la spo _ hn]
