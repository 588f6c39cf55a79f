/-! THE FACE: bytes are spoilt -/
def tbL (x : Int64) (i : Nat) : Bool := (uN x).testBit i
theorem tbL_and (x y : Int64) (i : Nat) : tbL (x &&& y) i = (tbL x i && tbL y i) := by
  unfold tbL uN
  rw [Int64.toBitVec_and, BitVec.toNat_and, Nat.testBit_and]
theorem tbL_or (x y : Int64) (i : Nat) : tbL (x ||| y) i = (tbL x i || tbL y i) := by
  unfold tbL uN
  rw [Int64.toBitVec_or, BitVec.toNat_or, Nat.testBit_or]
theorem tbL_xor (x y : Int64) (i : Nat) : tbL (x ^^^ y) i = (tbL x i ^^ tbL y i) := by
  unfold tbL uN
  rw [Int64.toBitVec_xor, BitVec.toNat_xor, Nat.testBit_xor]
theorem tbL_m1 {i : Nat} (hi : i < 64) : tbL (-1) i = true := by
  unfold tbL
  rw [show uN (-1 : Int64) = 2 ^ 64 - 1 from by decide, Nat.testBit_two_pow_sub_one]
  exact decide_eq_true hi
theorem m1_nL : (-1 : Int64) = nL (2 ^ 64 - 1) := by decide
theorem tbL_shl {s i : Nat} (hs : s < 64) (hi : i < 64) : tbL ((-1 : Int64) <<< nL s) i = decide (s ≤ i) := by
  unfold tbL
  rw [m1_nL, nL_shl hs]
  have e : uN (nL ((2 ^ 64 - 1) * 2 ^ s)) = ((2 ^ 64 - 1) * 2 ^ s) % 2 ^ 64 := by
    show (BitVec.ofNat 64 ((2 ^ 64 - 1) * 2 ^ s)).toNat = _
    rw [BitVec.toNat_ofNat]
  rw [e, Nat.testBit_mod_two_pow, decide_eq_true hi, Bool.true_and, ← Nat.shiftLeft_eq, Nat.testBit_shiftLeft, Nat.testBit_two_pow_sub_one]
  by_cases h : s ≤ i
  · rw [decide_eq_true h, decide_eq_true (show i - s < 64 by omega)]; simp [h]
  · rw [decide_eq_false h]; simp [h]
theorem tbL_shr {t i : Nat} (ht : t < 64) {s : UInt64} (hs : s.toBitVec = BitVec.ofNat 64 t) : tbL ((Int64.toUInt64 (-1 : Int64) >>> s).toInt64) i = decide (i + t < 64) := by
  unfold tbL
  rw [m1_nL, shru _ t ht (by decide) hs, uN_nL (Nat.lt_of_le_of_lt (Nat.div_le_self _ _) (by decide)), ← Nat.shiftRight_eq_div_pow, Nat.testBit_shiftRight, Nat.testBit_two_pow_sub_one, Nat.add_comm]
theorem sh63 {n : Nat} (hn : n < 2 ^ 31) : nI n &&& (63 : Int32) = nI (n % 64) := by
  rw [show (63 : Int32) = nI (2 ^ 6 - 1) from rfl, zI_and, Nat.and_two_pow_sub_one_eq_mod]
theorem shu_t : ∀ t : Fin 64, (Int64.toUInt64 (Int32.toInt64 (nI t.1)) &&& Int64.toUInt64 63).toBitVec = BitVec.ofNat 64 t.1 := by decide +kernel
/-- the bytes that are spoilt anew -/
def pS (spo : Nat → Bool) (a e : Nat) (on : Bool) (y : Nat) : Bool := decide (a ≤ y ∧ y < e) && (spo y != on)
def spW (spo : Nat → Bool) (a e : Nat) (on : Bool) (u : Nat) (y : Nat) : Bool := if a ≤ y ∧ y < e ∧ y < u then on else spo y
theorem cnt_stop (spo : Nat → Bool) (a e : Nat) (on : Bool) : ∀ d, (List.range (e + d)).countP (pS spo a e on) = (List.range e).countP (pS spo a e on) := by
  intro d
  induction d with
  | zero => rfl
  | succ d ih =>
    rw [← Nat.add_assoc, List.range_succ, List.countP_append, ih, List.countP_cons, List.countP_nil]
    have : pS spo a e on (e + d) = false := by
      unfold pS
      rw [decide_eq_false (by omega)]; rfl
    rw [this]
    rfl
theorem cnt_zero (spo : Nat → Bool) {a e u : Nat} (on : Bool) (h : u ≤ a) : (List.range u).countP (pS spo a e on) = 0 := by
  rw [List.countP_eq_zero]
  intro y hy hh
  have := List.mem_range.mp hy
  unfold pS at hh
  rw [decide_eq_false (by omega)] at hh
  cases hh
theorem cnt_le (p : Nat → Bool) (u : Nat) : (List.range u).countP p ≤ u := by
  have := List.countP_le_length (p := p) (l := List.range u)
  rw [List.length_range] at this
  exact this
/-- one word of marks -/
theorem mark_word {before B new : Int64} {spo : Nat → Bool} {a e w : Nat} {on : Bool} (hb : ∀ i, i < 64 → tbL before i = spo (64 * w + i)) (hB : ∀ i, i < 64 → tbL B i = decide (a ≤ 64 * w + i ∧ 64 * w + i < e)) (hn : new = if on = true then before ||| B else before &&& (B ^^^ (-1 : Int64))) :
    (∀ i, i < 64 → tbL new i = if a ≤ 64 * w + i ∧ 64 * w + i < e then on else spo (64 * w + i)) ∧ bc 64 (uN (before ^^^ new)) = (List.range 64).countP (fun i => pS spo a e on (64 * w + i)) := by
  have h1 : ∀ i, i < 64 → tbL new i = if a ≤ 64 * w + i ∧ 64 * w + i < e then on else spo (64 * w + i) := by
    intro i hi
    rw [hn]
    cases on with
    | true =>
      rw [if_pos rfl, tbL_or, hb i hi, hB i hi]
      by_cases g : a ≤ 64 * w + i ∧ 64 * w + i < e
      · rw [decide_eq_true g, if_pos g, Bool.or_true]
      · rw [decide_eq_false g, if_neg g, Bool.or_false]
    | false =>
      rw [if_neg (by decide), tbL_and, tbL_xor, tbL_m1 hi, hb i hi, hB i hi]
      by_cases g : a ≤ 64 * w + i ∧ 64 * w + i < e
      · rw [decide_eq_true g, if_pos g]; simp
      · rw [decide_eq_false g, if_neg g]; simp
  refine ⟨h1, ?_⟩
  rw [bc_count]
  apply List.countP_congr
  intro i hi
  have hi := List.mem_range.mp hi
  have : (uN (before ^^^ new)).testBit i = pS spo a e on (64 * w + i) := by
    show tbL (before ^^^ new) i = _
    rw [tbL_xor, hb i hi, h1 i hi]
    unfold pS
    by_cases g : a ≤ 64 * w + i ∧ 64 * w + i < e
    · rw [if_pos g, decide_eq_true g]
      cases spo (64 * w + i) <;> cases on <;> rfl
    · rw [if_neg g, decide_eq_false g]
      cases spo (64 * w + i) <;> rfl
  rw [this]
theorem range_64 (w : Nat) (p : Nat → Bool) : (List.range (64 * (w + 1))).countP p = (List.range (64 * w)).countP p + (List.range 64).countP (fun i => p (64 * w + i)) := by
  rw [show 64 * (w + 1) = 64 * w + 64 by omega, List.range_add, List.countP_append, List.countP_map]
  rfl
theorem CMem.spo {Γ : gm_T} {φ : ph_T} {am : Nat} {mem : Nat → Nat} {spo : Nat → Bool} (h : CMem Γ φ am mem spo) {w : Nat} (hw : w < 1024) : ∀ i, i < 64 → tbL (φ.2.1 (am + 2) w) i = spo (64 * w + i) := by
  intro i hi
  have := h.s (64 * w + i) (by omega)
  rw [show (64 * w + i) / 64 = w by omega, show (64 * w + i) % 64 = i by omega] at this
  exact this
theorem c_mark_L {Γ : gm_T} {am a e n1 : Nat} {mem : Nat → Nat} {spo : Nat → Bool} {on : Bool} (hae : a < e) (he : e ≤ 65536) : ∀ (d w fu : Nat) (φ : ph_T), w + d = (e - 1) / 64 + 1 → a / 64 ≤ w → d < fu → CMem Γ φ am mem (spW spo a e on (64 * w)) →
    ∃ φ', f_Memory_mark_L27 Γ fu φ am (nI a) (bI on) (nI (e - 1)) (nI (a / 64)) (nI ((e - 1) / 64)) (nI ((List.range (64 * w)).countP (pS spo a e on))) (nI w) = some (nI ((List.range (64 * ((e - 1) / 64 + 1))).countP (pS spo a e on)), φ') ∧ CMem Γ φ' am mem (spW spo a e on (64 * ((e - 1) / 64 + 1))) ∧ Fr am (am + 3) φ φ' := by
  intro d
  induction d with
  | zero =>
    intro w fu φ hd hw hfu h
    match fu, hfu with
    | fu + 1, _ =>
      have hwe : w = (e - 1) / 64 + 1 := by omega
      subst hwe
      refine ⟨φ, ?_, h, Fr.refl _ _ _⟩
      rw [f_Memory_mark_L27, if_pos (by rw [zI_lt (by omega) (by omega)]; omega)]
  | succ d ih =>
    intro w fu φ hd hw hfu h
    match fu, hfu with
    | fu + 1, hfu =>
      have hw2 : w ≤ (e - 1) / 64 := by omega
      have hw1024 : w < 1024 := by omega
      have hsp0 : ∀ i, i < 64 → spW spo a e on (64 * w) (64 * w + i) = spo (64 * w + i) := by
        intro i hi
        unfold spW
        rw [if_neg (by omega)]
      have hbef : ∀ i, i < 64 → tbL (φ.2.1 (am + 2) w) i = spo (64 * w + i) := fun i hi => (h.spo hw1024 i hi).trans (hsp0 i hi)
      have hkey : ∀ B : Int64, (∀ i, i < 64 → tbL B i = decide (a ≤ 64 * w + i ∧ 64 * w + i < e)) → ∃ φ', f_Memory_mark_L83 Γ (f_Memory_mark_L27 Γ fu) φ am (nI a) (bI on) (nI (e - 1)) (nI (a / 64)) (nI ((e - 1) / 64)) (nI ((List.range (64 * w)).countP (pS spo a e on))) (nI w) B = some (nI ((List.range (64 * ((e - 1) / 64 + 1))).countP (pS spo a e on)), φ') ∧ CMem Γ φ' am mem (spW spo a e on (64 * ((e - 1) / 64 + 1))) ∧ Fr am (am + 3) φ φ' := by
        intro B hB
        obtain ⟨new, hnew⟩ : ∃ new, new = if on = true then φ.2.1 (am + 2) w ||| B else φ.2.1 (am + 2) w &&& (B ^^^ (-1 : Int64)) := ⟨_, rfl⟩
        obtain ⟨m1', m2'⟩ := mark_word hbef hB hnew
        have f1 : Fr am (am + 3) φ (uL φ (am + 2) w new) := fr_uL (Fr.refl _ _ _) (by omega) _ _
        have h1 : CMem Γ (uL φ (am + 2) w new) am mem (spW spo a e on (64 * (w + 1))) := by
          refine ⟨h.o, h.f0, h.f1, h.g0, h.g1, ?_, ?_⟩
          · intro y hy
            rw [show (uL φ (am + 2) w new).2.1 (am + 1) = φ.2.1 (am + 1) from if_neg (by omega)]
            exact h.w y hy
          · intro y hy
            rw [uL_s, vz_at]
            by_cases g : y / 64 = w
            · rw [if_pos g]
              have := m1' (y % 64) (Nat.mod_lt _ (by decide))
              rw [show 64 * w + y % 64 = y by omega] at this
              refine this.trans ?_
              unfold spW
              by_cases g2 : a ≤ y ∧ y < e
              · rw [if_pos g2, if_pos (by omega)]
              · rw [if_neg g2, if_neg (by omega)]
            · rw [if_neg g]
              have := h.s y hy
              rw [this]
              unfold spW
              by_cases g2 : a ≤ y ∧ y < e ∧ y < 64 * w
              · rw [if_pos g2, if_pos (by omega)]
              · rw [if_neg g2, if_neg (by omega)]
        obtain ⟨φ', b1, b2, b3⟩ := ih (w + 1) fu _ (by omega) (by omega) (by omega) h1
        refine ⟨φ', ?_, b2, f1.trans b3⟩
        have hcl := cnt_le (pS spo a e on) (64 * w)
        have hL119 : f_Memory_mark_L119 Γ (f_Memory_mark_L27 Γ fu) φ am (nI a) (bI on) (nI (e - 1)) (nI (a / 64)) (nI ((e - 1) / 64)) (nI ((List.range (64 * w)).countP (pS spo a e on))) (nI w) (φ.2.1 (am + 2) w) new (nI w) (some (am + 2)) = some (nI ((List.range (64 * ((e - 1) / 64 + 1))).countP (pS spo a e on)), φ') := by
          unfold f_Memory_mark_L119
          rw [Option.bind_some, h.g1, Option.bind_some, zix (by omega), Option.bind_some, if_pos h.o, h.f1, Option.bind_some, h.g1, Option.bind_some, zix (by omega), Option.bind_some, uL_s, vz_same]
          have hx : f_Long_bitCount Γ (uL φ (am + 2) w new) (φ.2.1 (am + 2) w ^^^ new) = some (nI (bc 64 (uN (φ.2.1 (am + 2) w ^^^ new))), uL φ (am + 2) w new) := by
            have := e_Lbc Γ (uL φ (am + 2) w new) (n := uN (φ.2.1 (am + 2) w ^^^ new)) (φ.2.1 (am + 2) w ^^^ new).toBitVec.isLt
            rw [nL_uN] at this
            exact this
          rw [hx, Option.bind_some, m2', zI_add, ← range_64, show nI w + (1 : Int32) = nI (w + 1) from by rw [zI_1, zI_add]]
          exact b1
        unfold f_Memory_mark_L83
        rw [if_pos h.o, h.f1, Option.bind_some, h.g1, Option.bind_some, zix (by omega), Option.bind_some]
        cases on with
        | true =>
          rw [if_neg (by decide)]
          rw [if_pos rfl] at hnew
          rw [← hnew]
          exact hL119
        | false =>
          rw [if_pos (by decide)]
          rw [if_neg (by decide)] at hnew
          rw [← hnew]
          exact hL119
      have hL59 : ∀ B : Int64, (∀ i, i < 64 → tbL B i = decide (a ≤ 64 * w + i)) → ∃ φ', f_Memory_mark_L59 Γ (f_Memory_mark_L27 Γ fu) φ am (nI a) (bI on) (nI (e - 1)) (nI (a / 64)) (nI ((e - 1) / 64)) (nI ((List.range (64 * w)).countP (pS spo a e on))) (nI w) B = some (nI ((List.range (64 * ((e - 1) / 64 + 1))).countP (pS spo a e on)), φ') ∧ CMem Γ φ' am mem (spW spo a e on (64 * ((e - 1) / 64 + 1))) ∧ Fr am (am + 3) φ φ' := by
        intro B hB
        unfold f_Memory_mark_L59
        by_cases g : w = (e - 1) / 64
        · rw [if_pos (by rw [g])]
          refine hkey _ (fun i hi => ?_)
          rw [sh63 (by omega), show (63 : Int32) = nI 63 from rfl, zI_sub (by omega)]
          rw [tbL_and, hB i hi, tbL_shr (t := 63 - (e - 1) % 64) (by omega) (shu_t ⟨63 - (e - 1) % 64, by omega⟩), ← Bool.decide_and]
          exact decide_eq_decide.mpr (by omega)
        · rw [if_neg (by rw [zI_eq (by omega) (by omega)]; exact g)]
          refine hkey _ (fun i hi => ?_)
          rw [hB i hi]
          exact decide_eq_decide.mpr (by omega)
      rw [f_Memory_mark_L27, if_neg (by rw [zI_lt (by omega) (by omega)]; omega)]
      by_cases g : w = a / 64
      · rw [if_pos (by rw [g])]
        refine hL59 _ (fun i hi => ?_)
        rw [sh63 (by omega), sh_l (by omega), tbL_and, tbL_m1 hi, Bool.true_and, tbL_shl (by omega) hi]
        exact decide_eq_decide.mpr (by omega)
      · rw [if_neg (by rw [zI_eq (by omega) (by omega)]; exact g)]
        refine hL59 _ (fun i hi => ?_)
        rw [tbL_m1 hi]
        exact (decide_eq_true (by omega)).symm
theorem c_mark {Γ : gm_T} {φ : ph_T} {am a n : Nat} {mem : Nat → Nat} {spo : Nat → Bool} {on : Bool} (h : CMem Γ φ am mem spo) (hn : 1 ≤ n) (he : a + n ≤ 65536) :
    ∃ φ', f_Memory_mark Γ φ am (nI a) (nI n) (bI on) = some (nI ((List.range (a + n)).countP (pS spo a (a + n) on)), φ') ∧ CMem Γ φ' am mem (spW spo a (a + n) on 65536) ∧ Fr am (am + 3) φ φ' := by
  have h0 : CMem Γ φ am mem (spW spo a (a + n) on (64 * (a / 64))) := ⟨h.o, h.f0, h.f1, h.g0, h.g1, h.w, fun y hy => by
    rw [h.s y hy]
    unfold spW
    rw [if_neg (by omega)]⟩
  obtain ⟨φ', a1, a2, a3⟩ := c_mark_L (Γ := Γ) (n1 := 0) (on := on) (spo := spo) (show a < a + n by omega) he ((a + n - 1) / 64 + 1 - a / 64) (a / 64) jF φ (by omega) (Nat.le_refl _) (by unfold jF; omega) h0
  refine ⟨φ', ?_, ⟨a2.o, a2.f0, a2.f1, a2.g0, a2.g1, a2.w, fun y hy => ?_⟩, a3⟩
  · unfold f_Memory_mark
    rw [e_spoWordOf Γ φ (by omega), Option.bind_some, zI_add, zI_1, zI_sub (by omega), e_spoWordOf Γ φ (by omega), Option.bind_some]
    rw [cnt_zero spo on (by omega)] at a1
    rw [show 64 * ((a + n - 1) / 64 + 1) = (a + n) + (64 * ((a + n - 1) / 64 + 1) - (a + n)) by omega, cnt_stop] at a1
    exact a1
  · rw [a2.s y hy]
    unfold spW
    by_cases g : a ≤ y ∧ y < a + n
    · rw [if_pos (by omega), if_pos (by omega)]
    · rw [if_neg (by omega), if_neg (by omega)]
