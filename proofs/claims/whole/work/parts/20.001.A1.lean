/-! BITS OF A BURST: its rule, the addresses and lanes of its beats. -/
def bI (b : Bool) : Int32 := if b = true then nI 1 else nI 0
theorem bI_t : bI true = nI 1 := rfl
theorem bI_f : bI false = nI 0 := rfl
theorem bI_eq0 (b : Bool) : (bI b = nI 0) ↔ b = false := by cases b <;> decide
theorem bI_eq1 (b : Bool) : (bI b = nI 1) ↔ b = true := by cases b <;> decide
theorem bI_ok (b : Bool) : (bI b = nI 0 ∨ bI b = nI 1) ↔ True := by cases b <;> decide
theorem z_or0 : (nI 0 = nI 0 ∨ nI 0 = nI 1) ↔ True := by decide
theorem z_or1 : (nI 1 = nI 0 ∨ nI 1 = nI 1) ↔ True := by decide
theorem all_lt (c : Int64) : leN c * szN c < 129 := by
  have h1 := leN_le c
  have h2 := szN_le c
  have := Nat.mul_le_mul h1 h2
  omega
theorem all_pos (c : Int64) : 0 < leN c * szN c := Nat.mul_pos (leN_pos c) (szN_pos c)
/-- the rule that a burst breaks, 0 for none -/
def ruN (c : Int64) : Nat :=
  if kiN c = 3 then 3
  else if kiN c = 2 ∧ (¬ (leN c = 2 ∨ leN c = 4 ∨ leN c = 8 ∨ leN c = 16) ∨ adN c % szN c ≠ 0) then 4
  else if kiN c = 1 ∧ (adN c - adN c % szN c + leN c * szN c - 1) / 4096 ≠ adN c / 4096 then 5
  else if exN c = 1 ∧ (kiN c = 0 ∨ (leN c * szN c) &&& (leN c * szN c - 1) ≠ 0 ∨ 128 < leN c * szN c ∨ adN c % (leN c * szN c) ≠ 0) then 6
  else 0
theorem bc_ok : ∀ n : Fin 129, 0 < n.1 → ((f_Integer_bitCount (fun _ => .inr 0) (fun _ _ => 0, fun _ _ => 0, fun _ _ => none) (nI n.1)).map (fun q => q.1)) = some (if n.1 &&& (n.1 - 1) = 0 then nI 1 else nI 2) ∨ ((n.1 &&& (n.1 - 1)) ≠ 0 ∧ ((f_Integer_bitCount (fun _ => .inr 0) (fun _ _ => 0, fun _ _ => 0, fun _ _ => none) (nI n.1)).map (fun q => decide (q.1 = nI 1))) = some false) := by decide +kernel
theorem e_bitCount (Γ : gm_T) (φ : ph_T) {n : Nat} (h0 : 0 < n) (h : n < 129) : ∃ v, f_Integer_bitCount Γ φ (nI n) = some (v, φ) ∧ (v = nI 1 ↔ n &&& (n - 1) = 0) := by
  refine ⟨_, rfl, ?_⟩
  have := bc_ok ⟨n, h⟩ h0
  simp only at this
  rcases this with h1 | h1
  · have h2 := Option.some.inj h1
    by_cases hc : n &&& (n - 1) = 0
    · rw [if_pos hc] at h2
      exact ⟨fun _ => hc, fun _ => h2⟩
    · rw [if_neg hc] at h2
      refine ⟨fun h3 => ?_, fun h3 => absurd h3 hc⟩
      exact absurd (h2.symm.trans h3) (by decide)
  · have h2 := Option.some.inj h1.2
    exact ⟨fun h3 => absurd h3 (of_decide_eq_false h2), fun h3 => absurd h3 h1.1⟩
theorem e_breaksWrap (Γ : gm_T) (φ : ph_T) (c : Int64) : f_Burst_breaksWrap Γ φ c = some (bI (decide (¬ (leN c = 2 ∨ leN c = 4 ∨ leN c = 8 ∨ leN c = 16) ∨ adN c % szN c ≠ 0)), φ) := by
  have hl := leN_le c
  have hl0 := leN_pos c
  have hs := szN_le c
  have hs0 := szN_pos c
  have ha := adN_lt c
  have hm : adN c % szN c ≤ adN c := Nat.mod_le _ _
  have L32 : ∀ b : Bool, f_Burst_breaksWrap_L32 Γ φ c (bI b) = some (bI (decide (b = false ∨ adN c % szN c ≠ 0)), φ) := by
    intro b
    unfold f_Burst_breaksWrap_L32 f_Burst_breaksWrap_L49 f_Burst_breaksWrap_L54
    simp (disch := omega) only [e_Burst_bytesOf, e_Burst_addressOf, Option.bind_some, zI_lit, zI_eq, zI_mul, zI_modn, zI_div, z_or0, z_or1, if_true, bI_eq0]
    rw [if_neg (show ¬ szN c = 0 by omega)]
    by_cases hz : adN c % szN c = 0
    · cases b <;> simp [hz, bI]
    · cases b <;> simp [hz, bI]
  unfold f_Burst_breaksWrap f_Burst_breaksWrap_L27
  rw [show (1 : Int32) = bI true from rfl, show (0 : Int32) = bI false from rfl]
  simp (disch := omega) only [L32, e_Burst_lengthOf, Option.bind_some, zI_lit, zI_eq]
  by_cases q1 : leN c = 2
  · simp [q1, L32]
  by_cases q2 : leN c = 4
  · simp [q2, L32]
  by_cases q3 : leN c = 8
  · simp [q3, L32]
  by_cases q4 : leN c = 16
  · simp [q4, L32]
  simp [q1, q2, q3, q4, L32]
theorem e_Burst_brokenRule (Γ : gm_T) (φ : ph_T) (c : Int64) : f_Burst_brokenRule Γ φ c = some (nI (ruN c), φ) := by
  have hk := kiN_lt c
  have hl := leN_le c
  have hl0 := leN_pos c
  have hs := szN_le c
  have hs0 := szN_pos c
  have ha := adN_lt c
  have hx := exN_lt c
  have hal := all_lt c
  have hal0 := all_pos c
  obtain ⟨v, hv, hv1⟩ := e_bitCount Γ φ hal0 hal
  have hm : adN c % szN c ≤ adN c := Nat.mod_le _ _
  have hm2 : adN c % (leN c * szN c) ≤ adN c := Nat.mod_le _ _
  unfold f_Burst_brokenRule ruN
  simp (disch := omega) only [e_Burst_kindOf, Option.bind_some, zI_lit, zI_le, zI_eq]
  by_cases h3 : kiN c = 3
  · simp only [h3]; rfl
  rw [if_pos (by omega), if_neg h3]
  have L40 : f_Burst_brokenRule_L40 Γ φ c = some (nI (if exN c = 1 ∧ (kiN c = 0 ∨ (leN c * szN c) &&& (leN c * szN c - 1) ≠ 0 ∨ 128 < leN c * szN c ∨ adN c % (leN c * szN c) ≠ 0) then 6 else 0), φ) := by
    unfold f_Burst_brokenRule_L40 f_Burst_brokenRule_L57 f_Burst_breaksExclusive f_Burst_breaksExclusive_L41 f_Burst_breaksExclusive_L46
    simp (disch := omega) only [e_Burst_kindOf, e_Burst_isExclusive, e_Burst_lengthOf, e_Burst_bytesOf, e_Burst_addressOf, Option.bind_some, zI_lit, zI_le, zI_eq, zI_mul, zI_lt, zI_modn, zI_div, hv, hv1, z_or0, z_or1, if_true]
    by_cases he : exN c = 0
    · simp [he]
    · have he1 : exN c = 1 := by omega
      simp only [he1]
      by_cases hk0 : kiN c = 0
      · simp (disch := omega) [hk0, zI_eq]
      · by_cases hp : (leN c * szN c) &&& (leN c * szN c - 1) = 0
        · by_cases h128 : 128 < leN c * szN c
          · simp (disch := omega) [hk0, hp, h128, zI_eq]
          · by_cases hz : adN c % (leN c * szN c) = 0
            · simp (disch := omega) [hk0, hp, h128, zI_eq, hz, show leN c * szN c ≠ 0 by omega]
            · simp (disch := omega) [hk0, hp, h128, zI_eq, hz, show leN c * szN c ≠ 0 by omega]
        · simp (disch := omega) [hk0, hp, zI_eq]
  have L26 : f_Burst_brokenRule_L26 Γ φ c (nI (kiN c)) = some (nI (if kiN c = 1 ∧ (adN c - adN c % szN c + leN c * szN c - 1) / 4096 ≠ adN c / 4096 then 5
  else if exN c = 1 ∧ (kiN c = 0 ∨ (leN c * szN c) &&& (leN c * szN c - 1) ≠ 0 ∨ 128 < leN c * szN c ∨ adN c % (leN c * szN c) ≠ 0) then 6
  else 0), φ) := by
    unfold f_Burst_brokenRule_L26 f_Burst_breaksPage f_Burst_breaksPage_L45
    simp (disch := omega) only [e_Burst_kindOf, e_Burst_isExclusive, e_Burst_lengthOf, e_Burst_bytesOf, e_Burst_addressOf, Option.bind_some, zI_lit, zI_le, zI_eq, zI_mul, zI_lt, zI_modn, zI_div, zI_sub, zI_add, z_or0, z_or1, if_true, L40]
    by_cases h1 : kiN c = 1
    · by_cases h5 : (adN c - adN c % szN c + leN c * szN c - 1) / 4096 = adN c / 4096
      · simp (disch := omega) [h1, h5, zI_eq, show szN c ≠ 0 by omega, L40]
      · simp (disch := omega) [h1, h5, zI_eq, show szN c ≠ 0 by omega, L40]
    · simp [h1]
  have hW := e_breaksWrap Γ φ c
  simp (disch := omega) only [hW, Option.bind_some, bI_eq0, L26]
  by_cases h2 : kiN c = 2
  · by_cases hz : ¬ (leN c = 2 ∨ leN c = 4 ∨ leN c = 8 ∨ leN c = 16) ∨ adN c % szN c ≠ 0
    · simp only [h2, hz, if_true, and_self, decide_true]; rfl
    · simp only [h2, hz, if_true, and_false, decide_false, if_false]
  · simp only [h2, if_false, false_and]
theorem e_Ref_breaks (Γ : gm_T) (φ : ph_T) (c : Int64) : f_Ref_breaks Γ φ c = some (nI (ruN c), φ) := by
  have hk := kiN_lt c
  have hl := leN_le c
  have hl0 := leN_pos c
  have hs := szN_le c
  have hs0 := szN_pos c
  have ha := adN_lt c
  have hx := exN_lt c
  have hal := all_lt c
  have hal0 := all_pos c
  have hm : adN c % szN c ≤ adN c := Nat.mod_le _ _
  have hm2 : adN c % (leN c * szN c) ≤ adN c := Nat.mod_le _ _
  have hm3 : (leN c * szN c) &&& (leN c * szN c - 1) ≤ leN c * szN c := Nat.and_le_left
  have L105 : f_Ref_breaks_L105 Γ φ c (nI (adN c)) (nI (leN c * szN c)) = some (nI (if exN c = 1 ∧ (kiN c = 0 ∨ (leN c * szN c) &&& (leN c * szN c - 1) ≠ 0 ∨ 128 < leN c * szN c ∨ adN c % (leN c * szN c) ≠ 0) then 6 else 0), φ) := by
    unfold f_Ref_breaks_L105 f_Ref_breaks_L120 f_Ref_breaks_L162 f_Ref_breaks_L157 f_Ref_breaks_L163
    simp (disch := omega) only [e_Ref_kindOf, e_Ref_isAlone, e_Ref_lengthOf, e_Ref_sizeOf, e_Ref_addressOf, Option.bind_some, zI_lit, zI_le, zI_eq, zI_mul, zI_lt, zI_modn, zI_div, zI_sub, zI_and]
    by_cases he : exN c = 0
    · simp [he]
    · have he1 : exN c = 1 := by omega
      simp only [he1]
      by_cases hk0 : kiN c = 0
      · simp (disch := omega) [hk0, zI_eq]
      · by_cases hp : (leN c * szN c) &&& (leN c * szN c - 1) = 0
        · by_cases h128 : 128 < leN c * szN c
          · simp (disch := omega) [hk0, hp, h128, zI_eq]
          · by_cases hz : adN c % (leN c * szN c) = 0
            · simp (disch := omega) [hk0, hp, h128, zI_eq, hz, show leN c * szN c ≠ 0 by omega]
            · simp (disch := omega) [hk0, hp, h128, zI_eq, hz, show leN c * szN c ≠ 0 by omega]
        · simp (disch := omega) [hk0, hp, zI_eq]
  have L70 : f_Ref_breaks_L70 Γ φ c (nI (szN c)) (nI (adN c)) (nI (leN c * szN c)) = some (nI (if kiN c = 1 ∧ (adN c - adN c % szN c + leN c * szN c - 1) / 4096 ≠ adN c / 4096 then 5
  else if exN c = 1 ∧ (kiN c = 0 ∨ (leN c * szN c) &&& (leN c * szN c - 1) ≠ 0 ∨ 128 < leN c * szN c ∨ adN c % (leN c * szN c) ≠ 0) then 6
  else 0), φ) := by
    unfold f_Ref_breaks_L70
    simp (disch := omega) only [e_Ref_kindOf, Option.bind_some, zI_lit, zI_le, zI_eq, zI_mul, zI_lt, zI_modn, zI_div, zI_sub, zI_add, L105]
    by_cases h1 : kiN c = 1
    · by_cases h5 : (adN c - adN c % szN c + leN c * szN c - 1) / 4096 = adN c / 4096
      · simp (disch := omega) [h1, h5, zI_eq, show szN c ≠ 0 by omega]
      · simp (disch := omega) [h1, h5, zI_eq, show szN c ≠ 0 by omega]
    · simp [h1]
  have L61 : f_Ref_breaks_L61 Γ φ c (nI (szN c)) (nI (adN c)) (nI (leN c * szN c)) = if adN c % szN c = 0 then some (nI (if kiN c = 1 ∧ (adN c - adN c % szN c + leN c * szN c - 1) / 4096 ≠ adN c / 4096 then 5
  else if exN c = 1 ∧ (kiN c = 0 ∨ (leN c * szN c) &&& (leN c * szN c - 1) ≠ 0 ∨ 128 < leN c * szN c ∨ adN c % (leN c * szN c) ≠ 0) then 6
  else 0), φ) else some (nI 4, φ) := by
    unfold f_Ref_breaks_L61 f_Ref_breaks_L68
    simp (disch := omega) only [zI_lit, zI_eq, zI_mul, zI_modn, zI_div, L70]
    rw [if_neg (show ¬ szN c = 0 by omega)]
  unfold f_Ref_breaks ruN f_Ref_breaks_L68
  simp (disch := omega) only [e_Ref_kindOf, e_Ref_lengthOf, e_Ref_sizeOf, e_Ref_addressOf, Option.bind_some, zI_lit, zI_eq, zI_mul, L70, L61]
  by_cases h3 : kiN c = 3
  · simp only [h3]; rfl
  by_cases h2 : kiN c = 2
  · by_cases hz : adN c % szN c = 0
    · by_cases hq : leN c = 2 ∨ leN c = 4 ∨ leN c = 8 ∨ leN c = 16
      · rcases hq with h | h | h | h <;> simp (disch := omega) [h, h2, hz, zI_eq, show szN c ≠ 0 by omega]
      · have q1 : leN c ≠ 2 := by omega
        have q2 : leN c ≠ 4 := by omega
        have q3 : leN c ≠ 8 := by omega
        have q4 : leN c ≠ 16 := by omega
        simp (disch := omega) [q1, q2, q3, q4, h2, zI_eq]
    · simp (disch := omega) [hz, zI_eq, h2, show szN c ≠ 0 by omega]
  · simp [h2, h3]
/-- the address of a beat -/
def baN (c : Int64) (k : Nat) : Nat :=
  if kiN c = 1 ∧ 0 < k then adN c - adN c % szN c + k * szN c
  else if kiN c = 2 then (adN c - adN c % (leN c * szN c)) + (adN c - (adN c - adN c % (leN c * szN c)) + k * szN c) % (leN c * szN c)
  else adN c
theorem baN_lt (c : Int64) {k : Nat} (hk : k < 256) : baN c k < 100000 := by
  have hs := szN_le c
  have ha := adN_lt c
  have hal := all_lt c
  have hal0 := all_pos c
  have h1 : k * szN c ≤ 256 * 8 := Nat.mul_le_mul (by omega) hs
  have h2 := Nat.mod_lt (adN c - (adN c - adN c % (leN c * szN c)) + k * szN c) hal0
  unfold baN
  split
  · omega
  · split <;> omega
theorem e_Burst_beatAddress (Γ : gm_T) (φ : ph_T) (c : Int64) {k : Nat} (hk : k < 256) : f_Burst_beatAddress Γ φ c (nI k) = some (nI (baN c k), φ) := by
  have hki := kiN_lt c
  have hs := szN_le c
  have hs0 := szN_pos c
  have ha := adN_lt c
  have hal := all_lt c
  have hal0 := all_pos c
  have h1 : k * szN c ≤ 256 * 8 := Nat.mul_le_mul (by omega) hs
  have hm : adN c % szN c ≤ adN c := Nat.mod_le _ _
  have hm2 : adN c % (leN c * szN c) ≤ adN c := Nat.mod_le _ _
  have hm4 : (adN c - (adN c - adN c % (leN c * szN c)) + k * szN c) % (leN c * szN c) < leN c * szN c := Nat.mod_lt _ hal0
  unfold f_Burst_beatAddress f_Burst_beatAddress_L39 baN
  simp (disch := omega) only [e_Burst_kindOf, e_Burst_lengthOf, e_Burst_bytesOf, e_Burst_addressOf, Option.bind_some, zI_lit, zI_le, zI_eq, zI_mul, zI_lt, zI_modn, zI_div, zI_sub, zI_add]
  by_cases c1 : kiN c = 1
  · by_cases c0 : k = 0
    · subst c0; simp [c1]
    · simp [c1, c0, show szN c ≠ 0 by omega, show 0 < k by omega]
  · by_cases c2 : kiN c = 2
    · simp [c2, show leN c * szN c ≠ 0 by omega]
    · simp [c1, c2]
theorem e_Ref_beatAt (Γ : gm_T) (φ : ph_T) (c : Int64) {k : Nat} (hk : k < 256) (h3 : kiN c ≠ 3) : f_Ref_beatAt Γ φ c (nI k) = some (nI (baN c k), φ) := by
  have hki := kiN_lt c
  have hs := szN_le c
  have hs0 := szN_pos c
  have ha := adN_lt c
  have hal := all_lt c
  have hal0 := all_pos c
  have h1 : k * szN c ≤ 256 * 8 := Nat.mul_le_mul (by omega) hs
  have hm : adN c % szN c ≤ adN c := Nat.mod_le _ _
  have hm2 : adN c % (leN c * szN c) ≤ adN c := Nat.mod_le _ _
  have hm4 : (adN c - (adN c - adN c % (leN c * szN c)) + k * szN c) % (leN c * szN c) < leN c * szN c := Nat.mod_lt _ hal0
  unfold f_Ref_beatAt f_Ref_beatAt_L49 f_Ref_beatAt_L53 f_Ref_beatAt_L88 baN
  simp (disch := omega) only [e_Ref_kindOf, e_Ref_lengthOf, e_Ref_sizeOf, e_Ref_addressOf, Option.bind_some, zI_lit, zI_le, zI_eq, zI_mul, zI_lt, zI_modn, zI_div, zI_sub, zI_add]
  rw [if_neg (show ¬ (leN c * szN c = 0) by omega)]
  by_cases c1 : kiN c = 1
  · by_cases c0 : k = 0
    · subst c0; simp [c1]
    · simp [c1, c0, show szN c ≠ 0 by omega, show 0 < k by omega]
  · by_cases c2 : kiN c = 2
    · simp [c2, show leN c * szN c ≠ 0 by omega]
    · simp [c1, c2, show kiN c = 0 by omega]
/-- the lanes from x to its boundary of n -/
def laN (x n : Nat) : Nat := 2 ^ ((x - x % n + n - 1) % 8 + 1) - 2 ^ (x % 8)
def orF : Nat → Nat → Nat
  | 0, _ => 0
  | d + 1, y => 2 ^ (y % 8) ||| orF d (y + 1)
theorem orF_mod (d : Nat) : ∀ y, orF d y = orF d (y % 8) := by
  induction d with
  | zero => intro y; rfl
  | succ d ih =>
    intro y
    unfold orF
    rw [ih (y + 1), ih (y % 8 + 1), Nat.mod_mod]
    congr 2
    omega
theorem orF_la : ∀ r : Fin 8, ∀ e : Fin 4, orF (2 ^ e.1 - r.1 % 2 ^ e.1) r.1 = 2 ^ ((r.1 - r.1 % 2 ^ e.1 + 2 ^ e.1 - 1) % 8 + 1) - 2 ^ (r.1 % 8) := by decide +kernel
theorem laN_mod (x : Nat) {n : Nat} (hn : n = 1 ∨ n = 2 ∨ n = 4 ∨ n = 8) : laN x n = laN (x % 8) n := by
  unfold laN
  have h1 : (x - x % n + n - 1) % 8 = (x % 8 - x % 8 % n + n - 1) % 8 := by
    rcases hn with h | h | h | h <;> subst h <;> omega
  rw [h1, Nat.mod_mod]
theorem orF_laN (x : Nat) {n : Nat} (hn : n = 1 ∨ n = 2 ∨ n = 4 ∨ n = 8) : orF (n - x % n) x = laN x n := by
  have h0 : x % n = x % 8 % n := by rcases hn with h | h | h | h <;> subst h <;> omega
  rw [orF_mod, laN_mod x hn, h0]
  have hr : x % 8 < 8 := Nat.mod_lt _ (by omega)
  generalize x % 8 = r at hr
  rcases hn with h | h | h | h <;> subst h
  · exact orF_la ⟨r, hr⟩ ⟨0, by omega⟩
  · exact orF_la ⟨r, hr⟩ ⟨1, by omega⟩
  · exact orF_la ⟨r, hr⟩ ⟨2, by omega⟩
  · exact orF_la ⟨r, hr⟩ ⟨3, by omega⟩
theorem la_b : ∀ r : Fin 8, ∀ e : Fin 4, 2 ^ ((r.1 - r.1 % 2 ^ e.1 + 2 ^ e.1 - 1) % 8 + 1) - 2 ^ (r.1 % 8) < 256 := by decide +kernel
theorem laN_lt (x : Nat) {n : Nat} (hn : n = 1 ∨ n = 2 ∨ n = 4 ∨ n = 8) : laN x n < 256 := by
  rw [laN_mod x hn]
  unfold laN
  have hr : x % 8 < 8 := Nat.mod_lt _ (by omega)
  generalize x % 8 = r at hr
  rcases hn with h | h | h | h <;> subst h
  · exact la_b ⟨r, hr⟩ ⟨0, by omega⟩
  · exact la_b ⟨r, hr⟩ ⟨1, by omega⟩
  · exact la_b ⟨r, hr⟩ ⟨2, by omega⟩
  · exact la_b ⟨r, hr⟩ ⟨3, by omega⟩
theorem e_Ref_lanesOf_L4 (Γ : gm_T) (φ : ph_T) {x n : Nat} (hx : x < 2 ^ 20) (hn0 : 0 < n) (hn : n ≤ 8) : ∀ d y a fu, y + d = x - x % n + n → d < fu → f_Ref_lanesOf_L4 Γ fu φ (nI x) (nI n) (nI a) (nI y) = some (nI (a ||| orF d y), φ) := by
  intro d
  have hm : x % n ≤ x := Nat.mod_le _ _
  induction d with
  | zero =>
    intro y a fu h1 h2
    match fu, h2 with
    | fu + 1, _ =>
      unfold f_Ref_lanesOf_L4 orF
      simp (disch := omega) only [zI_lit, zI_le, zI_eq, zI_mul, zI_lt, zI_modn, zI_div, zI_sub, zI_add]
      rw [if_neg (by omega), if_pos (by omega)]
      simp
  | succ d ih =>
    intro y a fu h1 h2
    match fu, h2 with
    | fu + 1, h2 =>
      unfold f_Ref_lanesOf_L4
      have hy8 : y % 8 < 8 := Nat.mod_lt _ (by omega)
      have hsh : nI 1 <<< (nI (y % 8) &&& nI 31) = nI (2 ^ (y % 8)) := by
        generalize y % 8 = r at hy8
        match r, hy8 with
        | 0, _ => decide
        | 1, _ => decide
        | 2, _ => decide
        | 3, _ => decide
        | 4, _ => decide
        | 5, _ => decide
        | 6, _ => decide
        | 7, _ => decide
      simp (disch := omega) only [zI_lit, zI_le, zI_eq, zI_mul, zI_lt, zI_modn, zI_div, zI_add, zI_sub, zN_mod, hsh, zI_or]
      rw [if_neg (by omega), if_neg (by omega), if_neg (by omega)]
      rw [ih (y + 1) _ fu (by omega) (by omega)]
      simp only [orF, Nat.or_assoc]
theorem e_Ref_lanesOf (Γ : gm_T) (φ : ph_T) {x n : Nat} (hx : x < 2 ^ 20) (hn : n = 1 ∨ n = 2 ∨ n = 4 ∨ n = 8) : f_Ref_lanesOf Γ φ (nI x) (nI n) = some (nI (laN x n), φ) := by
  unfold f_Ref_lanesOf
  have hm : x % n < n := Nat.mod_lt _ (by omega)
  have hm1 : x % n ≤ x := Nat.mod_le _ _
  rw [zI_0, e_Ref_lanesOf_L4 Γ φ hx (by omega) (by omega) (n - x % n) x 0 jF (by omega) (by unfold jF; omega)]
  rw [orF_laN x hn]
  simp
theorem la_cls : ∀ r : Fin 8, ∀ l : Fin 8, r.1 ≤ l.1 → (nI 2 <<< (nI l.1 &&& nI 31)) - (nI 1 <<< (nI r.1 &&& nI 31)) = nI (2 ^ (l.1 + 1) - 2 ^ r.1) := by decide +kernel
theorem la_le (x : Nat) {n : Nat} (hn : n = 1 ∨ n = 2 ∨ n = 4 ∨ n = 8) : x % 8 ≤ (x - x % n + n - 1) % 8 := by
  rcases hn with h | h | h | h <;> subst h <;> omega
theorem and7 (x : Nat) : x &&& 7 = x % 8 := Nat.and_two_pow_sub_one_eq_mod x 3
theorem e_Burst_beatLanes (Γ : gm_T) (φ : ph_T) (c : Int64) {k : Nat} (hk : k < 256) : f_Burst_beatLanes Γ φ c (nI k) = some (nI (laN (baN c k) (szN c)), φ) := by
  unfold f_Burst_beatLanes laN
  have hb := baN_lt c hk
  have hs := szN_le c
  have hs0 := szN_pos c
  have hm : baN c k % szN c ≤ baN c k := Nat.mod_le _ _
  have hle := la_le (baN c k) (szN_cases c)
  simp (disch := omega) only [e_Burst_beatAddress Γ φ c hk, e_Burst_bytesOf, Option.bind_some, zI_lit, zI_le, zI_eq, zI_mul, zI_lt, zI_modn, zI_div, zI_sub, zI_add]
  rw [if_neg (by omega), zI_and (baN c k - baN c k % szN c + szN c - 1) 7, zI_and (baN c k) 7, and7, and7]
  rw [la_cls ⟨baN c k % 8, Nat.mod_lt _ (by omega)⟩ ⟨(baN c k - baN c k % szN c + szN c - 1) % 8, Nat.mod_lt _ (by omega)⟩ hle]
