/-! THE CONSTRUCTORS: the reference -/
def XS0 : XS := fun i => match i with
  | 0 => (show Nat from 0)
  | 1 => (show Nat from 0)
  | 2 => (show Nat from 0)
  | 3 => (show Nat from 0)
  | 4 => (show Bool from false)
  | 5 => (show Nat from 0)
  | 6 => (show Nat from 0)
  | 7 => (show Nat from 0)
  | 8 => (show Nat → Nat from fun _ => 0)
  | 9 => (show Nat → Nat → Nat from fun _ _ => 0)
  | 10 => (show Nat → Nat → Nat from fun _ _ => 0)
  | 11 => (show Nat → Bool from fun _ => false)
  | 12 => (show Nat → Nat from fun _ => 0)
  | 13 => (show Nat → Nat from fun _ => 0)
  | 14 => (show Nat → Nat from fun _ => 0)
  | 15 => (show Nat → Bool from fun _ => false)
  | 16 => (show List TK from [])
  | 17 => (show Nat → WI from fun _ => WI0)
  | 18 => (show Nat → Nat → Int32 from fun _ _ => 0)
  | 19 => (show Nat → List RE from fun _ => [])
  | 20 => (show List UE from [])
  | 21 => (show List UE from [])
  | 22 => (show Nat → Option Nat from fun _ => none)
  | 23 => (show Nat → Option Nat from fun _ => none)
  | 24 => (show Nat → Option Nat from fun _ => none)
  | 25 => (show Nat → Option Nat from fun _ => none)
  | 26 => (show Nat → Bool from fun _ => false)
  | 27 => (show Nat → List WE from fun _ => [])
  | 28 => (show Nat → List QE from fun _ => [])
  | 29 => (show Nat → Nat from fun _ => 0)
  | 30 => (show Nat → Option (Nat × Nat) from fun _ => none)
  | 31 => (show Nat → Option Nat from fun _ => none)
  | 32 => (show Nat → Option Nat from fun _ => none)
  | 33 => (show Nat → Nat → Option (Nat × Nat) from fun _ _ => none)
  | 34 => (show Nat → MO from fun _ => MO0)
  | 35 => (show Nat from 0)
  | _ + 36 => ()
def MOz : MO := ((MO0.w_chan (0)).w_tick (0))
def XSi (nm ns lim : Nat) : XS := ((((XS0.w_nm nm).w_ns ns).w_lim lim).w_mon (fun _ => MOz)).w_wi (fun _ => WI0)
def clN (x : Int32) (m : Nat) : Nat := if (1 : Int32) ≤ x then (if x ≤ nI m then toN x else m) else 1
theorem cl_in {x : Int32} {m : Nat} (h1 : (1 : Int32) ≤ x) (h2 : x ≤ nI m) (hm : m < 2 ^ 31) : 1 ≤ toN x ∧ toN x ≤ m ∧ toN x < 2 ^ 31 := by
  have e := nI_toN x
  have hlt : toN x < 2 ^ 31 := by
    rcases Nat.lt_or_ge (toN x) (2 ^ 31) with h | h
    · exact h
    · exfalso
      have h3 : x.toInt < 0 := by
        have : x.toInt = x.toBitVec.toInt := rfl
        rw [this, BitVec.toInt_eq_toNat_cond]
        have h4 : x.toBitVec.toNat = toN x := rfl
        have h5 := toN_lt x
        rw [h4, if_neg (by omega)]
        omega
      have h6 := Int32.le_iff_toInt_le.mp h1
      rw [show (1 : Int32).toInt = 1 from by decide] at h6
      omega
  rw [← e] at h1 h2
  rw [zI_le hlt hm] at h2
  rw [show (1 : Int32) = nI 1 from rfl, zI_le (by omega) hlt] at h1
  exact ⟨h1, h2, hlt⟩
theorem cl_bd (x : Int32) {m : Nat} (h0 : 1 ≤ m) (hm : m < 2 ^ 31) : 1 ≤ clN x m ∧ clN x m ≤ m := by
  unfold clN
  by_cases h1 : (1 : Int32) ≤ x
  · rw [if_pos h1]
    by_cases h2 : x ≤ nI m
    · rw [if_pos h2]
      have := cl_in h1 h2 hm
      exact ⟨this.1, this.2.1⟩
    · rw [if_neg h2]; exact ⟨h0, Nat.le_refl _⟩
  · rw [if_neg h1]; exact ⟨Nat.le_refl _, h0⟩
theorem e_near (Γ : gm_T) (φ : ph_T) (x : Int32) (m : Nat) : f_Ref_near Γ φ x (nI m) = some (nI (clN x m), φ) := by
  unfold f_Ref_near f_Ref_near_L19 clN
  by_cases h1 : (1 : Int32) ≤ x
  · rw [if_pos h1, if_pos h1]
    by_cases h2 : x ≤ nI m
    · rw [if_pos h2, if_pos h2, nI_toN]
    · rw [if_neg h2, if_neg h2]
  · rw [if_neg h1, if_neg h1]
    rfl
theorem e_nearest (Γ : gm_T) (φ : ph_T) (x : Int32) {m : Nat} (h0 : 1 ≤ m) (hm : m < 2 ^ 31) : f_Bus_nearest Γ φ x (nI m) = some (nI (clN x m), φ) := by
  unfold f_Bus_nearest f_Math_min f_Math_max f_Math_min_L10 f_Math_max_L10 clN
  have k1 : ∀ a b : Int32, (a < b) = ¬ (b ≤ a) := fun a b => propext (Int32.not_le).symm
  by_cases h1 : (1 : Int32) ≤ x
  · rw [if_pos h1]
    by_cases h2 : x ≤ nI m
    · rw [if_pos h2, if_neg (by rw [k1]; exact not_not_intro h2), Option.bind_some]
      obtain ⟨c1, c2, c3⟩ := cl_in h1 h2 hm
      by_cases h3 : (1 : Int32) < x
      · rw [if_pos h3, Option.bind_some, nI_toN]
      · rw [if_neg h3, Option.bind_some]
        rw [k1] at h3
        have h4 : x ≤ 1 := Classical.not_not.mp h3
        have : x = 1 := Int32.le_antisymm h4 h1
        rw [this]
        rfl
    · rw [if_neg h2, if_pos (by rw [k1]; exact h2), Option.bind_some]
      by_cases h3 : (1 : Int32) < nI m
      · rw [if_pos h3, Option.bind_some]
      · rw [if_neg h3, Option.bind_some]
        have : m = 1 := by
          rw [show (1 : Int32) = nI 1 from rfl, zI_lt (by omega) hm] at h3
          omega
        rw [this]
        rfl
  · rw [if_neg h1]
    have hx : ¬ nI m < x := by
      rw [k1]
      intro h
      apply h
      have h5 : x < 1 := by rw [k1]; exact h1
      have h6 : (1 : Int32) ≤ nI m := by rw [show (1 : Int32) = nI 1 from rfl, zI_le (by omega) hm]; exact h0
      exact Int32.le_of_lt (Int32.lt_of_lt_of_le h5 h6)
    rw [if_neg hx, Option.bind_some, if_neg (by
      intro h
      exact h1 (Int32.le_of_lt h)), Option.bind_some]
    rfl
def RLa : List (Nat × Nat × Nat) := RLt.map (fun q => (q.1, q.2.2.1, q.2.2.2))
def kRef (a : Nat) (p0 p1 p2 : Int32) : gm_T → ph_T → Nat → Option (mq_T Unit) := fun Γ φ n =>
  Option.bind (f_Ref_near Γ φ p0 (4 : Int32)) fun q456 =>
  Option.bind (f_Ref_near Γ (uI q456.2 a 1 q456.1) p1 (4 : Int32)) fun q457 =>
  Option.bind (f_Ref_near Γ (uI q457.2 a 2 q457.1) p2 (8 : Int32)) fun q458 =>
  Option.bind (f_Ref_clear Γ (uI q458.2 a 3 q458.1) a) fun q459 =>
  some ((), (Γ, q459.2, n), (0, 0))
theorem ref_mk (Γ : gm_T) (φ : ph_T) (a : Nat) (p0 p1 p2 : Int32) : f_Ref_init Γ φ (a + 1) a p0 p1 p2 = mkA a 12 (kRef a p0 p1 p2) RLa Γ φ (a + 1) := by
  rfl
