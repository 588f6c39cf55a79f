/-! THE CONSTRUCTORS: arrays of an object -/
def mkA (a ci : Nat) (k : gm_T → ph_T → Nat → Option (mq_T Unit)) : List (Nat × Nat × Nat) → gm_T → ph_T → Nat → Option (mq_T Unit)
  | [], Γ, φ, n => k Γ φ n
  | q :: l, Γ, φ, n => mR Γ φ n q.2.1 (nI q.2.2) fun Γ1 φ1 n1 => if Γ1 a = .inr ci then mkA a ci k l Γ1 (uR φ1 a q.1 (some n)) n1 else none
theorem mA_mA {α : Type} (c s c' s' : Nat) (x : Option (mq_T α)) : mA c s (mA c' s' x) = mA (c + c') (s + s') x := by
  cases x with
  | none => rfl
  | some q => unfold mA; simp only [Nat.add_assoc]
theorem mA_0 {α : Type} (x : Option (mq_T α)) : mA 0 0 x = x := by
  cases x with
  | none => rfl
  | some q => unfold mA; simp only [Nat.zero_add]
theorem mkA_ok {a ci : Nat} {k : gm_T → ph_T → Nat → Option (mq_T Unit)} : ∀ (l : List (Nat × Nat × Nat)) (Γ : gm_T) (φ : ph_T) (n : Nat), Γ a = .inr ci → a < n → Zr n φ → (∀ q ∈ l, q.2.2 ≤ 67108864) → (l.map Prod.fst).Nodup →
    ∃ Γ' φ', mkA a ci k l Γ φ n = mA l.length (l.map (fun q => q.2.2)).sum (k Γ' φ' (n + l.length)) ∧ (∀ b, b < n → Γ' b = Γ b) ∧ φ'.1 = φ.1 ∧ φ'.2.1 = φ.2.1 ∧ (∀ b, b ≠ a → φ'.2.2 b = φ.2.2 b) ∧ (∀ g, g ∉ l.map Prod.fst → φ'.2.2 a g = φ.2.2 a g) ∧ ∀ (j : Nat) (q : Nat × Nat × Nat), l[j]? = some q → φ'.2.2 a q.1 = some (n + j) ∧ Γ' (n + j) = .inl (q.2.1, q.2.2) := by
  intro l
  induction l with
  | nil =>
    intro Γ φ n h ha z _ _
    refine ⟨Γ, φ, ?_, fun _ _ => rfl, rfl, rfl, fun _ _ => rfl, fun _ _ => rfl, (fun j q hq => by cases hq)⟩
    exact (mA_0 _).symm
  | cons q l ih =>
    intro Γ φ n h ha z hs hd
    have hd' := List.nodup_cons.mp hd
    obtain ⟨Γ', φ', a1, a2, a3, a4, a5, a6, a7⟩ := ih (va_up Γ n (.inl (q.2.1, q.2.2))) (uR φ a q.1 (some n)) (n + 1) (by rw [vz_ne _ (by omega)]; exact h) (by omega) (zr_uR (z.mono (by omega)) (by omega) _ _) (fun x hx => hs x (List.mem_cons_of_mem _ hx)) hd'.2
    refine ⟨Γ', φ', ?_, ?_, a3, a4, ?_, ?_, ?_⟩
    · show mR Γ φ n q.2.1 (nI q.2.2) _ = _
      rw [mR_ok z _ _ (hs q (List.mem_cons_self ..)), if_pos (by rw [vz_ne _ (by omega)]; exact h), a1, mA_mA, List.length_cons, List.map_cons, List.sum_cons, show n + 1 + l.length = n + (l.length + 1) by omega, Nat.add_comm 1 l.length]
    · intro b hb
      rw [a2 b (by omega), vz_ne _ (by omega)]
    · intro b hb
      rw [a5 b hb, uR_3, if_neg hb]
    · intro g hg
      have h1 : g ≠ q.1 := fun e => hg (by rw [e]; exact List.mem_cons_self ..)
      rw [a6 g (fun hm => hg (List.mem_cons_of_mem _ hm)), uR_s, vz_ne _ h1]
    · intro j x hx
      cases j with
      | zero =>
        have : q = x := Option.some.inj hx
        subst this
        refine ⟨?_, ?_⟩
        · rw [a6 q.1 hd'.1, uR_s, vz_same]; rfl
        · rw [a2 (n + 0) (by omega)]; exact vz_same _ _ _
      | succ j =>
        have := a7 j x hx
        rw [show n + 1 + j = n + (j + 1) by omega] at this
        exact this
/-- as an object at a, arrays from a + 1 -/
theorem mkA_at {a ci : Nat} {k : gm_T → ph_T → Nat → Option (mq_T Unit)} (l : List (Nat × Nat × Nat)) {Γ : gm_T} {φ : ph_T} (h : Γ a = .inr ci) (z : Zr a φ) (hs : ∀ q ∈ l, q.2.2 ≤ 67108864) (hd : (l.map Prod.fst).Nodup) :
    ∃ Γ' φ', mkA a ci k l Γ φ (a + 1) = mA l.length (l.map (fun q => q.2.2)).sum (k Γ' φ' (a + 1 + l.length)) ∧ Ag 0 a Γ φ Γ' φ' ∧ Γ' a = .inr ci ∧ φ'.1 = φ.1 ∧ φ'.2.1 = φ.2.1 ∧ Zr (a + 1) φ' ∧ (∀ g, g ∉ l.map Prod.fst → φ'.2.2 a g = none) ∧ (∀ b, a < b → b < a + 1 + l.length → ∃ t N, Γ' b = .inl (t, N)) ∧ ∀ (j : Nat) (q : Nat × Nat × Nat), l[j]? = some q → φ'.2.2 a q.1 = some (a + 1 + j) ∧ Γ' (a + 1 + j) = .inl (q.2.1, q.2.2) := by
  obtain ⟨Γ', φ', a1, a2, a3, a4, a5, a6, a7⟩ := mkA_ok (k := k) l Γ φ (a + 1) h (by omega) (z.mono (by omega)) hs hd
  refine ⟨Γ', φ', a1, ?_, by rw [a2 a (by omega)]; exact h, a3, a4, ?_, ?_, ?_, a7⟩
  · intro b _ hb
    exact ⟨a2 b (by omega), by rw [a3], by rw [a4], a5 b (by omega)⟩
  · intro b hb
    obtain ⟨z1, z2, z3⟩ := z b (by omega)
    exact ⟨by rw [a3]; exact z1, by rw [a4]; exact z2, by rw [a5 b (by omega)]; exact z3⟩
  · intro g hg
    rw [a6 g hg, (z a (Nat.le_refl _)).2.2]
  · intro b h1 h2
    obtain ⟨j, hj⟩ : ∃ j, b = a + 1 + j := ⟨b - (a + 1), by omega⟩
    subst hj
    have hlt : j < l.length := by omega
    obtain ⟨q, hq⟩ : ∃ q, l[j]? = some q := ⟨l[j], List.getElem?_eq_getElem hlt⟩
    exact ⟨_, _, (a7 j q hq).2⟩
def kD : gm_T → ph_T → Nat → Option (mq_T Unit) := fun Γ φ n => some ((), (Γ, φ, n), (0, 0))
/-- the memory -/
theorem k_Mem {Γ : gm_T} {φ : ph_T} {a : Nat} (h : Γ a = .inr 2) (z : Zr a φ) : ∃ Γ' φ', f_Memory_init Γ φ (a + 1) a = some ((), (Γ', φ', a + 3), (2, 9216)) ∧ Ag 0 a Γ φ Γ' φ' ∧ Γ' a = .inr 2 ∧ Zr (a + 3) φ' ∧ ∀ Γs φs, Ag a (a + 3) Γ' φ' Γs φs → CMem Γs φs a (fun _ => 0) (fun _ => false) := by
  obtain ⟨Γ', φ', a1, a2, a3, a4, a5, a6, a7, a8, a9⟩ := mkA_at (k := kD) [(0, 1, 8192), (1, 1, 1024)] h z (by decide) (by decide)
  refine ⟨Γ', φ', a1, a2, a3, a6.mono (by omega), ?_⟩
  intro Γs φs s
  have b0 := a9 0 _ rfl
  have b1 := a9 1 _ rfl
  refine ⟨by rw [s.g (by omega) (by omega)]; exact a3, by rw [s.r (by omega) (by omega)]; exact b0.1, by rw [s.r (by omega) (by omega)]; exact b1.1, gA_of (by rw [s.g (by omega) (by omega)]; exact b0.2), gA_of (by rw [s.g (by omega) (by omega)]; exact b1.2), fun y hy => ?_, fun y hy => ?_⟩
  · rw [s.l (by omega) (by omega), a5, (z (a + 1) (by omega)).2.1]
    unfold byN
    rw [show uN (0 : Int64) = 0 by decide, Nat.zero_div]
  · rw [s.l (by omega) (by omega), a5, (z (a + 2) (by omega)).2.1, show uN (0 : Int64) = 0 by decide, Nat.zero_testBit]
/-- a row -/
theorem k_Row {Γ : gm_T} {φ : ph_T} {a N : Nat} (hN : N ≤ 4) (h : Γ a = .inr 3) (z : Zr a φ) : ∃ Γ' φ', f_Row_init Γ φ (a + 1) a (nI N) = some ((), (Γ', φ', a + 4), (3, N + (N + (N + 0)))) ∧ Ag 0 a Γ φ Γ' φ' ∧ Γ' a = .inr 3 ∧ Zr (a + 4) φ' ∧ ∀ Γs φs, Ag a (a + 4) Γ' φ' Γs φs → ∀ tm, CRow Γs φs a N tm [] := by
  obtain ⟨Γ', φ', a1, a2, a3, a4, a5, a6, a7, a8, a9⟩ := mkA_at (k := kD) [(0, 1, N), (1, 0, N), (2, 0, N)] h z (by intro q hq; simp only [List.mem_cons, List.not_mem_nil, or_false] at hq; rcases hq with e | e | e <;> (subst e; show N ≤ 67108864; omega)) (show ([0, 1, 2] : List Nat).Nodup by decide)
  refine ⟨Γ', φ', a1, a2, a3, a6.mono (by omega), ?_⟩
  intro Γs φs s tm
  have b0 := a9 0 _ rfl
  have b1 := a9 1 _ rfl
  have b2 := a9 2 _ rfl
  refine ⟨by rw [s.g (by omega) (by omega)]; exact a3, by rw [s.r (by omega) (by omega)]; exact b0.1, by rw [s.r (by omega) (by omega)]; exact b1.1, by rw [s.r (by omega) (by omega)]; exact b2.1, gA_of (by rw [s.g (by omega) (by omega)]; exact b0.2), gA_of (by rw [s.g (by omega) (by omega)]; exact b1.2), gA_of (by rw [s.g (by omega) (by omega)]; exact b2.2), hN, ?_, Nat.zero_le _, (fun k x hk => by cases hk)⟩
  rw [s.i (by omega) (by omega), a4, (z a (by omega)).1]; rfl
/-- what is under way -/
theorem k_Uw {Γ : gm_T} {φ : ph_T} {a : Nat} (h : Γ a = .inr 9) (z : Zr a φ) : ∃ Γ' φ', f_UnderWay_init Γ φ (a + 1) a = some ((), (Γ', φ', a + 5), (4, 32)) ∧ Ag 0 a Γ φ Γ' φ' ∧ Γ' a = .inr 9 ∧ Zr (a + 5) φ' ∧ ∀ Γs φs, Ag a (a + 5) Γ' φ' Γs φs → CUw Γs φs a [] := by
  obtain ⟨Γ', φ', a1, a2, a3, a4, a5, a6, a7, a8, a9⟩ := mkA_at (k := kD) [(0, 0, 8), (1, 0, 8), (2, 0, 8), (3, 0, 8)] h z (by decide) (by decide)
  refine ⟨Γ', φ', a1, a2, a3, a6.mono (by omega), ?_⟩
  intro Γs φs s
  have b0 := a9 0 _ rfl
  have b1 := a9 1 _ rfl
  have b2 := a9 2 _ rfl
  have b3 := a9 3 _ rfl
  refine ⟨by rw [s.g (by omega) (by omega)]; exact a3, by rw [s.r (by omega) (by omega)]; exact b0.1, by rw [s.r (by omega) (by omega)]; exact b1.1, by rw [s.r (by omega) (by omega)]; exact b2.1, by rw [s.r (by omega) (by omega)]; exact b3.1, gA_of (by rw [s.g (by omega) (by omega)]; exact b0.2), gA_of (by rw [s.g (by omega) (by omega)]; exact b1.2), gA_of (by rw [s.g (by omega) (by omega)]; exact b2.2), gA_of (by rw [s.g (by omega) (by omega)]; exact b3.2), ?_, Nat.zero_le _, (fun k x hk => by cases hk), (fun k x hk => by cases hk)⟩
  rw [s.i (by omega) (by omega), a4, (z a (by omega)).1]; rfl
