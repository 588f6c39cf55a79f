/-! ALL IS CLEARED: what holds then -/
theorem Bd.clr {S : XS} (n4 : 1 ≤ S.nm ∧ S.nm ≤ 4) (n5 : 1 ≤ S.ns ∧ S.ns ≤ 4) (n6 : 1 ≤ S.lim ∧ S.lim ≤ 8) : Bd S.clr := by
  refine ⟨n4, n5, n6, (show (1 : Nat) < 4 by decide), (show (0 : Nat) < 2 ^ 24 by decide), (show (0 : Nat) < 16 by decide), Nat.zero_le _, fun p => ?_, fun m c => (show (65535 : Nat) < 65536 by decide), fun m c => (show (65535 : Nat) < 65536 by decide), fun s => (show (0 : Nat) < 16 by decide), fun s => (show (0 : Nat) < 3 by decide), fun s => (show (0 : Nat) < 256 by decide), ?_, ?_, fun s => (show (0 : Nat) < 2 ^ 24 by decide), ?_, ?_, ?_, ?_, ?_, ?_, ?_, ?_, ?_, ?_⟩
  · show p % S.ns ≤ S.ns
    have := Nat.mod_lt p (show 0 < S.ns by omega)
    omega
  · intro s e he; cases he
  · intro s e he; cases he
  · intro s e he; cases he
  · intro e he; cases he
  · intro e he; cases he
  · intro s e he; cases he
  · intro s e he; cases he
  · intro s e he; cases he
  · intro s e he; cases he
  · intro s e q he; cases he
  · intro s e he; cases he
  · intro e he; cases he
theorem JI.clr {k : Nat} {S : XS} (n4 : 1 ≤ S.nm ∧ S.nm ≤ 4) (n5 : 1 ≤ S.ns ∧ S.ns ≤ 4) (n6 : 1 ≤ S.lim ∧ S.lim ≤ 8) (hk : k + 8 < 2 ^ 24) : JI k S.clr := by
  have hb := Bd.clr n4 n5 n6
  have hw : ∀ p c, hdW (S.clr.wi p) c = false := fun p c => rfl
  have e1 : ∀ i, S.clr.row i = [] := fun i => rfl
  refine ⟨⟨hb, (show 0 + 8 < 2 ^ 24 by decide), (fun t ht => by cases ht), ⟨?_, ?_, ?_⟩, ⟨?_, ?_, ?_⟩, ⟨?_, ?_, ?_⟩, ⟨List.Pairwise.nil, (fun u hu => by cases hu)⟩, ?_, ?_, ?_, ?_, ⟨fun _ => rfl, ?_⟩, ?_, ?_, ?_, ?_, fun s _ => ⟨rfl, rfl⟩, ⟨Nat.zero_le _, Nat.zero_le _⟩⟩, ⟨?_, ?_, ?_, ?_, ?_, ?_, ?_⟩, ⟨?_, ?_, ?_, ?_, ?_⟩, ⟨?_, ?_⟩⟩
  · intro i _ e he; cases he
  · intro m c _ _ e he; cases he
  · intro t e he; cases he
  · intro u hu; cases hu
  · intro m; exact Nat.zero_le _
  · intro u hu; cases hu
  · intro u hu; cases hu
  · intro m; exact Nat.zero_le _
  · intro u hu; cases hu
  · intro m hm; rfl
  · intro m hm id; rfl
  · intro t ht
    refine ⟨[], ⟨[], [], [], rfl, ?_, ?_, ?_, rfl, rfl, ?_, List.Perm.nil⟩, fun _ => rfl, fun _ => rfl⟩
    · intro u hu; cases hu
    · intro u hu; cases hu
    · intro u hu; cases hu
    · intro u hu; cases hu
  · intro t ht f; rfl
  · intro a l he; cases he
  · intro p e he; cases he
  · intro s i he; cases he
  · intro s i he; cases he
  · intro s he; cases he
  · intro m hm hh; rw [hw] at hh; cases hh
  · intro m hm hh; rw [hw] at hh; cases hh
  · intro m hm hh; rw [hw] at hh; cases hh
  · intro m hm hh; rw [hw] at hh; cases hh
  · intro m hm hh; rw [hw] at hh; cases hh
  · intro m hm c _ hh; rw [hw] at hh; cases hh
  · intro m hm c _ hh; rw [hw] at hh; cases hh
  · intro s; exact Nat.zero_le _
  · intro s e he; cases he
  · intro s e he; cases he
  · intro s e he; cases he
  · intro s e he; cases he
  · show 0 + k + 8 < 2 ^ 24; omega
  · intro m wr; exact Nat.zero_le _
