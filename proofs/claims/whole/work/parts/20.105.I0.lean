/-! THE STATE's OWN INVARIANTS: lists -/
def pat : Nat → List Bool
  | 0 => []
  | n + 1 => decide (n = 0) :: pat n
def fl (l : List RE) : List Bool := l.map fun e => rLa e.r
def fid (u : UE) : Nat := 16 * u.m + u.id
def patU (l : List UE) : List Bool := l.flatMap fun u => pat u.left
def patQ (l : List (Nat × Nat)) : List Bool := l.flatMap fun q => pat q.2
def patR (l : List RE) : List Bool := l.flatMap fun e => pat (leN e.c)
theorem pat_true : ∀ n, 1 ≤ n → (pat n).count true = 1 := by
  intro n
  induction n with
  | zero => intro h; omega
  | succ n ih =>
    intro _
    unfold pat
    rw [List.count_cons]
    by_cases h : n = 0
    · subst h; rfl
    · rw [ih (by omega)]; simp [h]
theorem pat_cons {n : Nat} (h : 0 < n) : pat n = decide (n = 1) :: pat (n - 1) := by
  obtain ⟨k, rfl⟩ : ∃ k, n = k + 1 := ⟨n - 1, by omega⟩
  show decide (k = 0) :: pat k = decide (k + 1 = 1) :: pat (k + 1 - 1)
  simp
theorem patU_zero {l : List UE} (h : ∀ u ∈ l, u.left = 0) : patU l = [] := by
  unfold patU
  rw [List.flatMap_eq_nil_iff]
  intro u hu
  rw [h u hu]; rfl
theorem patU_app (a b : List UE) : patU (a ++ b) = patU a ++ patU b := List.flatMap_append
theorem patQ_app (a b : List (Nat × Nat)) : patQ (a ++ b) = patQ a ++ patQ b := List.flatMap_append
theorem patR_app (a b : List RE) : patR (a ++ b) = patR a ++ patR b := List.flatMap_append
theorem patU_cons (u : UE) (b : List UE) : patU (u :: b) = pat u.left ++ patU b := List.flatMap_cons
theorem patQ_cons (u : Nat × Nat) (b : List (Nat × Nat)) : patQ (u :: b) = pat u.2 ++ patQ b := List.flatMap_cons
theorem patR_cons (u : RE) (b : List RE) : patR (u :: b) = pat (leN u.c) ++ patR b := List.flatMap_cons
theorem patU_true {l : List UE} (h : ∀ u ∈ l, 0 < u.left) : (patU l).count true = l.length := by
  induction l with
  | nil => rfl
  | cons u l ih =>
    rw [patU_cons, List.count_append, pat_true _ (h u (List.mem_cons_self ..)), ih (fun v hv => h v (List.mem_cons_of_mem _ hv)), List.length_cons]
    omega
theorem patQ_true {l : List (Nat × Nat)} (h : ∀ u ∈ l, 1 ≤ u.2) : (patQ l).count true = l.length := by
  induction l with
  | nil => rfl
  | cons u l ih =>
    rw [patQ_cons, List.count_append, pat_true _ (h u (List.mem_cons_self ..)), ih (fun v hv => h v (List.mem_cons_of_mem _ hv)), List.length_cons]
    omega
/-- a target's writes: answered or done in the slave, sent whole, not sent whole; what waits for beats -/
def TGc (uwt : List UE) (W B : List RE) (cm : List Nat) (Q : List (Nat × Nat)) : Prop := ∃ A Z P : List UE,
  uwt = A ++ (Z ++ P) ∧ (∀ u ∈ A, u.left = 0) ∧ (∀ u ∈ Z, u.left = 0) ∧ (∀ u ∈ P, 0 < u.left) ∧
  (Z ++ P).map fid = Q.map Prod.fst ∧ fl W ++ patU P = patQ Q ∧ (∀ q ∈ Q, 1 ≤ q.2) ∧
  (A.map fid).Perm (B.map (fun e => rId e.r) ++ cm)
theorem TGc.zlen {uwt : List UE} {W B : List RE} {cm : List Nat} {Q : List (Nat × Nat)} {A Z P : List UE} (hP : ∀ u ∈ P, 0 < u.left) (hm : (Z ++ P).map fid = Q.map Prod.fst) (hf : fl W ++ patU P = patQ Q) (hQ : ∀ q ∈ Q, 1 ≤ q.2) : (fl W).count true = Z.length := by
  have h1 := congrArg (List.count true) hf
  rw [List.count_append, patU_true hP, patQ_true hQ] at h1
  have h2 := congrArg List.length hm
  rw [List.length_map, List.length_append, List.length_map] at h2
  omega
/-- a burst comes -/
theorem TGc.add {uwt : List UE} {W B : List RE} {cm : List Nat} {Q : List (Nat × Nat)} (h : TGc uwt W B cm Q) (u : UE) (hu : 0 < u.left) : TGc (uwt ++ [u]) W B cm (Q ++ [(fid u, u.left)]) := by
  obtain ⟨A, Z, P, h1, h2, h3, h4, h5, h6, h7, h8⟩ := h
  refine ⟨A, Z, P ++ [u], ?_, h2, h3, ?_, ?_, ?_, ?_, h8⟩
  · rw [h1]; simp
  · intro v hv
    rcases List.mem_append.mp hv with hv | hv
    · exact h4 v hv
    · rw [List.mem_singleton.mp hv]; exact hu
  · rw [← List.append_assoc, List.map_append (l₁ := Z ++ P), h5, List.map_append]; rfl
  · rw [patU_app, patQ_app, ← List.append_assoc, h6]; simp [patU, patQ]
  · intro q hq
    rcases List.mem_append.mp hq with hq | hq
    · exact h7 q hq
    · rw [List.mem_singleton.mp hq]; exact hu
theorem app_pos {l1 l2 A Z P : List UE} {u : UE} (h : l1 ++ u :: l2 = A ++ (Z ++ P)) (h1 : ∀ v ∈ l1, v.left = 0) (hu : 0 < u.left) (hA : ∀ v ∈ A, v.left = 0) (hZ : ∀ v ∈ Z, v.left = 0) (hP : ∀ v ∈ P, 0 < v.left) : l1 = A ++ Z ∧ P = u :: l2 := by
  rw [← List.append_assoc] at h
  have hAZ : ∀ v ∈ A ++ Z, v.left = 0 := by
    intro v hv
    rcases List.mem_append.mp hv with hv | hv
    · exact hA v hv
    · exact hZ v hv
  generalize A ++ Z = X at h hAZ
  rw [List.append_eq_append_iff] at h
  rcases h with ⟨as, h2, h3⟩ | ⟨bs, h2, h3⟩
  · cases as with
    | nil => exact ⟨by simpa using h2.symm, by simpa using h3.symm⟩
    | cons a as =>
      have : a = u := by simp at h3; exact h3.1.symm
      have h0 := hAZ a (by rw [h2]; simp)
      rw [this] at h0
      omega
  · cases bs with
    | nil => exact ⟨by simpa using h2, by simpa using h3⟩
    | cons b bs =>
      have h0 := h1 b (by rw [h2]; simp)
      have h4 := hP b (by rw [h3]; simp)
      omega
/-- a beat is moved -/
theorem TGc.beat {l1 l2 : List UE} {W B : List RE} {cm : List Nat} {Q : List (Nat × Nat)} {u : UE} {d : RE} (h : TGc (l1 ++ u :: l2) W B cm Q) (h1 : ∀ v ∈ l1, v.left = 0) (hu : 0 < u.left) (hd : rLa d.r = decide (u.left = 1)) : TGc (l1 ++ (u.w_left (u.left - 1)) :: l2) (W ++ [d]) B cm Q := by
  obtain ⟨A, Z, P, g1, g2, g3, g4, g5, g6, g7, g8⟩ := h
  obtain ⟨e1, e2⟩ := app_pos g1 h1 hu g2 g3 g4
  subst e2
  have hl2 : ∀ v ∈ l2, 0 < v.left := fun v hv => g4 v (List.mem_cons_of_mem _ hv)
  have hf : fid ((u.w_left (u.left - 1)) : UE) = fid u := rfl
  have hfl : fl (W ++ [d]) ++ (pat (u.left - 1) ++ patU l2) = patQ Q := by
    rw [← g6, patU_cons, pat_cons hu, ← hd]
    simp [fl]
  by_cases hz : u.left = 1
  · refine ⟨A, Z ++ [(u.w_left (u.left - 1))], l2, ?_, g2, ?_, hl2, ?_, ?_, g7, g8⟩
    · rw [e1]; simp
    · intro v hv
      rcases List.mem_append.mp hv with hv | hv
      · exact g3 v hv
      · rw [List.mem_singleton.mp hv]; show u.left - 1 = 0; omega
    · rw [← g5]
      simp only [List.map_append, List.map_cons, List.map_nil, hf]
      simp
    · rw [← hfl, hz]; rfl
  · refine ⟨A, Z, (u.w_left (u.left - 1)) :: l2, ?_, g2, g3, ?_, ?_, ?_, g7, g8⟩
    · rw [e1]; simp
    · intro v hv
      rcases List.mem_cons.mp hv with hv | hv
      · rw [hv]; show 0 < u.left - 1; omega
      · exact hl2 v hv
    · rw [← g5]
      simp only [List.map_append, List.map_cons, hf]
    · rw [patU_cons]; exact hfl
/-- the first beat is taken: the first that waits has one less -/
theorem TGc.pop {uwt : List UE} {d : RE} {W B : List RE} {cm : List Nat} {Q : List (Nat × Nat)} (h : TGc uwt (d :: W) B cm Q) : ∃ q Q', Q = q :: Q' ∧ rLa d.r = decide (q.2 = 1) ∧ (q.2 ≠ 1 → TGc uwt W B cm ((q.1, q.2 - 1) :: Q')) ∧ (q.2 = 1 → (TGc uwt W B (q.1 :: cm) Q' ∧ ∀ e : RE, rId e.r = q.1 → TGc uwt W (B ++ [e]) cm Q')) := by
  obtain ⟨A, Z, P, g1, g2, g3, g4, g5, g6, g7, g8⟩ := h
  have hz := TGc.zlen (uwt := uwt) (B := B) (cm := cm) (A := A) g4 g5 g6 g7
  cases Q with
  | nil => simp [fl, patQ] at g6
  | cons q Q' =>
    have hq := g7 q (List.mem_cons_self ..)
    have g6' : rLa d.r :: (fl W ++ patU P) = decide (q.2 = 1) :: (pat (q.2 - 1) ++ patQ Q') := by
      have := g6
      rw [patQ_cons, pat_cons hq] at this
      exact this
    have hd : rLa d.r = decide (q.2 = 1) := (List.cons.inj g6').1
    have hr := (List.cons.inj g6').2
    have hQ' : ∀ x ∈ Q', 1 ≤ x.2 := fun x hx => g7 x (List.mem_cons_of_mem _ hx)
    refine ⟨q, Q', rfl, hd, ?_, ?_⟩
    · intro hne
      refine ⟨A, Z, P, g1, g2, g3, g4, ?_, ?_, ?_, g8⟩
      · exact g5
      · rw [hr, patQ_cons]
      · intro x hx
        rcases List.mem_cons.mp hx with hx | hx
        · rw [hx]; show 1 ≤ q.2 - 1; omega
        · exact hQ' x hx
    · intro h1
      have hZ : 0 < Z.length := by
        rw [← hz]
        show 0 < ((rLa d.r) :: fl W).count true
        rw [hd, h1]
        simp
      cases Z with
      | nil => exact absurd hZ (by simp)
      | cons z Z' =>
        have hfz : fid z = q.1 := by simp at g5; exact g5.1
        have hm' : (Z' ++ P).map fid = Q'.map Prod.fst := by simp at g5; simpa using g5.2
        have hA' : ∀ u ∈ A ++ [z], u.left = 0 := by
          intro v hv
          rcases List.mem_append.mp hv with hv | hv
          · exact g2 v hv
          · rw [List.mem_singleton.mp hv]; exact g3 z (List.mem_cons_self ..)
        have hr' : fl W ++ patU P = patQ Q' := by rw [hr, h1]; rfl
        refine ⟨⟨A ++ [z], Z', P, ?_, hA', fun u hu => g3 u (List.mem_cons_of_mem _ hu), g4, hm', hr', hQ', ?_⟩, fun e he => ⟨A ++ [z], Z', P, ?_, hA', fun u hu => g3 u (List.mem_cons_of_mem _ hu), g4, hm', hr', hQ', ?_⟩⟩
        · rw [g1]; simp
        · rw [List.map_append]
          show (A.map fid ++ [fid z]).Perm _
          rw [hfz]
          refine ((g8.append_right [q.1]).trans ?_)
          rw [List.append_assoc]
          exact List.Perm.append_left _ (List.perm_append_comm)
        · rw [g1]; simp
        · rw [List.map_append, List.map_append]
          show (A.map fid ++ [fid z]).Perm ((B.map (fun e => rId e.r) ++ [rId e.r]) ++ cm)
          rw [hfz, he]
          refine ((g8.append_right [q.1]).trans ?_)
          rw [List.append_assoc, List.append_assoc]
          exact List.Perm.append_left _ (List.perm_append_comm)
/-- an answer is moved to its master -/
theorem TGc.ans {uwt : List UE} {e : RE} {W B : List RE} {cm : List Nat} {Q : List (Nat × Nat)} (h : TGc uwt W (e :: B) cm Q) {p : UE → Bool} (hp : ∀ u ∈ uwt, p u = true ↔ fid u = rId e.r) : (∃ u l1 l2, uwt = l1 ++ u :: l2 ∧ (∀ v ∈ l1, p v = false) ∧ p u = true ∧ u.left = 0) ∧ TGc (uwt.eraseP p) W B cm Q := by
  obtain ⟨A, Z, P, g1, g2, g3, g4, g5, g6, g7, g8⟩ := h
  have hin : rId e.r ∈ A.map fid := g8.mem_iff.mpr (by simp)
  obtain ⟨v, hv, hv2⟩ := List.mem_map.mp hin
  have hpv : p v = true := (hp v (by rw [g1]; exact List.mem_append_left _ hv)).mpr hv2
  obtain ⟨u, l1, l2, hl1, hpu, hA, hAe⟩ := List.exists_of_eraseP hv hpv
  refine ⟨⟨u, l1, l2 ++ (Z ++ P), by rw [g1, hA]; simp, fun v hv => by simpa using hl1 v hv, hpu, g2 u (by rw [hA]; simp)⟩, ?_⟩
  refine ⟨A.eraseP p, Z, P, ?_, ?_, g3, g4, g5, g6, g7, ?_⟩
  · rw [g1, List.eraseP_append_left hpv _ hv]
  · intro w hw
    exact g2 w (List.mem_of_mem_eraseP hw)
  · rw [hAe]
    rw [hA] at g8
    have h1 : (List.map fid (l1 ++ u :: l2)).Perm (rId e.r :: List.map fid (l1 ++ l2)) := by
      rw [List.map_append, List.map_cons, (hp u (by rw [g1, hA]; simp)).mp hpu, List.map_append]
      exact List.perm_middle
    exact (h1.symm.trans g8).cons_inv
/-- order of the answered does not matter -/
theorem TGc.perm {uwt : List UE} {W B B' : List RE} {cm cm' : List Nat} {Q : List (Nat × Nat)} (h : TGc uwt W B cm Q) (hp : (B.map (fun e => rId e.r) ++ cm).Perm (B'.map (fun e => rId e.r) ++ cm')) : TGc uwt W B' cm' Q := by
  obtain ⟨A, Z, P, g1, g2, g3, g4, g5, g6, g7, g8⟩ := h
  exact ⟨A, Z, P, g1, g2, g3, g4, g5, g6, g7, g8.trans hp⟩
theorem TGc.ids {uwt : List UE} {W B : List RE} {cm : List Nat} {Q : List (Nat × Nat)} (h : TGc uwt W B cm Q) : uwt = [] → B = [] ∧ cm = [] ∧ Q = [] := by
  obtain ⟨A, Z, P, g1, g2, g3, g4, g5, g6, g7, g8⟩ := h
  intro h0
  rw [h0] at g1
  have h1 := List.append_eq_nil_iff.mp g1.symm
  rw [h1.1] at g8
  rw [h1.2] at g5
  have h2 := List.append_eq_nil_iff.mp g8.symm.eq_nil
  refine ⟨by simpa using h2.1, h2.2, by simpa using g5⟩
