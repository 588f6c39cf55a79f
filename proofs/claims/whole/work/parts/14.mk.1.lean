theorem ln_Memory_init : (parseMethodDescriptor y_Memory_init.desc).map (fun q => q.parameters.length) = some 0 := by decide +kernel
def f_Memory_init (Γ : gm_T) (φ : ph_T) (n : Nat) (this : Nat) : Option (mq_T (Unit)) :=
  mR Γ φ n 1 (8192 : Int32) fun Γ1 φ2 n3 =>
  @ite _ (Γ1 this = .inr 2) _ (
  mR Γ1 (uR φ2 this 0 (some n)) n3 1 (1024 : Int32) fun Γ6 φ7 n8 =>
  @ite _ (Γ6 this = .inr 2) _ (
  some ((), (Γ6, (uR φ7 this 1 (some n3)), n8), (0, 0))
  ) none
  ) none
set_option maxRecDepth 100000 in
set_option maxHeartbeats 8000000 in
theorem p_Memory_init {w : jw_T} (hw : jok w) {Γ : gm_T} {φ : ph_T} {n : Nat} {this : Nat} {q : mq_T (Unit)} (hZ : gz w Γ n) (H : f_Memory_init Γ φ n this = some q) : jc w M_Memory_init [.ref this] (pic Γ φ) n true q.2.2.1 q.2.2.2 (mqQ w (.inl none) q.2.1) := by
  refine jc.of (by simp only [jent_r, jent_i, jent_l, jent_a, jent_0]; exact Nat.le_of_ble_eq_true rfl) ?_
  have hls : jents [.ref this] (jm_nL M_Memory_init) = [some (.ref this)] := by simp only [jents, jent_r, jent_i, jent_l, jent_a, jent_0]; rfl
  rw [hls]
  clear hls
  unfold f_Memory_init at H
  refine J_aload_n d_Memory_init_0 rfl ?_
  refine J_objInit (st := []) (tb1 hw (i := 47) (by decide +kernel)) (tb1 hw (i := 31) (by decide +kernel)) (objInit_code hw) d_Memory_init_1 rfl (by decide) (by decide) ?_
  refine J_aload_n d_Memory_init_4 rfl ?_
  refine J_sipush (v := 8192) d_Memory_init_5 (by decide) ?_
  refine F_newa1 (r := (fun _ => .inl none)) hw hZ (tb1 hw (i := 55) (by decide +kernel)) d_Memory_init_8 H ?_
  clear H
  intro Γ1 φ2 n3 q hZ4 H
  have g5 : Γ1 this = .inr 2 := by
    apply Classical.byContradiction
    intro q9
    rw [if_neg q9] at H
    cases H
  rw [if_pos g5] at H
  refine F_putRF (ci := 2) (k := 0) (v := (some n)) hZ4.1 (cf_Memory hw) (tb1 hw (i := 48) (by decide +kernel)) (by decide) (by decide) rfl d_Memory_init_10 rfl rfl rfl rfl rfl g5 ?_
  refine J_aload_n d_Memory_init_13 rfl ?_
  refine J_sipush (v := 1024) d_Memory_init_14 (by decide) ?_
  refine F_newa1 (r := (fun _ => .inl none)) hw hZ4 (tb1 hw (i := 55) (by decide +kernel)) d_Memory_init_17 H ?_
  clear H
  intro Γ6 φ7 n8 q hZ9 H
  have g10 : Γ6 this = .inr 2 := by
    apply Classical.byContradiction
    intro q9
    rw [if_neg q9] at H
    cases H
  rw [if_pos g10] at H
  refine F_putRF (ci := 2) (k := 1) (v := (some n3)) hZ9.1 (cf_Memory hw) (tb1 hw (i := 49) (by decide +kernel)) (by decide) (by decide) rfl d_Memory_init_19 rfl rfl rfl rfl rfl g10 ?_
  have H := Option.some.inj H
  subst H
  exact J_vret (st := []) d_Memory_init_22 rfl ⟨rfl, rfl, rfl, rfl, hZ9⟩
theorem ln_Row_init : (parseMethodDescriptor y_Row_init.desc).map (fun q => q.parameters.length) = some 1 := by decide +kernel
def f_Row_init (Γ : gm_T) (φ : ph_T) (n : Nat) (this : Nat) (p0 : Int32) : Option (mq_T (Unit)) :=
  mR Γ φ n 1 p0 fun Γ1 φ2 n3 =>
  @ite _ (Γ1 this = .inr 3) _ (
  mR Γ1 (uR φ2 this 0 (some n)) n3 0 p0 fun Γ6 φ7 n8 =>
  @ite _ (Γ6 this = .inr 3) _ (
  mR Γ6 (uR φ7 this 1 (some n3)) n8 0 p0 fun Γ11 φ12 n13 =>
  @ite _ (Γ11 this = .inr 3) _ (
  some ((), (Γ11, (uR φ12 this 2 (some n8)), n13), (0, 0))
  ) none
  ) none
  ) none
set_option maxRecDepth 100000 in
set_option maxHeartbeats 8000000 in
theorem p_Row_init {w : jw_T} (hw : jok w) {Γ : gm_T} {φ : ph_T} {n : Nat} {this : Nat} {p0 : Int32} {q : mq_T (Unit)} (hZ : gz w Γ n) (H : f_Row_init Γ φ n this p0 = some q) : jc w M_Row_init [.ref this, .int p0] (pic Γ φ) n true q.2.2.1 q.2.2.2 (mqQ w (.inl none) q.2.1) := by
  refine jc.of (by simp only [jent_r, jent_i, jent_l, jent_a, jent_0]; exact Nat.le_of_ble_eq_true rfl) ?_
  have hls : jents [.ref this, .int p0] (jm_nL M_Row_init) = [some (.ref this), some (.int p0)] := by simp only [jents, jent_r, jent_i, jent_l, jent_a, jent_0]; rfl
  rw [hls]
  clear hls
  unfold f_Row_init at H
  refine J_aload_n d_Row_init_0 rfl ?_
  refine J_objInit (st := []) (tb1 hw (i := 71) (by decide +kernel)) (tb1 hw (i := 31) (by decide +kernel)) (objInit_code hw) d_Row_init_1 rfl (by decide) (by decide) ?_
  refine J_aload_n d_Row_init_4 rfl ?_
  refine J_iload_n d_Row_init_5 rfl ?_
  refine F_newa1 (r := (fun _ => .inl none)) hw hZ (tb1 hw (i := 55) (by decide +kernel)) d_Row_init_6 H ?_
  clear H
  intro Γ1 φ2 n3 q hZ4 H
  have g5 : Γ1 this = .inr 3 := by
    apply Classical.byContradiction
    intro q9
    rw [if_neg q9] at H
    cases H
  rw [if_pos g5] at H
  refine F_putRF (ci := 3) (k := 0) (v := (some n)) hZ4.1 (cf_Row hw) (tb1 hw (i := 72) (by decide +kernel)) (by decide) (by decide) rfl d_Row_init_8 rfl rfl rfl rfl rfl g5 ?_
  refine J_aload_n d_Row_init_11 rfl ?_
  refine J_iload_n d_Row_init_12 rfl ?_
  refine F_newa0 (r := (fun _ => .inl none)) hw hZ4 (tb1 hw (i := 86) (by decide +kernel)) d_Row_init_13 H ?_
  clear H
  intro Γ6 φ7 n8 q hZ9 H
  have g10 : Γ6 this = .inr 3 := by
    apply Classical.byContradiction
    intro q9
    rw [if_neg q9] at H
    cases H
  rw [if_pos g10] at H
  refine F_putRF (ci := 3) (k := 1) (v := (some n3)) hZ9.1 (cf_Row hw) (tb1 hw (i := 73) (by decide +kernel)) (by decide) (by decide) rfl d_Row_init_15 rfl rfl rfl rfl rfl g10 ?_
  refine J_aload_n d_Row_init_18 rfl ?_
  refine J_iload_n d_Row_init_19 rfl ?_
  refine F_newa0 (r := (fun _ => .inl none)) hw hZ9 (tb1 hw (i := 86) (by decide +kernel)) d_Row_init_20 H ?_
  clear H
  intro Γ11 φ12 n13 q hZ14 H
  have g15 : Γ11 this = .inr 3 := by
    apply Classical.byContradiction
    intro q9
    rw [if_neg q9] at H
    cases H
  rw [if_pos g15] at H
  refine F_putRF (ci := 3) (k := 2) (v := (some n8)) hZ14.1 (cf_Row hw) (tb1 hw (i := 74) (by decide +kernel)) (by decide) (by decide) rfl d_Row_init_22 rfl rfl rfl rfl rfl g15 ?_
  have H := Option.some.inj H
  subst H
  exact J_vret (st := []) d_Row_init_25 rfl ⟨rfl, rfl, rfl, rfl, hZ14⟩
theorem ln_Switch_rowsFor : (parseMethodDescriptor y_Switch_rowsFor.desc).map (fun q => q.parameters.length) = some 1 := by decide +kernel
def f_Switch_rowsFor_L40 (Kc9 : gm_T → ph_T → Nat → Nat → Int32 → Option (mq_T (Option Nat))) (Γ : gm_T) (φ : ph_T) (n : Nat) (x1 : Nat) (x2 : Int32) (y0 : Int32) (y1 : Nat) (y2 : Nat) (y3 : Int32) (y4 : Nat) : Option (mq_T (Option Nat)) :=
  @ite _ (Γ y1 = .inr 3) _ (
  mB (f_Row_init Γ φ n y1 y0) fun v4 Γ5 φ6 n7 =>
  Option.bind (gA Γ5 y4 3) fun N12 =>
  Option.bind (ix y3 N12) fun k13 =>
  @ite _ (Γ5 y2 = .inr 3) _ (
  Kc9 Γ5 (uR φ6 y4 k13 (some y2)) n7 x1 (x2 + (1 : Int32))
  ) none
  ) none
set_option maxRecDepth 100000 in
set_option maxHeartbeats 8000000 in
theorem p_Switch_rowsFor_L40 {w : jw_T} (hw : jok w) {Kc9 : gm_T → ph_T → Nat → Nat → Int32 → Option (mq_T (Option Nat))} (hKc9 : ∀ {Γ : gm_T} {φ : ph_T} {n : Nat} {x1 : Nat} {x2 : Int32} {q : mq_T (Option Nat)}, gz w Γ n → Kc9 Γ φ n x1 x2 = some q → J w M_Switch_rowsFor 9 [none, some (.ref x1), some (.int x2), none] [] (pic Γ φ) n true q.2.2.1 q.2.2.2 (mqQ w (.inl (some (va_rf q.1))) q.2.1)) {Γ : gm_T} {φ : ph_T} {n : Nat} {x1 : Nat} {x2 : Int32} {y0 : Int32} {y1 : Nat} {y2 : Nat} {y3 : Int32} {y4 : Nat} {q : mq_T (Option Nat)} (hZ : gz w Γ n) (H : f_Switch_rowsFor_L40 Kc9 Γ φ n x1 x2 y0 y1 y2 y3 y4 = some q) : J w M_Switch_rowsFor 40 [none, some (.ref x1), some (.int x2), none] [.int y0, .ref y1, .ref y2, .int y3, .ref y4] (pic Γ φ) n true q.2.2.1 q.2.2.2 (mqQ w (.inl (some (va_rf q.1))) q.2.1) := by
  unfold f_Switch_rowsFor_L40 at H
  have g2 : Γ y1 = .inr 3 := by
    apply Classical.byContradiction
    intro q9
    rw [if_neg q9] at H
    cases H
  rw [if_pos g2] at H
  obtain ⟨v4, Γ5, φ6, n7, c8, s9, q10, hq3, H1, hq9⟩ := mB_some H
  clear H
  subst hq9
  show J _ _ _ _ _ _ _ _ (c8 + q10.2.2.1) (s9 + q10.2.2.2) _
  refine J_callI (kc := q10.2.2.1) (ks := q10.2.2.2) (kc' := c8) (ks' := s9) (a := y1) (as := [.int y0]) (st := [.ref y2, .int y3, .ref y4]) (mf_Row_init hw) rfl rfl (mi_Switch_67 hw) rfl (tb1 hw (i := 70) rfl) d_Switch_rowsFor_40 ln_Row_init (by decide) (by first | exact Nat.le_of_ble_eq_true rfl | (simp only [List.map_cons, List.map_nil, List.sum_cons, List.sum_nil, va_rf_cat]; exact Nat.le_of_ble_eq_true rfl)) rfl (p_Row_init hw hZ hq3) ?_ (fun E9 h9 n9 x9 e9 => by cases e9.1)
  clear hq3
  intro v9 h9 n9 x9 e9
  obtain ⟨e91, e92, e93, e94, hZ11⟩ := e9
  cases e91
  subst e92
  have e95 : n7 = n9 := e93.symm
  subst e95
  subst e94
  show J _ _ _ _ [.ref y2, .int y3, .ref y4] (pic Γ5 φ6) n7 true q10.2.2.1 q10.2.2.2 (mqQ w (.inl (some (va_rf q10.1))) q10.2.1)
  revert H1
  generalize q10 = q
  intro H
  obtain ⟨N12, hN12, H⟩ := Option.bind_eq_some_iff.mp H
  obtain ⟨k13, hk13, H⟩ := Option.bind_eq_some_iff.mp H
  have g14 : Γ5 y2 = .inr 3 := by
    apply Classical.byContradiction
    intro q9
    rw [if_neg q9] at H
    cases H
  rw [if_pos g14] at H
  refine F_aast k13 hw hZ11.1 (t := 3) (ci := 3) (r := ("BusCrossbar$Row", T_Row, 4)) rfl (by decide) rfl (by decide) d_Switch_rowsFor_43 (gA_some hN12) g14 (ix_some hk13) ?_
  refine J_iinc (v := x2 + 1) d_Switch_rowsFor_44 rfl (by rw [show Int32.ofInt 1 = (1 : Int32) from by decide]) ?_
  refine J.ls (ls' := [none, some (.ref x1), some (.int (x2 + (1 : Int32))), none]) rfl ?_
  refine J_goto (tgt := 9) d_Switch_rowsFor_47 (by decide) ?_
  refine J.drop [false, true, true, false] rfl ?_
  exact hKc9 hZ11 H
def f_Switch_rowsFor_L35 (Kc9 : gm_T → ph_T → Nat → Nat → Int32 → Option (mq_T (Option Nat))) (Γ : gm_T) (φ : ph_T) (n : Nat) (x1 : Nat) (x2 : Int32) (y0 : Nat) (y1 : Nat) (y2 : Int32) (y3 : Nat) : Option (mq_T (Option Nat)) :=
  f_Switch_rowsFor_L40 Kc9 Γ φ n x1 x2 (4 : Int32) y0 y1 y2 y3
set_option maxRecDepth 100000 in
set_option maxHeartbeats 8000000 in
theorem p_Switch_rowsFor_L35 {w : jw_T} (hw : jok w) {Kc9 : gm_T → ph_T → Nat → Nat → Int32 → Option (mq_T (Option Nat))} (hKc9 : ∀ {Γ : gm_T} {φ : ph_T} {n : Nat} {x1 : Nat} {x2 : Int32} {q : mq_T (Option Nat)}, gz w Γ n → Kc9 Γ φ n x1 x2 = some q → J w M_Switch_rowsFor 9 [none, some (.ref x1), some (.int x2), none] [] (pic Γ φ) n true q.2.2.1 q.2.2.2 (mqQ w (.inl (some (va_rf q.1))) q.2.1)) {Γ : gm_T} {φ : ph_T} {n : Nat} {x1 : Nat} {x2 : Int32} {y0 : Nat} {y1 : Nat} {y2 : Int32} {y3 : Nat} {q : mq_T (Option Nat)} (hZ : gz w Γ n) (H : f_Switch_rowsFor_L35 Kc9 Γ φ n x1 x2 y0 y1 y2 y3 = some q) : J w M_Switch_rowsFor 35 [none, some (.ref x1), some (.int x2), none] [.ref y0, .ref y1, .int y2, .ref y3] (pic Γ φ) n true q.2.2.1 q.2.2.2 (mqQ w (.inl (some (va_rf q.1))) q.2.1) := by
  unfold f_Switch_rowsFor_L35 at H
  refine J_iconst (v := 4) d_Switch_rowsFor_35 (by decide) ?_
  refine J_goto (tgt := 40) d_Switch_rowsFor_36 (by decide) ?_
  refine J.drop [false, true, true, false] rfl ?_
  exact p_Switch_rowsFor_L40 hw hKc9 hZ H
def f_Switch_rowsFor_L9  : Nat → gm_T → ph_T → Nat → Nat → Int32 → Option (mq_T (Option Nat))
  | 0, _, _, _, _, _ => none
  | fu + 1, Γ, φ, n, x1, x2 =>
    Option.bind (gA Γ x1 3) fun N15 =>
    if (nI N15) ≤ x2 then
      some ((some x1), (Γ, φ, n), (0, 0))
    else
      @ite _ ((5 : Int32) = 0) _ none (
      mN Γ φ n 3 fun Γ17 φ18 n19 =>
      if (x2 - x2 / (5 : Int32) * (5 : Int32)) = (1 : Int32) then
        f_Switch_rowsFor_L35 (f_Switch_rowsFor_L9  fu) Γ17 φ18 n19 x1 x2 n n x2 x1
      else
        if (x2 - x2 / (5 : Int32) * (5 : Int32)) = (4 : Int32) then
          f_Switch_rowsFor_L35 (f_Switch_rowsFor_L9  fu) Γ17 φ18 n19 x1 x2 n n x2 x1
        else
          f_Switch_rowsFor_L40 (f_Switch_rowsFor_L9  fu) Γ17 φ18 n19 x1 x2 (2 : Int32) n n x2 x1
      )
set_option maxRecDepth 100000 in
set_option maxHeartbeats 8000000 in
theorem p_Switch_rowsFor_L9 {w : jw_T} (hw : jok w)  : ∀ (fu : Nat) {Γ : gm_T} {φ : ph_T} {n : Nat} {x1 : Nat} {x2 : Int32} {q : mq_T (Option Nat)}, gz w Γ n → f_Switch_rowsFor_L9  fu Γ φ n x1 x2 = some q → J w M_Switch_rowsFor 9 [none, some (.ref x1), some (.int x2), none] [] (pic Γ φ) n true q.2.2.1 q.2.2.2 (mqQ w (.inl (some (va_rf q.1))) q.2.1) := by
  intro fu
  induction fu with
  | zero =>
    intro Γ φ n x1 x2 q hZ H
    cases H
  | succ fu ih =>
    intro Γ φ n x1 x2 q hZ H
    unfold f_Switch_rowsFor_L9 at H
    refine J_iload_n d_Switch_rowsFor_9 rfl ?_
    refine J_aload_n d_Switch_rowsFor_10 rfl ?_
    obtain ⟨N15, hN15, H⟩ := Option.bind_eq_some_iff.mp H
    refine F_alen hw hZ.1 (t := 3) rfl d_Switch_rowsFor_11 (gA_some hN15) ?_
    refine J_icmp_ge (tgt := 50) d_Switch_rowsFor_12 (by decide) ?_ ?_
    · intro c23
      rw [if_pos c23] at H
      refine J_aload_n d_Switch_rowsFor_50 rfl ?_
      have H := Option.some.inj H
      subst H
      exact J_aret (st := []) d_Switch_rowsFor_51 rfl (Or.inr ⟨_, rfl⟩) (by first | exact Or.inr ⟨_, rfl⟩ | (generalize (some x1) = r9; cases r9; exact Or.inl rfl; exact Or.inr ⟨_, rfl⟩)) ⟨rfl, rfl, rfl, rfl, hZ⟩
    · intro c23
      rw [if_neg c23] at H
      refine J_iload_n d_Switch_rowsFor_15 rfl ?_
      refine J_iconst (v := 5) d_Switch_rowsFor_16 (by decide) ?_
      have h16 : ¬ (5 : Int32) = 0 := by
        intro q9
        rw [if_pos q9] at H
        cases H
      rw [if_neg h16] at H
      refine J_irem d_Switch_rowsFor_17 h16 ?_
      refine J_istore_n d_Switch_rowsFor_18 (Nat.le_of_ble_eq_true rfl) ?_
      refine J.ls (ls' := [none, some (.ref x1), some (.int x2), some (.int (x2 - x2 / (5 : Int32) * (5 : Int32)))]) rfl ?_
      refine J_aload_n d_Switch_rowsFor_19 rfl ?_
      refine J_iload_n d_Switch_rowsFor_20 rfl ?_
      refine F_new (r := (fun r9 => .inl (some (va_rf r9)))) hZ (by decide) (cf_Row hw) (tb1 hw (i := 65) (by decide +kernel)) (tb1 hw (i := 67) (by decide +kernel)) (tb1 hw (i := 5) (by decide +kernel)) d_Switch_rowsFor_21 dv_Row H ?_
      clear H
      intro Γ17 φ18 n19 q hZ20 H
      refine J_dup d_Switch_rowsFor_24 rfl ?_
      refine J_iload_n d_Switch_rowsFor_25 rfl ?_
      refine J_iconst (v := 1) d_Switch_rowsFor_26 (by decide) ?_
      refine J_icmp_eq (tgt := 35) d_Switch_rowsFor_27 (by decide) ?_ ?_
      · intro c22
        rw [if_pos c22] at H
        refine J.drop [false, true, true, false] rfl ?_
        exact p_Switch_rowsFor_L35 hw ih hZ20 H
      · intro c22
        rw [if_neg c22] at H
        refine J_iload_n d_Switch_rowsFor_30 rfl ?_
        refine J_iconst (v := 4) d_Switch_rowsFor_31 (by decide) ?_
        refine J_icmp_ne (tgt := 39) d_Switch_rowsFor_32 (by decide) ?_ ?_
        · intro c21
          rw [if_neg c21] at H
          refine J_iconst (v := 2) d_Switch_rowsFor_39 (by decide) ?_
          refine J.drop [false, true, true, false] rfl ?_
          exact p_Switch_rowsFor_L40 hw ih hZ20 H
        · intro c21
          rw [if_pos c21] at H
          refine J.drop [false, true, true, false] rfl ?_
          exact p_Switch_rowsFor_L35 hw ih hZ20 H
def f_Switch_rowsFor (Γ : gm_T) (φ : ph_T) (n : Nat) (p0 : Int32) : Option (mq_T (Option Nat)) :=
  mR Γ φ n 3 (p0 * (5 : Int32)) fun Γ24 φ25 n26 =>
  f_Switch_rowsFor_L9  jF Γ24 φ25 n26 n (0 : Int32)
set_option maxRecDepth 100000 in
set_option maxHeartbeats 8000000 in
theorem p_Switch_rowsFor {w : jw_T} (hw : jok w) {Γ : gm_T} {φ : ph_T} {n : Nat} {p0 : Int32} {q : mq_T (Option Nat)} (hZ : gz w Γ n) (H : f_Switch_rowsFor Γ φ n p0 = some q) : jc w M_Switch_rowsFor [.int p0] (pic Γ φ) n true q.2.2.1 q.2.2.2 (mqQ w (.inl (some (va_rf q.1))) q.2.1) := by
  refine jc.of (by simp only [jent_r, jent_i, jent_l, jent_a, jent_0]; exact Nat.le_of_ble_eq_true rfl) ?_
  have hls : jents [.int p0] (jm_nL M_Switch_rowsFor) = [some (.int p0), none, none, none] := by simp only [jents, jent_r, jent_i, jent_l, jent_a, jent_0]; rfl
  rw [hls]
  clear hls
  unfold f_Switch_rowsFor at H
  refine J_iload_n d_Switch_rowsFor_0 rfl ?_
  refine J_iconst (v := 5) d_Switch_rowsFor_1 (by decide) ?_
  refine J_imul d_Switch_rowsFor_2 ?_
  refine F_anew (r := (fun r9 => .inl (some (va_rf r9)))) (C := "BusCrossbar$Row") hZ (jty_at hw rfl) (by decide) (tb1 hw (i := 65) (by decide +kernel)) (tb1 hw (i := 66) (by decide +kernel)) d_Switch_rowsFor_3 H ?_
  clear H
  intro Γ24 φ25 n26 q hZ27 H
  refine J_astore_n d_Switch_rowsFor_6 (Nat.le_of_ble_eq_true rfl) ?_
  refine J.ls (ls' := [some (.int p0), some (.ref n), none, none]) rfl ?_
  refine J_iconst (v := 0) d_Switch_rowsFor_7 (by decide) ?_
  refine J_istore_n d_Switch_rowsFor_8 (Nat.le_of_ble_eq_true rfl) ?_
  refine J.ls (ls' := [some (.int p0), some (.ref n), some (.int (0 : Int32)), none]) rfl ?_
  refine J.drop [false, true, true, false] rfl ?_
  exact p_Switch_rowsFor_L9 hw  _ hZ27 H
theorem ln_UnderWay_init : (parseMethodDescriptor y_UnderWay_init.desc).map (fun q => q.parameters.length) = some 0 := by decide +kernel
def f_UnderWay_init (Γ : gm_T) (φ : ph_T) (n : Nat) (this : Nat) : Option (mq_T (Unit)) :=
  mR Γ φ n 0 (8 : Int32) fun Γ1 φ2 n3 =>
  @ite _ (Γ1 this = .inr 9) _ (
  mR Γ1 (uR φ2 this 0 (some n)) n3 0 (8 : Int32) fun Γ6 φ7 n8 =>
  @ite _ (Γ6 this = .inr 9) _ (
  mR Γ6 (uR φ7 this 1 (some n3)) n8 0 (8 : Int32) fun Γ11 φ12 n13 =>
  @ite _ (Γ11 this = .inr 9) _ (
  mR Γ11 (uR φ12 this 2 (some n8)) n13 0 (8 : Int32) fun Γ16 φ17 n18 =>
  @ite _ (Γ16 this = .inr 9) _ (
  some ((), (Γ16, (uR φ17 this 3 (some n13)), n18), (0, 0))
  ) none
  ) none
  ) none
  ) none
set_option maxRecDepth 100000 in
set_option maxHeartbeats 8000000 in
theorem p_UnderWay_init {w : jw_T} (hw : jok w) {Γ : gm_T} {φ : ph_T} {n : Nat} {this : Nat} {q : mq_T (Unit)} (hZ : gz w Γ n) (H : f_UnderWay_init Γ φ n this = some q) : jc w M_UnderWay_init [.ref this] (pic Γ φ) n true q.2.2.1 q.2.2.2 (mqQ w (.inl none) q.2.1) := by
  refine jc.of (by simp only [jent_r, jent_i, jent_l, jent_a, jent_0]; exact Nat.le_of_ble_eq_true rfl) ?_
  have hls : jents [.ref this] (jm_nL M_UnderWay_init) = [some (.ref this)] := by simp only [jents, jent_r, jent_i, jent_l, jent_a, jent_0]; rfl
  rw [hls]
  clear hls
  unfold f_UnderWay_init at H
  refine J_aload_n d_UnderWay_init_0 rfl ?_
  refine J_objInit (st := []) (tb1 hw (i := 93) (by decide +kernel)) (tb1 hw (i := 31) (by decide +kernel)) (objInit_code hw) d_UnderWay_init_1 rfl (by decide) (by decide) ?_
  refine J_aload_n d_UnderWay_init_4 rfl ?_
  refine J_bipush (v := 8) d_UnderWay_init_5 (by decide) ?_
  refine F_newa0 (r := (fun _ => .inl none)) hw hZ (tb1 hw (i := 86) (by decide +kernel)) d_UnderWay_init_7 H ?_
  clear H
  intro Γ1 φ2 n3 q hZ4 H
  have g5 : Γ1 this = .inr 9 := by
    apply Classical.byContradiction
    intro q9
    rw [if_neg q9] at H
    cases H
  rw [if_pos g5] at H
  refine F_putRF (ci := 9) (k := 0) (v := (some n)) hZ4.1 (cf_UnderWay hw) (tb1 hw (i := 94) (by decide +kernel)) (by decide) (by decide) rfl d_UnderWay_init_9 rfl rfl rfl rfl rfl g5 ?_
  refine J_aload_n d_UnderWay_init_12 rfl ?_
  refine J_bipush (v := 8) d_UnderWay_init_13 (by decide) ?_
  refine F_newa0 (r := (fun _ => .inl none)) hw hZ4 (tb1 hw (i := 86) (by decide +kernel)) d_UnderWay_init_15 H ?_
  clear H
  intro Γ6 φ7 n8 q hZ9 H
  have g10 : Γ6 this = .inr 9 := by
    apply Classical.byContradiction
    intro q9
    rw [if_neg q9] at H
    cases H
  rw [if_pos g10] at H
  refine F_putRF (ci := 9) (k := 1) (v := (some n3)) hZ9.1 (cf_UnderWay hw) (tb1 hw (i := 95) (by decide +kernel)) (by decide) (by decide) rfl d_UnderWay_init_17 rfl rfl rfl rfl rfl g10 ?_
  refine J_aload_n d_UnderWay_init_20 rfl ?_
  refine J_bipush (v := 8) d_UnderWay_init_21 (by decide) ?_
  refine F_newa0 (r := (fun _ => .inl none)) hw hZ9 (tb1 hw (i := 86) (by decide +kernel)) d_UnderWay_init_23 H ?_
  clear H
  intro Γ11 φ12 n13 q hZ14 H
  have g15 : Γ11 this = .inr 9 := by
    apply Classical.byContradiction
    intro q9
    rw [if_neg q9] at H
    cases H
  rw [if_pos g15] at H
  refine F_putRF (ci := 9) (k := 2) (v := (some n8)) hZ14.1 (cf_UnderWay hw) (tb1 hw (i := 97) (by decide +kernel)) (by decide) (by decide) rfl d_UnderWay_init_25 rfl rfl rfl rfl rfl g15 ?_
  refine J_aload_n d_UnderWay_init_28 rfl ?_
  refine J_bipush (v := 8) d_UnderWay_init_29 (by decide) ?_
  refine F_newa0 (r := (fun _ => .inl none)) hw hZ14 (tb1 hw (i := 86) (by decide +kernel)) d_UnderWay_init_31 H ?_
  clear H
  intro Γ16 φ17 n18 q hZ19 H
  have g20 : Γ16 this = .inr 9 := by
    apply Classical.byContradiction
    intro q9
    rw [if_neg q9] at H
    cases H
  rw [if_pos g20] at H
  refine F_putRF (ci := 9) (k := 3) (v := (some n13)) hZ19.1 (cf_UnderWay hw) (tb1 hw (i := 99) (by decide +kernel)) (by decide) (by decide) rfl d_UnderWay_init_33 rfl rfl rfl rfl rfl g20 ?_
  have H := Option.some.inj H
  subst H
  exact J_vret (st := []) d_UnderWay_init_36 rfl ⟨rfl, rfl, rfl, rfl, hZ19⟩
theorem ln_Switch_init : (parseMethodDescriptor y_Switch_init.desc).map (fun q => q.parameters.length) = some 3 := by decide +kernel
def f_Switch_init_L64  : Nat → gm_T → ph_T → Nat → Nat → Int32 → Int32 → Int32 → Option (mq_T (Unit))
  | 0, _, _, _, _, _, _, _ => none
  | fu + 1, Γ, φ, n, x0, x1, x2, x4 =>
    if x1 ≤ x4 then
      mR Γ φ n 0 (x2 + (1 : Int32)) fun Γ1 φ2 n3 =>
      @ite _ (Γ1 x0 = .inr 10) _ (
      mR Γ1 (uR φ2 x0 8 (some n)) n3 0 (x2 + (1 : Int32)) fun Γ6 φ7 n8 =>
      @ite _ (Γ6 x0 = .inr 10) _ (
      mR Γ6 (uR φ7 x0 9 (some n3)) n8 0 x1 fun Γ11 φ12 n13 =>
      @ite _ (Γ11 x0 = .inr 10) _ (
      mR Γ11 (uR φ12 x0 10 (some n8)) n13 0 x1 fun Γ16 φ17 n18 =>
      @ite _ (Γ16 x0 = .inr 10) _ (
      mR Γ16 (uR φ17 x0 11 (some n13)) n18 2 x1 fun Γ21 φ22 n23 =>
      @ite _ (Γ21 x0 = .inr 10) _ (
      Option.bind (f_Switch_reset Γ21 (uR φ22 x0 12 (some n18)) x0) fun q26 =>
      some ((), (Γ21, q26.2, n23), (0, 0))
      ) none
      ) none
      ) none
      ) none
      ) none
    else
      @ite _ (Γ x0 = .inr 10) _ (
      mN Γ φ n 9 fun Γ28 φ29 n30 =>
      @ite _ (Γ28 n = .inr 9) _ (
      mB (f_UnderWay_init Γ28 φ29 n30 n) fun v34 Γ35 φ36 n37 =>
      Option.bind (φ.2.2 x0 6) fun a42 =>
      Option.bind (gA Γ35 a42 4) fun N43 =>
      Option.bind (ix x4 N43) fun k44 =>
      @ite _ (Γ35 n = .inr 9) _ (
      @ite _ (Γ35 x0 = .inr 10) _ (
      mN Γ35 (uR φ36 a42 k44 (some n)) n37 9 fun Γ47 φ48 n49 =>
      @ite _ (Γ47 n37 = .inr 9) _ (
      mB (f_UnderWay_init Γ47 φ48 n49 n37) fun v53 Γ54 φ55 n56 =>
      Option.bind ((uR φ36 a42 k44 (some n)).2.2 x0 7) fun a61 =>
      Option.bind (gA Γ54 a61 4) fun N62 =>
      Option.bind (ix x4 N62) fun k63 =>
      @ite _ (Γ54 n37 = .inr 9) _ (
      (f_Switch_init_L64  fu) Γ54 (uR φ55 a61 k63 (some n37)) n56 x0 x1 x2 (x4 + (1 : Int32))
      ) none
      ) none
      ) none
      ) none
      ) none
      ) none
set_option maxRecDepth 100000 in
set_option maxHeartbeats 8000000 in
theorem p_Switch_init_L64 {w : jw_T} (hw : jok w)  : ∀ (fu : Nat) {Γ : gm_T} {φ : ph_T} {n : Nat} {x0 : Nat} {x1 : Int32} {x2 : Int32} {x4 : Int32} {q : mq_T (Unit)}, gz w Γ n → f_Switch_init_L64  fu Γ φ n x0 x1 x2 x4 = some q → J w M_Switch_init 64 [some (.ref x0), some (.int x1), some (.int x2), none, some (.int x4)] [] (pic Γ φ) n true q.2.2.1 q.2.2.2 (mqQ w (.inl none) q.2.1) := by
  intro fu
  induction fu with
  | zero =>
    intro Γ φ n x0 x1 x2 x4 q hZ H
    cases H
  | succ fu ih =>
    intro Γ φ n x0 x1 x2 x4 q hZ H
    unfold f_Switch_init_L64 at H
    refine J_iload d_Switch_init_64 rfl ?_
    refine J_iload_n d_Switch_init_66 rfl ?_
    refine J_icmp_ge (tgt := 104) d_Switch_init_67 (by decide) ?_ ?_
    · intro c65
      rw [if_pos c65] at H
      refine J_aload_n d_Switch_init_104 rfl ?_
      refine J_iload_n d_Switch_init_105 rfl ?_
      refine J_iconst (v := 1) d_Switch_init_106 (by decide) ?_
      refine J_iadd d_Switch_init_107 ?_
      refine F_newa0 (r := (fun _ => .inl none)) hw hZ (tb1 hw (i := 86) (by decide +kernel)) d_Switch_init_108 H ?_
      clear H
      intro Γ1 φ2 n3 q hZ4 H
      have g5 : Γ1 x0 = .inr 10 := by
        apply Classical.byContradiction
        intro q9
        rw [if_neg q9] at H
        cases H
      rw [if_pos g5] at H
      refine F_putRF (ci := 10) (k := 8) (v := (some n)) hZ4.1 (cf_Switch hw) (tb1 hw (i := 131) (by decide +kernel)) (by decide) (by decide) rfl d_Switch_init_110 rfl rfl rfl rfl rfl g5 ?_
      refine J_aload_n d_Switch_init_113 rfl ?_
      refine J_iload_n d_Switch_init_114 rfl ?_
      refine J_iconst (v := 1) d_Switch_init_115 (by decide) ?_
      refine J_iadd d_Switch_init_116 ?_
      refine F_newa0 (r := (fun _ => .inl none)) hw hZ4 (tb1 hw (i := 86) (by decide +kernel)) d_Switch_init_117 H ?_
      clear H
      intro Γ6 φ7 n8 q hZ9 H
      have g10 : Γ6 x0 = .inr 10 := by
        apply Classical.byContradiction
        intro q9
        rw [if_neg q9] at H
        cases H
      rw [if_pos g10] at H
      refine F_putRF (ci := 10) (k := 9) (v := (some n3)) hZ9.1 (cf_Switch hw) (tb1 hw (i := 132) (by decide +kernel)) (by decide) (by decide) rfl d_Switch_init_119 rfl rfl rfl rfl rfl g10 ?_
      refine J_aload_n d_Switch_init_122 rfl ?_
      refine J_iload_n d_Switch_init_123 rfl ?_
      refine F_newa0 (r := (fun _ => .inl none)) hw hZ9 (tb1 hw (i := 86) (by decide +kernel)) d_Switch_init_124 H ?_
      clear H
      intro Γ11 φ12 n13 q hZ14 H
      have g15 : Γ11 x0 = .inr 10 := by
        apply Classical.byContradiction
        intro q9
        rw [if_neg q9] at H
        cases H
      rw [if_pos g15] at H
      refine F_putRF (ci := 10) (k := 10) (v := (some n8)) hZ14.1 (cf_Switch hw) (tb1 hw (i := 133) (by decide +kernel)) (by decide) (by decide) rfl d_Switch_init_126 rfl rfl rfl rfl rfl g15 ?_
      refine J_aload_n d_Switch_init_129 rfl ?_
      refine J_iload_n d_Switch_init_130 rfl ?_
      refine F_newa0 (r := (fun _ => .inl none)) hw hZ14 (tb1 hw (i := 86) (by decide +kernel)) d_Switch_init_131 H ?_
      clear H
      intro Γ16 φ17 n18 q hZ19 H
      have g20 : Γ16 x0 = .inr 10 := by
        apply Classical.byContradiction
        intro q9
        rw [if_neg q9] at H
        cases H
      rw [if_pos g20] at H
      refine F_putRF (ci := 10) (k := 11) (v := (some n13)) hZ19.1 (cf_Switch hw) (tb1 hw (i := 134) (by decide +kernel)) (by decide) (by decide) rfl d_Switch_init_133 rfl rfl rfl rfl rfl g20 ?_
      refine J_aload_n d_Switch_init_136 rfl ?_
      refine J_iload_n d_Switch_init_137 rfl ?_
      refine F_newa2 (r := (fun _ => .inl none)) hw hZ19 (tb1 hw (i := 177) (by decide +kernel)) d_Switch_init_138 H ?_
      clear H
      intro Γ21 φ22 n23 q hZ24 H
      have g25 : Γ21 x0 = .inr 10 := by
        apply Classical.byContradiction
        intro q9
        rw [if_neg q9] at H
        cases H
      rw [if_pos g25] at H
      refine F_putRF (ci := 10) (k := 12) (v := (some n18)) hZ24.1 (cf_Switch hw) (tb1 hw (i := 135) (by decide +kernel)) (by decide) (by decide) rfl d_Switch_init_140 rfl rfl rfl rfl rfl g25 ?_
      refine J_aload_n d_Switch_init_143 rfl ?_
      obtain ⟨q26, hq26, H⟩ := Option.bind_eq_some_iff.mp H
      refine J.kk (Nat.zero_add _) (Nat.zero_add _) ?_
      refine J_callV (kc := q.2.2.1) (ks := q.2.2.2) (kc' := 0) (ks' := 0) (a := x0) (ci := 10) (as := []) (st := []) (mf_Switch_reset hw) (mv_Switch_62 hw) d_Switch_init_144 ln_Switch_reset (by decide) (by first | exact Nat.le_of_ble_eq_true rfl | (simp only [List.map_cons, List.map_nil, List.sum_cons, List.sum_nil, va_rf_cat]; exact Nat.le_of_ble_eq_true rfl)) rfl ((hZ24.1 _).1 _ g25 (by decide)).1 ((hZ24.1 _).1 _ g25 (by decide)).2 (by unfold pic; rw [g25]; rfl) (jcl_at hw rfl) rfl (jc.exact (p_Switch_reset hw hZ24.1 hq26)) ?_ (fun E9 h9 n9 x9 e9 => by cases e9.1)
      intro v9 h9 n9 x9 e9
      obtain ⟨e91, e92, e93, e94⟩ := e9
      cases e91
      subst e92
      have e95 : n23 = n9 := e93.symm
      subst e95
      subst e94
      show J _ _ _ _ [] _ _ _ _ _ _
      have H := Option.some.inj H
      subst H
      exact J_vret (st := []) d_Switch_init_147 rfl ⟨rfl, rfl, rfl, rfl, hZ24⟩
    · intro c65
      rw [if_neg c65] at H
      refine J_aload_n d_Switch_init_70 rfl ?_
      have g27 : Γ x0 = .inr 10 := by
        apply Classical.byContradiction
        intro q9
        rw [if_neg q9] at H
        cases H
      rw [if_pos g27] at H
      refine F_getR (ci := 10) (k := 6) hZ.1 (cf_Switch hw) (fl_Switch_38 hw) (by decide) (by decide) rfl d_Switch_init_71 g27 ?_
      refine J_iload d_Switch_init_74 rfl ?_
      refine F_new (r := (fun _ => .inl none)) hZ (by decide) (cf_UnderWay hw) (tb1 hw (i := 87) (by decide +kernel)) (tb1 hw (i := 89) (by decide +kernel)) (tb1 hw (i := 6) (by decide +kernel)) d_Switch_init_76 dv_UnderWay H ?_
      clear H
      intro Γ28 φ29 n30 q hZ31 H
      refine J_dup d_Switch_init_79 rfl ?_
      have g32 : Γ28 n = .inr 9 := by
        apply Classical.byContradiction
        intro q9
        rw [if_neg q9] at H
        cases H
      rw [if_pos g32] at H
      obtain ⟨v34, Γ35, φ36, n37, c38, s39, q40, hq33, H1, hq9⟩ := mB_some H
      clear H
      subst hq9
      show J _ _ _ _ _ _ _ _ (c38 + q40.2.2.1) (s39 + q40.2.2.2) _
      refine J_callI (kc := q40.2.2.1) (ks := q40.2.2.2) (kc' := c38) (ks' := s39) (a := n) (as := []) (st := [.ref n, .int x4, va_rf (φ.2.2 x0 6)]) (mf_UnderWay_init hw) rfl rfl (mi_Switch_45 hw) rfl (tb1 hw (i := 92) rfl) d_Switch_init_80 ln_UnderWay_init (by decide) (by first | exact Nat.le_of_ble_eq_true rfl | (simp only [List.map_cons, List.map_nil, List.sum_cons, List.sum_nil, va_rf_cat]; exact Nat.le_of_ble_eq_true rfl)) rfl (p_UnderWay_init hw hZ31 hq33) ?_ (fun E9 h9 n9 x9 e9 => by cases e9.1)
      clear hq33
      intro v9 h9 n9 x9 e9
      obtain ⟨e91, e92, e93, e94, hZ41⟩ := e9
      cases e91
      subst e92
      have e95 : n37 = n9 := e93.symm
      subst e95
      subst e94
      show J _ _ _ _ [.ref n, .int x4, va_rf (φ.2.2 x0 6)] (pic Γ35 φ36) n37 true q40.2.2.1 q40.2.2.2 (mqQ w (.inl none) q40.2.1)
      revert H1
      generalize q40 = q
      intro H
      obtain ⟨a42, ha42, H⟩ := Option.bind_eq_some_iff.mp H
      rw [j_rf ha42]
      obtain ⟨N43, hN43, H⟩ := Option.bind_eq_some_iff.mp H
      obtain ⟨k44, hk44, H⟩ := Option.bind_eq_some_iff.mp H
      have g45 : Γ35 n = .inr 9 := by
        apply Classical.byContradiction
        intro q9
        rw [if_neg q9] at H
        cases H
      rw [if_pos g45] at H
      refine F_aast k44 hw hZ41.1 (t := 4) (ci := 9) (r := ("BusCrossbar$UnderWay", T_UnderWay, 5)) rfl (by decide) rfl (by decide) d_Switch_init_83 (gA_some hN43) g45 (ix_some hk44) ?_
      refine J_aload_n d_Switch_init_84 rfl ?_
      have g46 : Γ35 x0 = .inr 10 := by
        apply Classical.byContradiction
        intro q9
        rw [if_neg q9] at H
        cases H
      rw [if_pos g46] at H
      refine F_getR (ci := 10) (k := 7) hZ41.1 (cf_Switch hw) (fl_Switch_42 hw) (by decide) (by decide) rfl d_Switch_init_85 g46 ?_
      refine J_iload d_Switch_init_88 rfl ?_
      refine F_new (r := (fun _ => .inl none)) hZ41 (by decide) (cf_UnderWay hw) (tb1 hw (i := 87) (by decide +kernel)) (tb1 hw (i := 89) (by decide +kernel)) (tb1 hw (i := 6) (by decide +kernel)) d_Switch_init_90 dv_UnderWay H ?_
      clear H
      intro Γ47 φ48 n49 q hZ50 H
      refine J_dup d_Switch_init_93 rfl ?_
      have g51 : Γ47 n37 = .inr 9 := by
        apply Classical.byContradiction
        intro q9
        rw [if_neg q9] at H
        cases H
      rw [if_pos g51] at H
      obtain ⟨v53, Γ54, φ55, n56, c57, s58, q59, hq52, H1, hq9⟩ := mB_some H
      clear H
      subst hq9
      show J _ _ _ _ _ _ _ _ (c57 + q59.2.2.1) (s58 + q59.2.2.2) _
      refine J_callI (kc := q59.2.2.1) (ks := q59.2.2.2) (kc' := c57) (ks' := s58) (a := n37) (as := []) (st := [.ref n37, .int x4, va_rf ((uR φ36 a42 k44 (some n)).2.2 x0 7)]) (mf_UnderWay_init hw) rfl rfl (mi_Switch_45 hw) rfl (tb1 hw (i := 92) rfl) d_Switch_init_94 ln_UnderWay_init (by decide) (by first | exact Nat.le_of_ble_eq_true rfl | (simp only [List.map_cons, List.map_nil, List.sum_cons, List.sum_nil, va_rf_cat]; exact Nat.le_of_ble_eq_true rfl)) rfl (p_UnderWay_init hw hZ50 hq52) ?_ (fun E9 h9 n9 x9 e9 => by cases e9.1)
      clear hq52
      intro v9 h9 n9 x9 e9
      obtain ⟨e91, e92, e93, e94, hZ60⟩ := e9
      cases e91
      subst e92
      have e95 : n56 = n9 := e93.symm
      subst e95
      subst e94
      show J _ _ _ _ [.ref n37, .int x4, va_rf ((uR φ36 a42 k44 (some n)).2.2 x0 7)] (pic Γ54 φ55) n56 true q59.2.2.1 q59.2.2.2 (mqQ w (.inl none) q59.2.1)
      revert H1
      generalize q59 = q
      intro H
      obtain ⟨a61, ha61, H⟩ := Option.bind_eq_some_iff.mp H
      rw [j_rf ha61]
      obtain ⟨N62, hN62, H⟩ := Option.bind_eq_some_iff.mp H
      obtain ⟨k63, hk63, H⟩ := Option.bind_eq_some_iff.mp H
      have g64 : Γ54 n37 = .inr 9 := by
        apply Classical.byContradiction
        intro q9
        rw [if_neg q9] at H
        cases H
      rw [if_pos g64] at H
      refine F_aast k63 hw hZ60.1 (t := 4) (ci := 9) (r := ("BusCrossbar$UnderWay", T_UnderWay, 5)) rfl (by decide) rfl (by decide) d_Switch_init_97 (gA_some hN62) g64 (ix_some hk63) ?_
      refine J_iinc (v := x4 + 1) d_Switch_init_98 rfl (by rw [show Int32.ofInt 1 = (1 : Int32) from by decide]) ?_
      refine J.ls (ls' := [some (.ref x0), some (.int x1), some (.int x2), none, some (.int (x4 + (1 : Int32)))]) rfl ?_
      refine J_goto (tgt := 64) d_Switch_init_101 (by decide) ?_
      refine J.drop [true, true, true, false, true] rfl ?_
      exact ih hZ60 H
def f_Switch_init (Γ : gm_T) (φ : ph_T) (n : Nat) (this : Nat) (p0 : Int32) (p1 : Int32) (p2 : Int32) : Option (mq_T (Unit)) :=
  mR Γ φ n 0 (16 : Int32) fun Γ66 φ67 n68 =>
  @ite _ (Γ66 this = .inr 10) _ (
  mB (f_Switch_rowsFor Γ66 (uI (uI (uI (uR φ67 this 3 (some n)) this 0 p0) this 1 p1) this 2 p2) n68 p0) fun v72 Γ73 φ74 n75 =>
  @ite _ (Γ73 this = .inr 10) _ (
  mB (f_Switch_rowsFor Γ73 (uR φ74 this 4 v72) n75 (p1 + (1 : Int32))) fun v82 Γ83 φ84 n85 =>
  @ite _ (Γ83 this = .inr 10) _ (
  mR Γ83 (uR φ84 this 5 v82) n85 4 p0 fun Γ91 φ92 n93 =>
  @ite _ (Γ91 this = .inr 10) _ (
  mR Γ91 (uR φ92 this 6 (some n85)) n93 4 p0 fun Γ96 φ97 n98 =>
  @ite _ (Γ96 this = .inr 10) _ (
  f_Switch_init_L64  jF Γ96 (uR φ97 this 7 (some n93)) n98 this p0 p1 (0 : Int32)
  ) none
  ) none
  ) none
  ) none
  ) none
set_option maxRecDepth 100000 in
set_option maxHeartbeats 8000000 in
theorem p_Switch_init {w : jw_T} (hw : jok w) {Γ : gm_T} {φ : ph_T} {n : Nat} {this : Nat} {p0 : Int32} {p1 : Int32} {p2 : Int32} {q : mq_T (Unit)} (hZ : gz w Γ n) (H : f_Switch_init Γ φ n this p0 p1 p2 = some q) : jc w M_Switch_init [.ref this, .int p0, .int p1, .int p2] (pic Γ φ) n true q.2.2.1 q.2.2.2 (mqQ w (.inl none) q.2.1) := by
  refine jc.of (by simp only [jent_r, jent_i, jent_l, jent_a, jent_0]; exact Nat.le_of_ble_eq_true rfl) ?_
  have hls : jents [.ref this, .int p0, .int p1, .int p2] (jm_nL M_Switch_init) = [some (.ref this), some (.int p0), some (.int p1), some (.int p2), none] := by simp only [jents, jent_r, jent_i, jent_l, jent_a, jent_0]; rfl
  rw [hls]
  clear hls
  unfold f_Switch_init at H
  refine J_aload_n d_Switch_init_0 rfl ?_
  refine J_objInit (st := []) (tb1 hw (i := 61) (by decide +kernel)) (tb1 hw (i := 31) (by decide +kernel)) (objInit_code hw) d_Switch_init_1 rfl (by decide) (by decide) ?_
  refine J_aload_n d_Switch_init_4 rfl ?_
  refine J_bipush (v := 16) d_Switch_init_5 (by decide) ?_
  refine F_newa0 (r := (fun _ => .inl none)) hw hZ (tb1 hw (i := 86) (by decide +kernel)) d_Switch_init_7 H ?_
  clear H
  intro Γ66 φ67 n68 q hZ69 H
  have g70 : Γ66 this = .inr 10 := by
    apply Classical.byContradiction
    intro q9
    rw [if_neg q9] at H
    cases H
  rw [if_pos g70] at H
  refine F_putRF (ci := 10) (k := 3) (v := (some n)) hZ69.1 (cf_Switch hw) (tb1 hw (i := 125) (by decide +kernel)) (by decide) (by decide) rfl d_Switch_init_9 rfl rfl rfl rfl rfl g70 ?_
  refine J_aload_n d_Switch_init_12 rfl ?_
  refine J_iload_n d_Switch_init_13 rfl ?_
  refine F_putIF (ci := 10) (k := 0) hZ69.1 (cf_Switch hw) (tb1 hw (i := 121) (by decide +kernel)) (by decide) (by decide) rfl d_Switch_init_14 rfl rfl rfl rfl rfl g70 ?_
  refine J_aload_n d_Switch_init_17 rfl ?_
  refine J_iload_n d_Switch_init_18 rfl ?_
  refine F_putIF (ci := 10) (k := 1) hZ69.1 (cf_Switch hw) (tb1 hw (i := 122) (by decide +kernel)) (by decide) (by decide) rfl d_Switch_init_19 rfl rfl rfl rfl rfl g70 ?_
  refine J_aload_n d_Switch_init_22 rfl ?_
  refine J_iload_n d_Switch_init_23 rfl ?_
  refine F_putIF (ci := 10) (k := 2) hZ69.1 (cf_Switch hw) (tb1 hw (i := 123) (by decide +kernel)) (by decide) (by decide) rfl d_Switch_init_24 rfl rfl rfl rfl rfl g70 ?_
  refine J_aload_n d_Switch_init_27 rfl ?_
  refine J_iload_n d_Switch_init_28 rfl ?_
  obtain ⟨v72, Γ73, φ74, n75, c76, s77, q78, hq71, H1, hq9⟩ := mB_some H
  clear H
  subst hq9
  show J _ _ _ _ _ _ _ _ (c76 + q78.2.2.1) (s77 + q78.2.2.2) _
  refine J_callS (kc := q78.2.2.1) (ks := q78.2.2.2) (kc' := c76) (ks' := s77) (as := [.int p0]) (st := [.ref this]) (mf_Switch_rowsFor hw) (ms_Switch_25 hw) d_Switch_init_29 ln_Switch_rowsFor (by decide) (by first | exact Nat.le_of_ble_eq_true rfl | (simp only [List.map_cons, List.map_nil, List.sum_cons, List.sum_nil, va_rf_cat]; exact Nat.le_of_ble_eq_true rfl)) rfl (p_Switch_rowsFor hw hZ69 hq71) ?_ (fun E9 h9 n9 x9 e9 => by cases e9.1)
  clear hq71
  intro v9 h9 n9 x9 e9
  obtain ⟨e91, e92, e93, e94, hZ79⟩ := e9
  cases e91
  subst e92
  have e95 : n75 = n9 := e93.symm
  subst e95
  subst e94
  show J _ _ _ _ (_ :: _) (pic Γ73 φ74) n75 true q78.2.2.1 q78.2.2.2 (mqQ w (.inl none) q78.2.1)
  revert H1
  generalize q78 = q
  intro H
  have g80 : Γ73 this = .inr 10 := by
    apply Classical.byContradiction
    intro q9
    rw [if_neg q9] at H
    cases H
  rw [if_pos g80] at H
  refine F_putRF (ci := 10) (k := 4) (v := v72) hZ79.1 (cf_Switch hw) (tb1 hw (i := 127) (by decide +kernel)) (by decide) (by decide) rfl d_Switch_init_32 rfl rfl rfl (by generalize v72 = r9; cases r9 <;> rfl) (by generalize v72 = r9; cases r9 <;> rfl) g80 ?_
  refine J_aload_n d_Switch_init_35 rfl ?_
  refine J_iload_n d_Switch_init_36 rfl ?_
  refine J_iconst (v := 1) d_Switch_init_37 (by decide) ?_
  refine J_iadd d_Switch_init_38 ?_
  obtain ⟨v82, Γ83, φ84, n85, c86, s87, q88, hq81, H1, hq9⟩ := mB_some H
  clear H
  subst hq9
  show J _ _ _ _ _ _ _ _ (c86 + q88.2.2.1) (s87 + q88.2.2.2) _
  refine J_callS (kc := q88.2.2.1) (ks := q88.2.2.2) (kc' := c86) (ks' := s87) (as := [.int (p1 + (1 : Int32))]) (st := [.ref this]) (mf_Switch_rowsFor hw) (ms_Switch_25 hw) d_Switch_init_39 ln_Switch_rowsFor (by decide) (by first | exact Nat.le_of_ble_eq_true rfl | (simp only [List.map_cons, List.map_nil, List.sum_cons, List.sum_nil, va_rf_cat]; exact Nat.le_of_ble_eq_true rfl)) rfl (p_Switch_rowsFor hw hZ79 hq81) ?_ (fun E9 h9 n9 x9 e9 => by cases e9.1)
  clear hq81
  intro v9 h9 n9 x9 e9
  obtain ⟨e91, e92, e93, e94, hZ89⟩ := e9
  cases e91
  subst e92
  have e95 : n85 = n9 := e93.symm
  subst e95
  subst e94
  show J _ _ _ _ (_ :: _) (pic Γ83 φ84) n85 true q88.2.2.1 q88.2.2.2 (mqQ w (.inl none) q88.2.1)
  revert H1
  generalize q88 = q
  intro H
  have g90 : Γ83 this = .inr 10 := by
    apply Classical.byContradiction
    intro q9
    rw [if_neg q9] at H
    cases H
  rw [if_pos g90] at H
  refine F_putRF (ci := 10) (k := 5) (v := v82) hZ89.1 (cf_Switch hw) (tb1 hw (i := 128) (by decide +kernel)) (by decide) (by decide) rfl d_Switch_init_42 rfl rfl rfl (by generalize v82 = r9; cases r9 <;> rfl) (by generalize v82 = r9; cases r9 <;> rfl) g90 ?_
  refine J_aload_n d_Switch_init_45 rfl ?_
  refine J_iload_n d_Switch_init_46 rfl ?_
  refine F_anew (r := (fun _ => .inl none)) (C := "BusCrossbar$UnderWay") hZ89 (jty_at hw rfl) (by decide) (tb1 hw (i := 87) (by decide +kernel)) (tb1 hw (i := 88) (by decide +kernel)) d_Switch_init_47 H ?_
  clear H
  intro Γ91 φ92 n93 q hZ94 H
  have g95 : Γ91 this = .inr 10 := by
    apply Classical.byContradiction
    intro q9
    rw [if_neg q9] at H
    cases H
  rw [if_pos g95] at H
  refine F_putRF (ci := 10) (k := 6) (v := (some n85)) hZ94.1 (cf_Switch hw) (tb1 hw (i := 129) (by decide +kernel)) (by decide) (by decide) rfl d_Switch_init_50 rfl rfl rfl rfl rfl g95 ?_
  refine J_aload_n d_Switch_init_53 rfl ?_
  refine J_iload_n d_Switch_init_54 rfl ?_
  refine F_anew (r := (fun _ => .inl none)) (C := "BusCrossbar$UnderWay") hZ94 (jty_at hw rfl) (by decide) (tb1 hw (i := 87) (by decide +kernel)) (tb1 hw (i := 88) (by decide +kernel)) d_Switch_init_55 H ?_
  clear H
  intro Γ96 φ97 n98 q hZ99 H
  have g100 : Γ96 this = .inr 10 := by
    apply Classical.byContradiction
    intro q9
    rw [if_neg q9] at H
    cases H
  rw [if_pos g100] at H
  refine F_putRF (ci := 10) (k := 7) (v := (some n93)) hZ99.1 (cf_Switch hw) (tb1 hw (i := 130) (by decide +kernel)) (by decide) (by decide) rfl d_Switch_init_58 rfl rfl rfl rfl rfl g100 ?_
  refine J_iconst (v := 0) d_Switch_init_61 (by decide) ?_
  refine J_istore d_Switch_init_62 (Nat.le_of_ble_eq_true rfl) ?_
  refine J.ls (ls' := [some (.ref this), some (.int p0), some (.int p1), some (.int p2), some (.int (0 : Int32))]) rfl ?_
  refine J.drop [true, true, true, false, true] rfl ?_
  exact p_Switch_init_L64 hw  _ hZ99 H
theorem ln_Master_init : (parseMethodDescriptor y_Master_init.desc).map (fun q => q.parameters.length) = some 0 := by decide +kernel
def f_Master_init (Γ : gm_T) (φ : ph_T) (n : Nat) (this : Nat) : Option (mq_T (Unit)) :=
  mR Γ φ n 0 (5 : Int32) fun Γ1 φ2 n3 =>
  @ite _ (Γ1 this = .inr 7) _ (
  mR Γ1 (uR φ2 this 0 (some n)) n3 6 (64 : Int32) fun Γ6 φ7 n8 =>
  @ite _ (Γ6 this = .inr 7) _ (
  mR Γ6 (uR φ7 this 2 (some n3)) n8 6 (64 : Int32) fun Γ11 φ12 n13 =>
  @ite _ (Γ11 this = .inr 7) _ (
  Option.bind (f_Arrays_fill1 Γ11 (uR φ12 this 3 (some n8)) ((uR φ12 this 3 (some n8)).2.2 this 0) (65535 : Int32)) fun q16 =>
  some ((), (Γ11, q16.2, n13), (0, 0))
  ) none
  ) none
  ) none
set_option maxRecDepth 100000 in
set_option maxHeartbeats 8000000 in
theorem p_Master_init {w : jw_T} (hw : jok w) {Γ : gm_T} {φ : ph_T} {n : Nat} {this : Nat} {q : mq_T (Unit)} (hZ : gz w Γ n) (H : f_Master_init Γ φ n this = some q) : jc w M_Master_init [.ref this] (pic Γ φ) n true q.2.2.1 q.2.2.2 (mqQ w (.inl none) q.2.1) := by
  refine jc.of (by simp only [jent_r, jent_i, jent_l, jent_a, jent_0]; exact Nat.le_of_ble_eq_true rfl) ?_
  have hls : jents [.ref this] (jm_nL M_Master_init) = [some (.ref this)] := by simp only [jents, jent_r, jent_i, jent_l, jent_a, jent_0]; rfl
  rw [hls]
  clear hls
  unfold f_Master_init at H
  refine J_aload_n d_Master_init_0 rfl ?_
  refine J_objInit (st := []) (tb1 hw (i := 186) (by decide +kernel)) (tb1 hw (i := 31) (by decide +kernel)) (objInit_code hw) d_Master_init_1 rfl (by decide) (by decide) ?_
  refine J_aload_n d_Master_init_4 rfl ?_
  refine J_iconst (v := 5) d_Master_init_5 (by decide) ?_
  refine F_newa0 (r := (fun _ => .inl none)) hw hZ (tb1 hw (i := 86) (by decide +kernel)) d_Master_init_6 H ?_
  clear H
  intro Γ1 φ2 n3 q hZ4 H
  have g5 : Γ1 this = .inr 7 := by
    apply Classical.byContradiction
    intro q9
    rw [if_neg q9] at H
    cases H
  rw [if_pos g5] at H
  refine F_putRF (ci := 7) (k := 0) (v := (some n)) hZ4.1 (cf_Master hw) (tb1 hw (i := 191) (by decide +kernel)) (by decide) (by decide) rfl d_Master_init_8 rfl rfl rfl rfl rfl g5 ?_
  refine J_aload_n d_Master_init_11 rfl ?_
  refine J_bipush (v := 64) d_Master_init_12 (by decide) ?_
  refine F_anew (r := (fun _ => .inl none)) (C := "BusCrossbar$Request") hZ4 (jty_at hw rfl) (by decide) (tb1 hw (i := 187) (by decide +kernel)) (tb1 hw (i := 188) (by decide +kernel)) d_Master_init_14 H ?_
  clear H
  intro Γ6 φ7 n8 q hZ9 H
  have g10 : Γ6 this = .inr 7 := by
    apply Classical.byContradiction
    intro q9
    rw [if_neg q9] at H
    cases H
  rw [if_pos g10] at H
  refine F_putRF (ci := 7) (k := 2) (v := (some n3)) hZ9.1 (cf_Master hw) (tb1 hw (i := 195) (by decide +kernel)) (by decide) (by decide) rfl d_Master_init_17 rfl rfl rfl rfl rfl g10 ?_
  refine J_aload_n d_Master_init_20 rfl ?_
  refine J_bipush (v := 64) d_Master_init_21 (by decide) ?_
  refine F_anew (r := (fun _ => .inl none)) (C := "BusCrossbar$Request") hZ9 (jty_at hw rfl) (by decide) (tb1 hw (i := 187) (by decide +kernel)) (tb1 hw (i := 188) (by decide +kernel)) d_Master_init_23 H ?_
  clear H
  intro Γ11 φ12 n13 q hZ14 H
  have g15 : Γ11 this = .inr 7 := by
    apply Classical.byContradiction
    intro q9
    rw [if_neg q9] at H
    cases H
  rw [if_pos g15] at H
  refine F_putRF (ci := 7) (k := 3) (v := (some n8)) hZ14.1 (cf_Master hw) (tb1 hw (i := 196) (by decide +kernel)) (by decide) (by decide) rfl d_Master_init_26 rfl rfl rfl rfl rfl g15 ?_
  refine J_aload_n d_Master_init_29 rfl ?_
  refine F_getR (ci := 7) (k := 0) hZ14.1 (cf_Master hw) (fl_Master_9 hw) (by decide) (by decide) rfl d_Master_init_30 g15 ?_
  refine J_ldc (v := 65535) d_Master_init_33 (kn_Master_24 hw) ?_
  obtain ⟨q16, hq16, H⟩ := Option.bind_eq_some_iff.mp H
  refine J.kk (Nat.zero_add _) (Nat.zero_add _) ?_
  refine J_callS (kc := q.2.2.1) (ks := q.2.2.2) (kc' := 0) (ks' := 0) (as := [va_rf ((uR φ12 this 3 (some n8)).2.2 this 0), .int (65535 : Int32)]) (st := []) (mf_Arrays_fill1 hw) (ms_Master_25 hw) d_Master_init_35 ln_Arrays_fill1 (by decide) (by first | exact Nat.le_of_ble_eq_true rfl | (simp only [List.map_cons, List.map_nil, List.sum_cons, List.sum_nil, va_rf_cat]; exact Nat.le_of_ble_eq_true rfl)) rfl (jc.exact (p_Arrays_fill1 hw hZ14.1 hq16)) ?_ (fun E9 h9 n9 x9 e9 => by cases e9.1)
  intro v9 h9 n9 x9 e9
  obtain ⟨e91, e92, e93, e94⟩ := e9
  cases e91
  subst e92
  have e95 : n13 = n9 := e93.symm
  subst e95
  subst e94
  show J _ _ _ _ [] _ _ _ _ _ _
  have H := Option.some.inj H
  subst H
  exact J_vret (st := []) d_Master_init_38 rfl ⟨rfl, rfl, rfl, rfl, hZ14⟩
theorem ln_Burst_init : (parseMethodDescriptor y_Burst_init.desc).map (fun q => q.parameters.length) = some 0 := by decide +kernel
def f_Burst_init (Γ : gm_T) (φ : ph_T) (n : Nat) (this : Nat) : Option (mq_T (Unit)) :=
  mR Γ φ n 1 (16 : Int32) fun Γ1 φ2 n3 =>
  @ite _ (Γ1 this = .inr 0) _ (
  mR Γ1 (uR φ2 this 6 (some n)) n3 0 (16 : Int32) fun Γ6 φ7 n8 =>
  @ite _ (Γ6 this = .inr 0) _ (
  some ((), (Γ6, (uR φ7 this 7 (some n3)), n8), (0, 0))
  ) none
  ) none
set_option maxRecDepth 100000 in
set_option maxHeartbeats 8000000 in
theorem p_Burst_init {w : jw_T} (hw : jok w) {Γ : gm_T} {φ : ph_T} {n : Nat} {this : Nat} {q : mq_T (Unit)} (hZ : gz w Γ n) (H : f_Burst_init Γ φ n this = some q) : jc w M_Burst_init [.ref this] (pic Γ φ) n true q.2.2.1 q.2.2.2 (mqQ w (.inl none) q.2.1) := by
  refine jc.of (by simp only [jent_r, jent_i, jent_l, jent_a, jent_0]; exact Nat.le_of_ble_eq_true rfl) ?_
  have hls : jents [.ref this] (jm_nL M_Burst_init) = [some (.ref this)] := by simp only [jents, jent_r, jent_i, jent_l, jent_a, jent_0]; rfl
  rw [hls]
  clear hls
  unfold f_Burst_init at H
  refine J_aload_n d_Burst_init_0 rfl ?_
  refine J_objInit (st := []) (tb2 hw (i := 8) (by decide +kernel)) (tb1 hw (i := 31) (by decide +kernel)) (objInit_code hw) d_Burst_init_1 rfl (by decide) (by decide) ?_
  refine J_aload_n d_Burst_init_4 rfl ?_
  refine J_bipush (v := 16) d_Burst_init_5 (by decide) ?_
  refine F_newa1 (r := (fun _ => .inl none)) hw hZ (tb1 hw (i := 55) (by decide +kernel)) d_Burst_init_7 H ?_
  clear H
  intro Γ1 φ2 n3 q hZ4 H
  have g5 : Γ1 this = .inr 0 := by
    apply Classical.byContradiction
    intro q9
    rw [if_neg q9] at H
    cases H
  rw [if_pos g5] at H
  refine F_putRF (ci := 0) (k := 6) (v := (some n)) hZ4.1 (cf_Burst hw) (tb2 hw (i := 31) (by decide +kernel)) (by decide) (by decide) rfl d_Burst_init_9 rfl rfl rfl rfl rfl g5 ?_
  refine J_aload_n d_Burst_init_12 rfl ?_
  refine J_bipush (v := 16) d_Burst_init_13 (by decide) ?_
  refine F_newa0 (r := (fun _ => .inl none)) hw hZ4 (tb1 hw (i := 86) (by decide +kernel)) d_Burst_init_15 H ?_
  clear H
  intro Γ6 φ7 n8 q hZ9 H
  have g10 : Γ6 this = .inr 0 := by
    apply Classical.byContradiction
    intro q9
    rw [if_neg q9] at H
    cases H
  rw [if_pos g10] at H
  refine F_putRF (ci := 0) (k := 7) (v := (some n3)) hZ9.1 (cf_Burst hw) (tb2 hw (i := 35) (by decide +kernel)) (by decide) (by decide) rfl d_Burst_init_17 rfl rfl rfl rfl rfl g10 ?_
  have H := Option.some.inj H
  subst H
  exact J_vret (st := []) d_Burst_init_20 rfl ⟨rfl, rfl, rfl, rfl, hZ9⟩
theorem ln_Line_init : (parseMethodDescriptor y_Line_init.desc).map (fun q => q.parameters.length) = some 1 := by decide +kernel
def f_Line_init_L14  : Nat → gm_T → ph_T → Nat → Nat → Int32 → Int32 → Option (mq_T (Unit))
  | 0, _, _, _, _, _, _ => none
  | fu + 1, Γ, φ, n, x0, x1, x2 =>
    if x1 ≤ x2 then
      some ((), (Γ, φ, n), (0, 0))
    else
      @ite _ (Γ x0 = .inr 1) _ (
      mN Γ φ n 0 fun Γ2 φ3 n4 =>
      @ite _ (Γ2 n = .inr 0) _ (
      mB (f_Burst_init Γ2 φ3 n4 n) fun v8 Γ9 φ10 n11 =>
      Option.bind (φ.2.2 x0 0) fun a16 =>
      Option.bind (gA Γ9 a16 5) fun N17 =>
      Option.bind (ix x2 N17) fun k18 =>
      @ite _ (Γ9 n = .inr 0) _ (
      (f_Line_init_L14  fu) Γ9 (uR φ10 a16 k18 (some n)) n11 x0 x1 (x2 + (1 : Int32))
      ) none
      ) none
      ) none
set_option maxRecDepth 100000 in
set_option maxHeartbeats 8000000 in
theorem p_Line_init_L14 {w : jw_T} (hw : jok w)  : ∀ (fu : Nat) {Γ : gm_T} {φ : ph_T} {n : Nat} {x0 : Nat} {x1 : Int32} {x2 : Int32} {q : mq_T (Unit)}, gz w Γ n → f_Line_init_L14  fu Γ φ n x0 x1 x2 = some q → J w M_Line_init 14 [some (.ref x0), some (.int x1), some (.int x2)] [] (pic Γ φ) n true q.2.2.1 q.2.2.2 (mqQ w (.inl none) q.2.1) := by
  intro fu
  induction fu with
  | zero =>
    intro Γ φ n x0 x1 x2 q hZ H
    cases H
  | succ fu ih =>
    intro Γ φ n x0 x1 x2 q hZ H
    unfold f_Line_init_L14 at H
    refine J_iload_n d_Line_init_14 rfl ?_
    refine J_iload_n d_Line_init_15 rfl ?_
    refine J_icmp_ge (tgt := 38) d_Line_init_16 (by decide) ?_ ?_
    · intro c20
      rw [if_pos c20] at H
      have H := Option.some.inj H
      subst H
      exact J_vret (st := []) d_Line_init_38 rfl ⟨rfl, rfl, rfl, rfl, hZ⟩
    · intro c20
      rw [if_neg c20] at H
      refine J_aload_n d_Line_init_19 rfl ?_
      have g1 : Γ x0 = .inr 1 := by
        apply Classical.byContradiction
        intro q9
        rw [if_neg q9] at H
        cases H
      rw [if_pos g1] at H
      refine F_getR (ci := 1) (k := 0) hZ.1 (cf_Line hw) (fl_Line_11 hw) (by decide) (by decide) rfl d_Line_init_20 g1 ?_
      refine J_iload_n d_Line_init_23 rfl ?_
      refine F_new (r := (fun _ => .inl none)) hZ (by decide) (cf_Burst hw) (tb2 hw (i := 2) (by decide +kernel)) (tb2 hw (i := 4) (by decide +kernel)) (tb1 hw (i := 12) (by decide +kernel)) d_Line_init_24 dv_Burst H ?_
      clear H
      intro Γ2 φ3 n4 q hZ5 H
      refine J_dup d_Line_init_27 rfl ?_
      have g6 : Γ2 n = .inr 0 := by
        apply Classical.byContradiction
        intro q9
        rw [if_neg q9] at H
        cases H
      rw [if_pos g6] at H
      obtain ⟨v8, Γ9, φ10, n11, c12, s13, q14, hq7, H1, hq9⟩ := mB_some H
      clear H
      subst hq9
      show J _ _ _ _ _ _ _ _ (c12 + q14.2.2.1) (s13 + q14.2.2.2) _
      refine J_callI (kc := q14.2.2.1) (ks := q14.2.2.2) (kc' := c12) (ks' := s13) (a := n) (as := []) (st := [.ref n, .int x2, va_rf (φ.2.2 x0 0)]) (mf_Burst_init hw) rfl rfl (mi_Line_17 hw) rfl (tb2 hw (i := 7) rfl) d_Line_init_28 ln_Burst_init (by decide) (by first | exact Nat.le_of_ble_eq_true rfl | (simp only [List.map_cons, List.map_nil, List.sum_cons, List.sum_nil, va_rf_cat]; exact Nat.le_of_ble_eq_true rfl)) rfl (p_Burst_init hw hZ5 hq7) ?_ (fun E9 h9 n9 x9 e9 => by cases e9.1)
      clear hq7
      intro v9 h9 n9 x9 e9
      obtain ⟨e91, e92, e93, e94, hZ15⟩ := e9
      cases e91
      subst e92
      have e95 : n11 = n9 := e93.symm
      subst e95
      subst e94
      show J _ _ _ _ [.ref n, .int x2, va_rf (φ.2.2 x0 0)] (pic Γ9 φ10) n11 true q14.2.2.1 q14.2.2.2 (mqQ w (.inl none) q14.2.1)
      revert H1
      generalize q14 = q
      intro H
      obtain ⟨a16, ha16, H⟩ := Option.bind_eq_some_iff.mp H
      rw [j_rf ha16]
      obtain ⟨N17, hN17, H⟩ := Option.bind_eq_some_iff.mp H
      obtain ⟨k18, hk18, H⟩ := Option.bind_eq_some_iff.mp H
      have g19 : Γ9 n = .inr 0 := by
        apply Classical.byContradiction
        intro q9
        rw [if_neg q9] at H
        cases H
      rw [if_pos g19] at H
      refine F_aast k18 hw hZ15.1 (t := 5) (ci := 0) (r := ("BusCrossbar$Burst", T_Burst, 8)) rfl (by decide) rfl (by decide) d_Line_init_31 (gA_some hN17) g19 (ix_some hk18) ?_
      refine J_iinc (v := x2 + 1) d_Line_init_32 rfl (by rw [show Int32.ofInt 1 = (1 : Int32) from by decide]) ?_
      refine J.ls (ls' := [some (.ref x0), some (.int x1), some (.int (x2 + (1 : Int32)))]) rfl ?_
      refine J_goto (tgt := 14) d_Line_init_35 (by decide) ?_
      refine J.drop [true, true, true] rfl ?_
      exact ih hZ15 H
def f_Line_init (Γ : gm_T) (φ : ph_T) (n : Nat) (this : Nat) (p0 : Int32) : Option (mq_T (Unit)) :=
  mR Γ φ n 5 p0 fun Γ21 φ22 n23 =>
  @ite _ (Γ21 this = .inr 1) _ (
  f_Line_init_L14  jF Γ21 (uR φ22 this 0 (some n)) n23 this p0 (0 : Int32)
  ) none
set_option maxRecDepth 100000 in
set_option maxHeartbeats 8000000 in
theorem p_Line_init {w : jw_T} (hw : jok w) {Γ : gm_T} {φ : ph_T} {n : Nat} {this : Nat} {p0 : Int32} {q : mq_T (Unit)} (hZ : gz w Γ n) (H : f_Line_init Γ φ n this p0 = some q) : jc w M_Line_init [.ref this, .int p0] (pic Γ φ) n true q.2.2.1 q.2.2.2 (mqQ w (.inl none) q.2.1) := by
  refine jc.of (by simp only [jent_r, jent_i, jent_l, jent_a, jent_0]; exact Nat.le_of_ble_eq_true rfl) ?_
  have hls : jents [.ref this, .int p0] (jm_nL M_Line_init) = [some (.ref this), some (.int p0), none] := by simp only [jents, jent_r, jent_i, jent_l, jent_a, jent_0]; rfl
  rw [hls]
  clear hls
  unfold f_Line_init at H
  refine J_aload_n d_Line_init_0 rfl ?_
  refine J_objInit (st := []) (tb2 hw (i := 1) (by decide +kernel)) (tb1 hw (i := 31) (by decide +kernel)) (objInit_code hw) d_Line_init_1 rfl (by decide) (by decide) ?_
  refine J_aload_n d_Line_init_4 rfl ?_
  refine J_iload_n d_Line_init_5 rfl ?_
  refine F_anew (r := (fun _ => .inl none)) (C := "BusCrossbar$Burst") hZ (jty_at hw rfl) (by decide) (tb2 hw (i := 2) (by decide +kernel)) (tb2 hw (i := 3) (by decide +kernel)) d_Line_init_6 H ?_
  clear H
  intro Γ21 φ22 n23 q hZ24 H
  have g25 : Γ21 this = .inr 1 := by
    apply Classical.byContradiction
    intro q9
    rw [if_neg q9] at H
    cases H
  rw [if_pos g25] at H
  refine F_putRF (ci := 1) (k := 0) (v := (some n)) hZ24.1 (cf_Line hw) (tb2 hw (i := 56) (by decide +kernel)) (by decide) (by decide) rfl d_Line_init_9 rfl rfl rfl rfl rfl g25 ?_
  refine J_iconst (v := 0) d_Line_init_12 (by decide) ?_
  refine J_istore_n d_Line_init_13 (Nat.le_of_ble_eq_true rfl) ?_
  refine J.ls (ls' := [some (.ref this), some (.int p0), some (.int (0 : Int32))]) rfl ?_
  refine J.drop [true, true, true] rfl ?_
  exact p_Line_init_L14 hw  _ hZ24 H
theorem ln_Monitor_init : (parseMethodDescriptor y_Monitor_init.desc).map (fun q => q.parameters.length) = some 0 := by decide +kernel
def f_Monitor_init (Γ : gm_T) (φ : ph_T) (n : Nat) (this : Nat) : Option (mq_T (Unit)) :=
  mN Γ φ n 1 fun Γ1 φ2 n3 =>
  @ite _ (Γ1 n = .inr 1) _ (
  mB (f_Line_init Γ1 φ2 n3 n (16 : Int32)) fun v7 Γ8 φ9 n10 =>
  @ite _ (Γ8 this = .inr 4) _ (
  mN Γ8 (uR φ9 this 0 (some n)) n10 1 fun Γ16 φ17 n18 =>
  @ite _ (Γ16 n10 = .inr 1) _ (
  mB (f_Line_init Γ16 φ17 n18 n10 (16 : Int32)) fun v22 Γ23 φ24 n25 =>
  @ite _ (Γ23 this = .inr 4) _ (
  mR Γ23 (uR φ24 this 1 (some n10)) n25 2 (5 : Int32) fun Γ31 φ32 n33 =>
  @ite _ (Γ31 this = .inr 4) _ (
  mR Γ31 (uR φ32 this 2 (some n25)) n33 1 (5 : Int32) fun Γ36 φ37 n38 =>
  @ite _ (Γ36 this = .inr 4) _ (
  mR Γ36 (uR φ37 this 3 (some n33)) n38 0 (5 : Int32) fun Γ41 φ42 n43 =>
  @ite _ (Γ41 this = .inr 4) _ (
  some ((), (Γ41, (uI (uI (uR φ42 this 4 (some n38)) this 6 (-1 : Int32)) this 7 (-1 : Int32)), n43), (0, 0))
  ) none
  ) none
  ) none
  ) none
  ) none
  ) none
  ) none
set_option maxRecDepth 100000 in
set_option maxHeartbeats 8000000 in
theorem p_Monitor_init {w : jw_T} (hw : jok w) {Γ : gm_T} {φ : ph_T} {n : Nat} {this : Nat} {q : mq_T (Unit)} (hZ : gz w Γ n) (H : f_Monitor_init Γ φ n this = some q) : jc w M_Monitor_init [.ref this] (pic Γ φ) n true q.2.2.1 q.2.2.2 (mqQ w (.inl none) q.2.1) := by
  refine jc.of (by simp only [jent_r, jent_i, jent_l, jent_a, jent_0]; exact Nat.le_of_ble_eq_true rfl) ?_
  have hls : jents [.ref this] (jm_nL M_Monitor_init) = [some (.ref this)] := by simp only [jents, jent_r, jent_i, jent_l, jent_a, jent_0]; rfl
  rw [hls]
  clear hls
  unfold f_Monitor_init at H
  refine J_aload_n d_Monitor_init_0 rfl ?_
  refine J_objInit (st := []) (tb1 hw (i := 235) (by decide +kernel)) (tb1 hw (i := 31) (by decide +kernel)) (objInit_code hw) d_Monitor_init_1 rfl (by decide) (by decide) ?_
  refine J_aload_n d_Monitor_init_4 rfl ?_
  refine F_new (r := (fun _ => .inl none)) hZ (by decide) (cf_Line hw) (tb1 hw (i := 236) (by decide +kernel)) (tb1 hw (i := 237) (by decide +kernel)) (tb1 hw (i := 11) (by decide +kernel)) d_Monitor_init_5 dv_Line H ?_
  clear H
  intro Γ1 φ2 n3 q hZ4 H
  refine J_dup d_Monitor_init_8 rfl ?_
  refine J_bipush (v := 16) d_Monitor_init_9 (by decide) ?_
  have g5 : Γ1 n = .inr 1 := by
    apply Classical.byContradiction
    intro q9
    rw [if_neg q9] at H
    cases H
  rw [if_pos g5] at H
  obtain ⟨v7, Γ8, φ9, n10, c11, s12, q13, hq6, H1, hq9⟩ := mB_some H
  clear H
  subst hq9
  show J _ _ _ _ _ _ _ _ (c11 + q13.2.2.1) (s12 + q13.2.2.2) _
  refine J_callI (kc := q13.2.2.1) (ks := q13.2.2.2) (kc' := c11) (ks' := s12) (a := n) (as := [.int (16 : Int32)]) (st := [.ref n, .ref this]) (mf_Line_init hw) rfl rfl (mi_Monitor_11 hw) rfl (tb2 hw (i := 0) rfl) d_Monitor_init_11 ln_Line_init (by decide) (by first | exact Nat.le_of_ble_eq_true rfl | (simp only [List.map_cons, List.map_nil, List.sum_cons, List.sum_nil, va_rf_cat]; exact Nat.le_of_ble_eq_true rfl)) rfl (p_Line_init hw hZ4 hq6) ?_ (fun E9 h9 n9 x9 e9 => by cases e9.1)
  clear hq6
  intro v9 h9 n9 x9 e9
  obtain ⟨e91, e92, e93, e94, hZ14⟩ := e9
  cases e91
  subst e92
  have e95 : n10 = n9 := e93.symm
  subst e95
  subst e94
  show J _ _ _ _ [.ref n, .ref this] (pic Γ8 φ9) n10 true q13.2.2.1 q13.2.2.2 (mqQ w (.inl none) q13.2.1)
  revert H1
  generalize q13 = q
  intro H
  have g15 : Γ8 this = .inr 4 := by
    apply Classical.byContradiction
    intro q9
    rw [if_neg q9] at H
    cases H
  rw [if_pos g15] at H
  refine F_putRF (ci := 4) (k := 0) (v := (some n)) hZ14.1 (cf_Monitor hw) (tb2 hw (i := 67) (by decide +kernel)) (by decide) (by decide) rfl d_Monitor_init_14 rfl rfl rfl rfl rfl g15 ?_
  refine J_aload_n d_Monitor_init_17 rfl ?_
  refine F_new (r := (fun _ => .inl none)) hZ14 (by decide) (cf_Line hw) (tb1 hw (i := 236) (by decide +kernel)) (tb1 hw (i := 237) (by decide +kernel)) (tb1 hw (i := 11) (by decide +kernel)) d_Monitor_init_18 dv_Line H ?_
  clear H
  intro Γ16 φ17 n18 q hZ19 H
  refine J_dup d_Monitor_init_21 rfl ?_
  refine J_bipush (v := 16) d_Monitor_init_22 (by decide) ?_
  have g20 : Γ16 n10 = .inr 1 := by
    apply Classical.byContradiction
    intro q9
    rw [if_neg q9] at H
    cases H
  rw [if_pos g20] at H
  obtain ⟨v22, Γ23, φ24, n25, c26, s27, q28, hq21, H1, hq9⟩ := mB_some H
  clear H
  subst hq9
  show J _ _ _ _ _ _ _ _ (c26 + q28.2.2.1) (s27 + q28.2.2.2) _
  refine J_callI (kc := q28.2.2.1) (ks := q28.2.2.2) (kc' := c26) (ks' := s27) (a := n10) (as := [.int (16 : Int32)]) (st := [.ref n10, .ref this]) (mf_Line_init hw) rfl rfl (mi_Monitor_11 hw) rfl (tb2 hw (i := 0) rfl) d_Monitor_init_24 ln_Line_init (by decide) (by first | exact Nat.le_of_ble_eq_true rfl | (simp only [List.map_cons, List.map_nil, List.sum_cons, List.sum_nil, va_rf_cat]; exact Nat.le_of_ble_eq_true rfl)) rfl (p_Line_init hw hZ19 hq21) ?_ (fun E9 h9 n9 x9 e9 => by cases e9.1)
  clear hq21
  intro v9 h9 n9 x9 e9
  obtain ⟨e91, e92, e93, e94, hZ29⟩ := e9
  cases e91
  subst e92
  have e95 : n25 = n9 := e93.symm
  subst e95
  subst e94
  show J _ _ _ _ [.ref n10, .ref this] (pic Γ23 φ24) n25 true q28.2.2.1 q28.2.2.2 (mqQ w (.inl none) q28.2.1)
  revert H1
  generalize q28 = q
  intro H
  have g30 : Γ23 this = .inr 4 := by
    apply Classical.byContradiction
    intro q9
    rw [if_neg q9] at H
    cases H
  rw [if_pos g30] at H
  refine F_putRF (ci := 4) (k := 1) (v := (some n10)) hZ29.1 (cf_Monitor hw) (tb2 hw (i := 69) (by decide +kernel)) (by decide) (by decide) rfl d_Monitor_init_27 rfl rfl rfl rfl rfl g30 ?_
  refine J_aload_n d_Monitor_init_30 rfl ?_
  refine J_iconst (v := 5) d_Monitor_init_31 (by decide) ?_
  refine F_newa2 (r := (fun _ => .inl none)) hw hZ29 (tb1 hw (i := 177) (by decide +kernel)) d_Monitor_init_32 H ?_
  clear H
  intro Γ31 φ32 n33 q hZ34 H
  have g35 : Γ31 this = .inr 4 := by
    apply Classical.byContradiction
    intro q9
    rw [if_neg q9] at H
    cases H
  rw [if_pos g35] at H
  refine F_putRF (ci := 4) (k := 2) (v := (some n25)) hZ34.1 (cf_Monitor hw) (tb2 hw (i := 71) (by decide +kernel)) (by decide) (by decide) rfl d_Monitor_init_34 rfl rfl rfl rfl rfl g35 ?_
  refine J_aload_n d_Monitor_init_37 rfl ?_
  refine J_iconst (v := 5) d_Monitor_init_38 (by decide) ?_
  refine F_newa1 (r := (fun _ => .inl none)) hw hZ34 (tb1 hw (i := 55) (by decide +kernel)) d_Monitor_init_39 H ?_
  clear H
  intro Γ36 φ37 n38 q hZ39 H
  have g40 : Γ36 this = .inr 4 := by
    apply Classical.byContradiction
    intro q9
    rw [if_neg q9] at H
    cases H
  rw [if_pos g40] at H
  refine F_putRF (ci := 4) (k := 3) (v := (some n33)) hZ39.1 (cf_Monitor hw) (tb2 hw (i := 72) (by decide +kernel)) (by decide) (by decide) rfl d_Monitor_init_41 rfl rfl rfl rfl rfl g40 ?_
  refine J_aload_n d_Monitor_init_44 rfl ?_
  refine J_iconst (v := 5) d_Monitor_init_45 (by decide) ?_
  refine F_newa0 (r := (fun _ => .inl none)) hw hZ39 (tb1 hw (i := 86) (by decide +kernel)) d_Monitor_init_46 H ?_
  clear H
  intro Γ41 φ42 n43 q hZ44 H
  have g45 : Γ41 this = .inr 4 := by
    apply Classical.byContradiction
    intro q9
    rw [if_neg q9] at H
    cases H
  rw [if_pos g45] at H
  refine F_putRF (ci := 4) (k := 4) (v := (some n38)) hZ44.1 (cf_Monitor hw) (tb2 hw (i := 73) (by decide +kernel)) (by decide) (by decide) rfl d_Monitor_init_48 rfl rfl rfl rfl rfl g45 ?_
  refine J_aload_n d_Monitor_init_51 rfl ?_
  refine J_iconst (v := -1) d_Monitor_init_52 (by decide) ?_
  refine F_putI (ci := 4) (k := 6) hZ44.1 (cf_Monitor hw) (fl_Monitor_35 hw) (by decide) (by decide) rfl d_Monitor_init_53 rfl rfl rfl g45 ?_
  refine J_aload_n d_Monitor_init_56 rfl ?_
  refine J_iconst (v := -1) d_Monitor_init_57 (by decide) ?_
  refine F_putI (ci := 4) (k := 7) hZ44.1 (cf_Monitor hw) (fl_Monitor_39 hw) (by decide) (by decide) rfl d_Monitor_init_58 rfl rfl rfl g45 ?_
  have H := Option.some.inj H
  subst H
  exact J_vret (st := []) d_Monitor_init_61 rfl ⟨rfl, rfl, rfl, rfl, hZ44⟩
theorem ln_Port_init : (parseMethodDescriptor y_Port_init.desc).map (fun q => q.parameters.length) = some 0 := by decide +kernel
def f_Port_init (Γ : gm_T) (φ : ph_T) (n : Nat) (this : Nat) : Option (mq_T (Unit)) :=
  mR Γ φ n 2 (5 : Int32) fun Γ1 φ2 n3 =>
  @ite _ (Γ1 this = .inr 5) _ (
  mR Γ1 (uR φ2 this 0 (some n)) n3 2 (5 : Int32) fun Γ6 φ7 n8 =>
  @ite _ (Γ6 this = .inr 5) _ (
  mR Γ6 (uR φ7 this 1 (some n3)) n8 2 (5 : Int32) fun Γ11 φ12 n13 =>
  @ite _ (Γ11 this = .inr 5) _ (
  mR Γ11 (uR φ12 this 2 (some n8)) n13 1 (5 : Int32) fun Γ16 φ17 n18 =>
  @ite _ (Γ16 this = .inr 5) _ (
  mR Γ16 (uR φ17 this 3 (some n13)) n18 0 (5 : Int32) fun Γ21 φ22 n23 =>
  @ite _ (Γ21 this = .inr 5) _ (
  mR Γ21 (uR φ22 this 4 (some n18)) n23 0 (5 : Int32) fun Γ26 φ27 n28 =>
  @ite _ (Γ26 this = .inr 5) _ (
  mN Γ26 (uR φ27 this 5 (some n23)) n28 4 fun Γ31 φ32 n33 =>
  @ite _ (Γ31 n28 = .inr 4) _ (
  mB (f_Monitor_init Γ31 φ32 n33 n28) fun v37 Γ38 φ39 n40 =>
  @ite _ (Γ38 this = .inr 5) _ (
  some ((), (Γ38, (uR φ39 this 6 (some n28)), n40), (0, 0))
  ) none
  ) none
  ) none
  ) none
  ) none
  ) none
  ) none
  ) none
set_option maxRecDepth 100000 in
set_option maxHeartbeats 8000000 in
theorem p_Port_init {w : jw_T} (hw : jok w) {Γ : gm_T} {φ : ph_T} {n : Nat} {this : Nat} {q : mq_T (Unit)} (hZ : gz w Γ n) (H : f_Port_init Γ φ n this = some q) : jc w M_Port_init [.ref this] (pic Γ φ) n true q.2.2.1 q.2.2.2 (mqQ w (.inl none) q.2.1) := by
  refine jc.of (by simp only [jent_r, jent_i, jent_l, jent_a, jent_0]; exact Nat.le_of_ble_eq_true rfl) ?_
  have hls : jents [.ref this] (jm_nL M_Port_init) = [some (.ref this)] := by simp only [jents, jent_r, jent_i, jent_l, jent_a, jent_0]; rfl
  rw [hls]
  clear hls
  unfold f_Port_init at H
  refine J_aload_n d_Port_init_0 rfl ?_
  refine J_objInit (st := []) (tb1 hw (i := 229) (by decide +kernel)) (tb1 hw (i := 31) (by decide +kernel)) (objInit_code hw) d_Port_init_1 rfl (by decide) (by decide) ?_
  refine J_aload_n d_Port_init_4 rfl ?_
  refine J_iconst (v := 5) d_Port_init_5 (by decide) ?_
  refine F_newa2 (r := (fun _ => .inl none)) hw hZ (tb1 hw (i := 177) (by decide +kernel)) d_Port_init_6 H ?_
  clear H
  intro Γ1 φ2 n3 q hZ4 H
  have g5 : Γ1 this = .inr 5 := by
    apply Classical.byContradiction
    intro q9
    rw [if_neg q9] at H
    cases H
  rw [if_pos g5] at H
  refine F_putRF (ci := 5) (k := 0) (v := (some n)) hZ4.1 (cf_Port hw) (tb2 hw (i := 99) (by decide +kernel)) (by decide) (by decide) rfl d_Port_init_8 rfl rfl rfl rfl rfl g5 ?_
  refine J_aload_n d_Port_init_11 rfl ?_
  refine J_iconst (v := 5) d_Port_init_12 (by decide) ?_
  refine F_newa2 (r := (fun _ => .inl none)) hw hZ4 (tb1 hw (i := 177) (by decide +kernel)) d_Port_init_13 H ?_
  clear H
  intro Γ6 φ7 n8 q hZ9 H
  have g10 : Γ6 this = .inr 5 := by
    apply Classical.byContradiction
    intro q9
    rw [if_neg q9] at H
    cases H
  rw [if_pos g10] at H
  refine F_putRF (ci := 5) (k := 1) (v := (some n3)) hZ9.1 (cf_Port hw) (tb2 hw (i := 102) (by decide +kernel)) (by decide) (by decide) rfl d_Port_init_15 rfl rfl rfl rfl rfl g10 ?_
  refine J_aload_n d_Port_init_18 rfl ?_
  refine J_iconst (v := 5) d_Port_init_19 (by decide) ?_
  refine F_newa2 (r := (fun _ => .inl none)) hw hZ9 (tb1 hw (i := 177) (by decide +kernel)) d_Port_init_20 H ?_
  clear H
  intro Γ11 φ12 n13 q hZ14 H
  have g15 : Γ11 this = .inr 5 := by
    apply Classical.byContradiction
    intro q9
    rw [if_neg q9] at H
    cases H
  rw [if_pos g15] at H
  refine F_putRF (ci := 5) (k := 2) (v := (some n8)) hZ14.1 (cf_Port hw) (tb2 hw (i := 108) (by decide +kernel)) (by decide) (by decide) rfl d_Port_init_22 rfl rfl rfl rfl rfl g15 ?_
  refine J_aload_n d_Port_init_25 rfl ?_
  refine J_iconst (v := 5) d_Port_init_26 (by decide) ?_
  refine F_newa1 (r := (fun _ => .inl none)) hw hZ14 (tb1 hw (i := 55) (by decide +kernel)) d_Port_init_27 H ?_
  clear H
  intro Γ16 φ17 n18 q hZ19 H
  have g20 : Γ16 this = .inr 5 := by
    apply Classical.byContradiction
    intro q9
    rw [if_neg q9] at H
    cases H
  rw [if_pos g20] at H
  refine F_putRF (ci := 5) (k := 3) (v := (some n13)) hZ19.1 (cf_Port hw) (tb2 hw (i := 111) (by decide +kernel)) (by decide) (by decide) rfl d_Port_init_29 rfl rfl rfl rfl rfl g20 ?_
  refine J_aload_n d_Port_init_32 rfl ?_
  refine J_iconst (v := 5) d_Port_init_33 (by decide) ?_
  refine F_newa0 (r := (fun _ => .inl none)) hw hZ19 (tb1 hw (i := 86) (by decide +kernel)) d_Port_init_34 H ?_
  clear H
  intro Γ21 φ22 n23 q hZ24 H
  have g25 : Γ21 this = .inr 5 := by
    apply Classical.byContradiction
    intro q9
    rw [if_neg q9] at H
    cases H
  rw [if_pos g25] at H
  refine F_putRF (ci := 5) (k := 4) (v := (some n18)) hZ24.1 (cf_Port hw) (tb2 hw (i := 117) (by decide +kernel)) (by decide) (by decide) rfl d_Port_init_36 rfl rfl rfl rfl rfl g25 ?_
  refine J_aload_n d_Port_init_39 rfl ?_
  refine J_iconst (v := 5) d_Port_init_40 (by decide) ?_
  refine F_newa0 (r := (fun _ => .inl none)) hw hZ24 (tb1 hw (i := 86) (by decide +kernel)) d_Port_init_41 H ?_
  clear H
  intro Γ26 φ27 n28 q hZ29 H
  have g30 : Γ26 this = .inr 5 := by
    apply Classical.byContradiction
    intro q9
    rw [if_neg q9] at H
    cases H
  rw [if_pos g30] at H
  refine F_putRF (ci := 5) (k := 5) (v := (some n23)) hZ29.1 (cf_Port hw) (tb2 hw (i := 123) (by decide +kernel)) (by decide) (by decide) rfl d_Port_init_43 rfl rfl rfl rfl rfl g30 ?_
  refine J_aload_n d_Port_init_46 rfl ?_
  refine F_new (r := (fun _ => .inl none)) hZ29 (by decide) (cf_Monitor hw) (tb1 hw (i := 230) (by decide +kernel)) (tb1 hw (i := 231) (by decide +kernel)) (tb1 hw (i := 10) (by decide +kernel)) d_Port_init_47 dv_Monitor H ?_
  clear H
  intro Γ31 φ32 n33 q hZ34 H
  refine J_dup d_Port_init_50 rfl ?_
  have g35 : Γ31 n28 = .inr 4 := by
    apply Classical.byContradiction
    intro q9
    rw [if_neg q9] at H
    cases H
  rw [if_pos g35] at H
  obtain ⟨v37, Γ38, φ39, n40, c41, s42, q43, hq36, H1, hq9⟩ := mB_some H
  clear H
  subst hq9
  show J _ _ _ _ _ _ _ _ (c41 + q43.2.2.1) (s42 + q43.2.2.2) _
  refine J_callI (kc := q43.2.2.1) (ks := q43.2.2.2) (kc' := c41) (ks' := s42) (a := n28) (as := []) (st := [.ref n28, .ref this]) (mf_Monitor_init hw) rfl rfl (mi_Port_34 hw) rfl (tb1 hw (i := 234) rfl) d_Port_init_51 ln_Monitor_init (by decide) (by first | exact Nat.le_of_ble_eq_true rfl | (simp only [List.map_cons, List.map_nil, List.sum_cons, List.sum_nil, va_rf_cat]; exact Nat.le_of_ble_eq_true rfl)) rfl (p_Monitor_init hw hZ34 hq36) ?_ (fun E9 h9 n9 x9 e9 => by cases e9.1)
  clear hq36
  intro v9 h9 n9 x9 e9
  obtain ⟨e91, e92, e93, e94, hZ44⟩ := e9
  cases e91
  subst e92
  have e95 : n40 = n9 := e93.symm
  subst e95
  subst e94
  show J _ _ _ _ [.ref n28, .ref this] (pic Γ38 φ39) n40 true q43.2.2.1 q43.2.2.2 (mqQ w (.inl none) q43.2.1)
  revert H1
  generalize q43 = q
  intro H
  have g45 : Γ38 this = .inr 5 := by
    apply Classical.byContradiction
    intro q9
    rw [if_neg q9] at H
    cases H
  rw [if_pos g45] at H
  refine F_putRF (ci := 5) (k := 6) (v := (some n28)) hZ44.1 (cf_Port hw) (tb2 hw (i := 125) (by decide +kernel)) (by decide) (by decide) rfl d_Port_init_54 rfl rfl rfl rfl rfl g45 ?_
  have H := Option.some.inj H
  subst H
  exact J_vret (st := []) d_Port_init_57 rfl ⟨rfl, rfl, rfl, rfl, hZ44⟩
theorem ln_Slave_init : (parseMethodDescriptor y_Slave_init.desc).map (fun q => q.parameters.length) = some 1 := by decide +kernel
def f_Slave_init (Γ : gm_T) (φ : ph_T) (n : Nat) (this : Nat) (p0 : Option Nat) : Option (mq_T (Unit)) :=
  mR Γ φ n 0 (5 : Int32) fun Γ1 φ2 n3 =>
  @ite _ (Γ1 this = .inr 8) _ (
  mN Γ1 (uR φ2 this 1 (some n)) n3 1 fun Γ6 φ7 n8 =>
  @ite _ (Γ6 n3 = .inr 1) _ (
  mB (f_Line_init Γ6 φ7 n8 n3 (4 : Int32)) fun v12 Γ13 φ14 n15 =>
  @ite _ (Γ13 this = .inr 8) _ (
  mN Γ13 (uR φ14 this 2 (some n3)) n15 1 fun Γ21 φ22 n23 =>
  @ite _ (Γ21 n15 = .inr 1) _ (
  mB (f_Line_init Γ21 φ22 n23 n15 (4 : Int32)) fun v27 Γ28 φ29 n30 =>
  @ite _ (Γ28 this = .inr 8) _ (
  mR Γ28 (uR φ29 this 3 (some n15)) n30 0 (64 : Int32) fun Γ36 φ37 n38 =>
  @ite _ (Γ36 this = .inr 8) _ (
  mR Γ36 (uR φ37 this 4 (some n30)) n38 0 (64 : Int32) fun Γ41 φ42 n43 =>
  @ite _ (Γ41 this = .inr 8) _ (
  Option.bind (f_Arrays_fill1 Γ41 (uR (uI (uI (uI (uR φ42 this 5 (some n38)) this 8 (-1 : Int32)) this 9 (-1 : Int32)) this 10 (-1 : Int32)) this 0 p0) ((uR (uI (uI (uI (uR φ42 this 5 (some n38)) this 8 (-1 : Int32)) this 9 (-1 : Int32)) this 10 (-1 : Int32)) this 0 p0).2.2 this 1) (65535 : Int32)) fun q46 =>
  Option.bind (f_Arrays_fill1 Γ41 q46.2 (q46.2.2.2 this 4) (-1 : Int32)) fun q47 =>
  some ((), (Γ41, q47.2, n43), (0, 0))
  ) none
  ) none
  ) none
  ) none
  ) none
  ) none
  ) none
set_option maxRecDepth 100000 in
set_option maxHeartbeats 8000000 in
theorem p_Slave_init {w : jw_T} (hw : jok w) {Γ : gm_T} {φ : ph_T} {n : Nat} {this : Nat} {p0 : Option Nat} {q : mq_T (Unit)} (hZ : gz w Γ n) (H : f_Slave_init Γ φ n this p0 = some q) : jc w M_Slave_init [.ref this, va_rf p0] (pic Γ φ) n true q.2.2.1 q.2.2.2 (mqQ w (.inl none) q.2.1) := by
  refine jc.of (by simp only [jent_r, jent_i, jent_l, jent_a, jent_0]; exact Nat.le_of_ble_eq_true rfl) ?_
  have hls : jents [.ref this, va_rf p0] (jm_nL M_Slave_init) = [some (.ref this), some (va_rf p0)] := by simp only [jents, jent_r, jent_i, jent_l, jent_a, jent_0]; rfl
  rw [hls]
  clear hls
  unfold f_Slave_init at H
  refine J_aload_n d_Slave_init_0 rfl ?_
  refine J_objInit (st := []) (tb2 hw (i := 148) (by decide +kernel)) (tb1 hw (i := 31) (by decide +kernel)) (objInit_code hw) d_Slave_init_1 rfl (by decide) (by decide) ?_
  refine J_aload_n d_Slave_init_4 rfl ?_
  refine J_iconst (v := 5) d_Slave_init_5 (by decide) ?_
  refine F_newa0 (r := (fun _ => .inl none)) hw hZ (tb1 hw (i := 86) (by decide +kernel)) d_Slave_init_6 H ?_
  clear H
  intro Γ1 φ2 n3 q hZ4 H
  have g5 : Γ1 this = .inr 8 := by
    apply Classical.byContradiction
    intro q9
    rw [if_neg q9] at H
    cases H
  rw [if_pos g5] at H
  refine F_putRF (ci := 8) (k := 1) (v := (some n)) hZ4.1 (cf_Slave hw) (tb2 hw (i := 154) (by decide +kernel)) (by decide) (by decide) rfl d_Slave_init_8 rfl rfl rfl rfl rfl g5 ?_
  refine J_aload_n d_Slave_init_11 rfl ?_
  refine F_new (r := (fun _ => .inl none)) hZ4 (by decide) (cf_Line hw) (tb2 hw (i := 149) (by decide +kernel)) (tb1 hw (i := 237) (by decide +kernel)) (tb1 hw (i := 11) (by decide +kernel)) d_Slave_init_12 dv_Line H ?_
  clear H
  intro Γ6 φ7 n8 q hZ9 H
  refine J_dup d_Slave_init_15 rfl ?_
  refine J_iconst (v := 4) d_Slave_init_16 (by decide) ?_
  have g10 : Γ6 n3 = .inr 1 := by
    apply Classical.byContradiction
    intro q9
    rw [if_neg q9] at H
    cases H
  rw [if_pos g10] at H
  obtain ⟨v12, Γ13, φ14, n15, c16, s17, q18, hq11, H1, hq9⟩ := mB_some H
  clear H
  subst hq9
  show J _ _ _ _ _ _ _ _ (c16 + q18.2.2.1) (s17 + q18.2.2.2) _
  refine J_callI (kc := q18.2.2.1) (ks := q18.2.2.2) (kc' := c16) (ks' := s17) (a := n3) (as := [.int (4 : Int32)]) (st := [.ref n3, .ref this]) (mf_Line_init hw) rfl rfl (mi_Slave_17 hw) rfl (tb2 hw (i := 0) rfl) d_Slave_init_17 ln_Line_init (by decide) (by first | exact Nat.le_of_ble_eq_true rfl | (simp only [List.map_cons, List.map_nil, List.sum_cons, List.sum_nil, va_rf_cat]; exact Nat.le_of_ble_eq_true rfl)) rfl (p_Line_init hw hZ9 hq11) ?_ (fun E9 h9 n9 x9 e9 => by cases e9.1)
  clear hq11
  intro v9 h9 n9 x9 e9
  obtain ⟨e91, e92, e93, e94, hZ19⟩ := e9
  cases e91
  subst e92
  have e95 : n15 = n9 := e93.symm
  subst e95
  subst e94
  show J _ _ _ _ [.ref n3, .ref this] (pic Γ13 φ14) n15 true q18.2.2.1 q18.2.2.2 (mqQ w (.inl none) q18.2.1)
  revert H1
  generalize q18 = q
  intro H
  have g20 : Γ13 this = .inr 8 := by
    apply Classical.byContradiction
    intro q9
    rw [if_neg q9] at H
    cases H
  rw [if_pos g20] at H
  refine F_putRF (ci := 8) (k := 2) (v := (some n3)) hZ19.1 (cf_Slave hw) (tb2 hw (i := 156) (by decide +kernel)) (by decide) (by decide) rfl d_Slave_init_20 rfl rfl rfl rfl rfl g20 ?_
  refine J_aload_n d_Slave_init_23 rfl ?_
  refine F_new (r := (fun _ => .inl none)) hZ19 (by decide) (cf_Line hw) (tb2 hw (i := 149) (by decide +kernel)) (tb1 hw (i := 237) (by decide +kernel)) (tb1 hw (i := 11) (by decide +kernel)) d_Slave_init_24 dv_Line H ?_
  clear H
  intro Γ21 φ22 n23 q hZ24 H
  refine J_dup d_Slave_init_27 rfl ?_
  refine J_iconst (v := 4) d_Slave_init_28 (by decide) ?_
  have g25 : Γ21 n15 = .inr 1 := by
    apply Classical.byContradiction
    intro q9
    rw [if_neg q9] at H
    cases H
  rw [if_pos g25] at H
  obtain ⟨v27, Γ28, φ29, n30, c31, s32, q33, hq26, H1, hq9⟩ := mB_some H
  clear H
  subst hq9
  show J _ _ _ _ _ _ _ _ (c31 + q33.2.2.1) (s32 + q33.2.2.2) _
  refine J_callI (kc := q33.2.2.1) (ks := q33.2.2.2) (kc' := c31) (ks' := s32) (a := n15) (as := [.int (4 : Int32)]) (st := [.ref n15, .ref this]) (mf_Line_init hw) rfl rfl (mi_Slave_17 hw) rfl (tb2 hw (i := 0) rfl) d_Slave_init_29 ln_Line_init (by decide) (by first | exact Nat.le_of_ble_eq_true rfl | (simp only [List.map_cons, List.map_nil, List.sum_cons, List.sum_nil, va_rf_cat]; exact Nat.le_of_ble_eq_true rfl)) rfl (p_Line_init hw hZ24 hq26) ?_ (fun E9 h9 n9 x9 e9 => by cases e9.1)
  clear hq26
  intro v9 h9 n9 x9 e9
  obtain ⟨e91, e92, e93, e94, hZ34⟩ := e9
  cases e91
  subst e92
  have e95 : n30 = n9 := e93.symm
  subst e95
  subst e94
  show J _ _ _ _ [.ref n15, .ref this] (pic Γ28 φ29) n30 true q33.2.2.1 q33.2.2.2 (mqQ w (.inl none) q33.2.1)
  revert H1
  generalize q33 = q
  intro H
  have g35 : Γ28 this = .inr 8 := by
    apply Classical.byContradiction
    intro q9
    rw [if_neg q9] at H
    cases H
  rw [if_pos g35] at H
  refine F_putRF (ci := 8) (k := 3) (v := (some n15)) hZ34.1 (cf_Slave hw) (tb2 hw (i := 158) (by decide +kernel)) (by decide) (by decide) rfl d_Slave_init_32 rfl rfl rfl rfl rfl g35 ?_
  refine J_aload_n d_Slave_init_35 rfl ?_
  refine J_bipush (v := 64) d_Slave_init_36 (by decide) ?_
  refine F_newa0 (r := (fun _ => .inl none)) hw hZ34 (tb1 hw (i := 86) (by decide +kernel)) d_Slave_init_38 H ?_
  clear H
  intro Γ36 φ37 n38 q hZ39 H
  have g40 : Γ36 this = .inr 8 := by
    apply Classical.byContradiction
    intro q9
    rw [if_neg q9] at H
    cases H
  rw [if_pos g40] at H
  refine F_putRF (ci := 8) (k := 4) (v := (some n30)) hZ39.1 (cf_Slave hw) (tb2 hw (i := 160) (by decide +kernel)) (by decide) (by decide) rfl d_Slave_init_40 rfl rfl rfl rfl rfl g40 ?_
  refine J_aload_n d_Slave_init_43 rfl ?_
  refine J_bipush (v := 64) d_Slave_init_44 (by decide) ?_
  refine F_newa0 (r := (fun _ => .inl none)) hw hZ39 (tb1 hw (i := 86) (by decide +kernel)) d_Slave_init_46 H ?_
  clear H
  intro Γ41 φ42 n43 q hZ44 H
  have g45 : Γ41 this = .inr 8 := by
    apply Classical.byContradiction
    intro q9
    rw [if_neg q9] at H
    cases H
  rw [if_pos g45] at H
  refine F_putRF (ci := 8) (k := 5) (v := (some n38)) hZ44.1 (cf_Slave hw) (tb2 hw (i := 162) (by decide +kernel)) (by decide) (by decide) rfl d_Slave_init_48 rfl rfl rfl rfl rfl g45 ?_
  refine J_aload_n d_Slave_init_51 rfl ?_
  refine J_iconst (v := -1) d_Slave_init_52 (by decide) ?_
  refine F_putI (ci := 8) (k := 8) hZ44.1 (cf_Slave hw) (fl_Slave_33 hw) (by decide) (by decide) rfl d_Slave_init_53 rfl rfl rfl g45 ?_
  refine J_aload_n d_Slave_init_56 rfl ?_
  refine J_iconst (v := -1) d_Slave_init_57 (by decide) ?_
  refine F_putI (ci := 8) (k := 9) hZ44.1 (cf_Slave hw) (fl_Slave_37 hw) (by decide) (by decide) rfl d_Slave_init_58 rfl rfl rfl g45 ?_
  refine J_aload_n d_Slave_init_61 rfl ?_
  refine J_iconst (v := -1) d_Slave_init_62 (by decide) ?_
  refine F_putI (ci := 8) (k := 10) hZ44.1 (cf_Slave hw) (fl_Slave_40 hw) (by decide) (by decide) rfl d_Slave_init_63 rfl rfl rfl g45 ?_
  refine J_aload_n d_Slave_init_66 rfl ?_
  refine J_aload_nO d_Slave_init_67 rfl ?_
  refine F_putRF (ci := 8) (k := 0) (v := p0) hZ44.1 (cf_Slave hw) (tb2 hw (i := 153) (by decide +kernel)) (by decide) (by decide) rfl d_Slave_init_68 rfl rfl rfl (by generalize p0 = r9; cases r9 <;> rfl) (by generalize p0 = r9; cases r9 <;> rfl) g45 ?_
  refine J_aload_n d_Slave_init_71 rfl ?_
  refine F_getR (ci := 8) (k := 1) hZ44.1 (cf_Slave hw) (fl_Slave_9 hw) (by decide) (by decide) rfl d_Slave_init_72 g45 ?_
  refine J_ldc (v := 65535) d_Slave_init_75 (kn_Slave_47 hw) ?_
  obtain ⟨q46, hq46, H⟩ := Option.bind_eq_some_iff.mp H
  refine J.kk (Nat.zero_add _) (Nat.zero_add _) ?_
  refine J_callS (kc := q.2.2.1) (ks := q.2.2.2) (kc' := 0) (ks' := 0) (as := [va_rf ((uR (uI (uI (uI (uR φ42 this 5 (some n38)) this 8 (-1 : Int32)) this 9 (-1 : Int32)) this 10 (-1 : Int32)) this 0 p0).2.2 this 1), .int (65535 : Int32)]) (st := []) (mf_Arrays_fill1 hw) (ms_Slave_48 hw) d_Slave_init_77 ln_Arrays_fill1 (by decide) (by first | exact Nat.le_of_ble_eq_true rfl | (simp only [List.map_cons, List.map_nil, List.sum_cons, List.sum_nil, va_rf_cat]; exact Nat.le_of_ble_eq_true rfl)) rfl (jc.exact (p_Arrays_fill1 hw hZ44.1 hq46)) ?_ (fun E9 h9 n9 x9 e9 => by cases e9.1)
  intro v9 h9 n9 x9 e9
  obtain ⟨e91, e92, e93, e94⟩ := e9
  cases e91
  subst e92
  have e95 : n43 = n9 := e93.symm
  subst e95
  subst e94
  show J _ _ _ _ [] _ _ _ _ _ _
  refine J_aload_n d_Slave_init_80 rfl ?_
  refine F_getR (ci := 8) (k := 4) hZ44.1 (cf_Slave hw) (fl_Slave_27 hw) (by decide) (by decide) rfl d_Slave_init_81 g45 ?_
  refine J_iconst (v := -1) d_Slave_init_84 (by decide) ?_
  obtain ⟨q47, hq47, H⟩ := Option.bind_eq_some_iff.mp H
  refine J.kk (Nat.zero_add _) (Nat.zero_add _) ?_
  refine J_callS (kc := q.2.2.1) (ks := q.2.2.2) (kc' := 0) (ks' := 0) (as := [va_rf (q46.2.2.2 this 4), .int (-1 : Int32)]) (st := []) (mf_Arrays_fill1 hw) (ms_Slave_48 hw) d_Slave_init_85 ln_Arrays_fill1 (by decide) (by first | exact Nat.le_of_ble_eq_true rfl | (simp only [List.map_cons, List.map_nil, List.sum_cons, List.sum_nil, va_rf_cat]; exact Nat.le_of_ble_eq_true rfl)) rfl (jc.exact (p_Arrays_fill1 hw hZ44.1 hq47)) ?_ (fun E9 h9 n9 x9 e9 => by cases e9.1)
  intro v9 h9 n9 x9 e9
  obtain ⟨e91, e92, e93, e94⟩ := e9
  cases e91
  subst e92
  have e95 : n43 = n9 := e93.symm
  subst e95
  subst e94
  show J _ _ _ _ [] _ _ _ _ _ _
  have H := Option.some.inj H
  subst H
  exact J_vret (st := []) d_Slave_init_88 rfl ⟨rfl, rfl, rfl, rfl, hZ44⟩
theorem ln_Request_init : (parseMethodDescriptor y_Request_init.desc).map (fun q => q.parameters.length) = some 0 := by decide +kernel
def f_Request_init (Γ : gm_T) (φ : ph_T) (n : Nat) (this : Nat) : Option (mq_T (Unit)) :=
  mN Γ φ n 0 fun Γ1 φ2 n3 =>
  @ite _ (Γ1 n = .inr 0) _ (
  mB (f_Burst_init Γ1 φ2 n3 n) fun v7 Γ8 φ9 n10 =>
  @ite _ (Γ8 this = .inr 6) _ (
  some ((), (Γ8, (uR φ9 this 0 (some n)), n10), (0, 0))
  ) none
  ) none
set_option maxRecDepth 100000 in
set_option maxHeartbeats 8000000 in
theorem p_Request_init {w : jw_T} (hw : jok w) {Γ : gm_T} {φ : ph_T} {n : Nat} {this : Nat} {q : mq_T (Unit)} (hZ : gz w Γ n) (H : f_Request_init Γ φ n this = some q) : jc w M_Request_init [.ref this] (pic Γ φ) n true q.2.2.1 q.2.2.2 (mqQ w (.inl none) q.2.1) := by
  refine jc.of (by simp only [jent_r, jent_i, jent_l, jent_a, jent_0]; exact Nat.le_of_ble_eq_true rfl) ?_
  have hls : jents [.ref this] (jm_nL M_Request_init) = [some (.ref this)] := by simp only [jents, jent_r, jent_i, jent_l, jent_a, jent_0]; rfl
  rw [hls]
  clear hls
  unfold f_Request_init at H
  refine J_aload_n d_Request_init_0 rfl ?_
  refine J_objInit (st := []) (tb2 hw (i := 198) (by decide +kernel)) (tb1 hw (i := 31) (by decide +kernel)) (objInit_code hw) d_Request_init_1 rfl (by decide) (by decide) ?_
  refine J_aload_n d_Request_init_4 rfl ?_
  refine F_new (r := (fun _ => .inl none)) hZ (by decide) (cf_Burst hw) (tb2 hw (i := 199) (by decide +kernel)) (tb2 hw (i := 4) (by decide +kernel)) (tb1 hw (i := 12) (by decide +kernel)) d_Request_init_5 dv_Burst H ?_
  clear H
  intro Γ1 φ2 n3 q hZ4 H
  refine J_dup d_Request_init_8 rfl ?_
  have g5 : Γ1 n = .inr 0 := by
    apply Classical.byContradiction
    intro q9
    rw [if_neg q9] at H
    cases H
  rw [if_pos g5] at H
  obtain ⟨v7, Γ8, φ9, n10, c11, s12, q13, hq6, H1, hq9⟩ := mB_some H
  clear H
  subst hq9
  show J _ _ _ _ _ _ _ _ (c11 + q13.2.2.1) (s12 + q13.2.2.2) _
  refine J_callI (kc := q13.2.2.1) (ks := q13.2.2.2) (kc' := c11) (ks' := s12) (a := n) (as := []) (st := [.ref n, .ref this]) (mf_Burst_init hw) rfl rfl (mi_Request_11 hw) rfl (tb2 hw (i := 7) rfl) d_Request_init_9 ln_Burst_init (by decide) (by first | exact Nat.le_of_ble_eq_true rfl | (simp only [List.map_cons, List.map_nil, List.sum_cons, List.sum_nil, va_rf_cat]; exact Nat.le_of_ble_eq_true rfl)) rfl (p_Burst_init hw hZ4 hq6) ?_ (fun E9 h9 n9 x9 e9 => by cases e9.1)
  clear hq6
  intro v9 h9 n9 x9 e9
  obtain ⟨e91, e92, e93, e94, hZ14⟩ := e9
  cases e91
  subst e92
  have e95 : n10 = n9 := e93.symm
  subst e95
  subst e94
  show J _ _ _ _ [.ref n, .ref this] (pic Γ8 φ9) n10 true q13.2.2.1 q13.2.2.2 (mqQ w (.inl none) q13.2.1)
  revert H1
  generalize q13 = q
  intro H
  have g15 : Γ8 this = .inr 6 := by
    apply Classical.byContradiction
    intro q9
    rw [if_neg q9] at H
    cases H
  rw [if_pos g15] at H
  refine F_putRF (ci := 6) (k := 0) (v := (some n)) hZ14.1 (cf_Request hw) (tb2 hw (i := 201) (by decide +kernel)) (by decide) (by decide) rfl d_Request_init_12 rfl rfl rfl rfl rfl g15 ?_
  have H := Option.some.inj H
  subst H
  exact J_vret (st := []) d_Request_init_15 rfl ⟨rfl, rfl, rfl, rfl, hZ14⟩
