theorem ln_Port_count : (parseMethodDescriptor y_Port_count.desc).map (fun q => q.parameters.length) = some 1 := by decide +kernel
def f_Port_count (Γ : gm_T) (φ : ph_T) (this : Nat) (p0 : Int32) : Option (Int32 × ph_T) :=
  @ite _ (Γ this = .inr 5) _ (
  Option.bind (φ.2.2 this 5) fun a2 =>
  Option.bind (gA Γ a2 0) fun N3 =>
  Option.bind (ix p0 N3) fun k4 =>
  Option.bind (gA Γ a2 0) fun N5 =>
  Option.bind (ix p0 N5) fun k6 =>
  some ((1 : Int32), (uI φ a2 k6 ((φ.1 a2 k4) + (1 : Int32))))
  ) none
set_option maxRecDepth 100000 in
set_option maxHeartbeats 4000000 in
theorem p_Port_count {w : jw_T} (hw : jok w) {Γ : gm_T} {n : Nat} (hG : gd w Γ n) {x : Bool} {φ : ph_T} {this : Nat} {p0 : Int32} {q : Int32 × ph_T} (H : f_Port_count Γ φ this p0 = some q) : jc w M_Port_count [.ref this, .int p0] (pic Γ φ) n x 0 0 (fq Γ n (.inl (some (.int q.1))) q.2) := by
  refine jc.of (by simp only [jent_r, jent_i, jent_l, jent_a, jent_0]; exact Nat.le_of_ble_eq_true rfl) ?_
  have hls : jents [.ref this, .int p0] (jm_nL M_Port_count) = [some (.ref this), some (.int p0)] := by simp only [jents, jent_r, jent_i, jent_l, jent_a, jent_0]; rfl
  rw [hls]
  clear hls
  unfold f_Port_count at H
  refine J_aload_n d_Port_count_0 rfl ?_
  have g1 : Γ this = .inr 5 := by
    apply Classical.byContradiction
    intro q9
    rw [if_neg q9] at H
    cases H
  rw [if_pos g1] at H
  refine F_getR (ci := 5) (k := 5) hG (cf_Port hw) (fl_Port_29 hw) (by decide) (by decide) rfl d_Port_count_1 g1 ?_
  refine J_iload_n d_Port_count_4 rfl ?_
  refine J_dup2 d_Port_count_5 rfl (va_rf_cat _) ?_
  obtain ⟨a2, ha2, H⟩ := Option.bind_eq_some_iff.mp H
  rw [j_rf ha2]
  obtain ⟨N3, hN3, H⟩ := Option.bind_eq_some_iff.mp H
  obtain ⟨k4, hk4, H⟩ := Option.bind_eq_some_iff.mp H
  refine F_iald k4 hw hG d_Port_count_6 (gA_some hN3) (ix_some hk4) ?_
  refine J_iconst (v := 1) d_Port_count_7 (by decide) ?_
  refine J_iadd d_Port_count_8 ?_
  obtain ⟨N5, hN5, H⟩ := Option.bind_eq_some_iff.mp H
  obtain ⟨k6, hk6, H⟩ := Option.bind_eq_some_iff.mp H
  refine F_iast k6 hw hG d_Port_count_9 (gA_some hN5) (ix_some hk6) ?_
  refine J_iconst (v := 1) d_Port_count_10 (by decide) ?_
  have H := Option.some.inj H
  subst H
  exact J_iret (st := []) d_Port_count_11 rfl rfl ⟨rfl, rfl, rfl⟩
theorem ln_Switch_passSlave : (parseMethodDescriptor y_Switch_passSlave.desc).map (fun q => q.parameters.length) = some 4 := by decide +kernel
def f_Switch_passSlave_L20 (Γ : gm_T)  (φ : ph_T) (x4 : Int32) (y0 : Int32) (y1 : Option Nat) (y2 : Int32) (y3 : Option Nat) : Option (Unit × ph_T) :=
  Option.bind (f_Switch_passRow Γ φ y3 y2 y1 y0 x4) fun q1 =>
  some ((), q1.2)
set_option maxRecDepth 100000 in
set_option maxHeartbeats 4000000 in
theorem p_Switch_passSlave_L20 {w : jw_T} (hw : jok w) {Γ : gm_T} {n : Nat} (hG : gd w Γ n)  {x : Bool} {φ : ph_T} {x4 : Int32} {y0 : Int32} {y1 : Option Nat} {y2 : Int32} {y3 : Option Nat} {q : Unit × ph_T} (H : f_Switch_passSlave_L20 Γ  φ x4 y0 y1 y2 y3 = some q) : J w M_Switch_passSlave 20 [none, none, none, none, some (.int x4)] [.int y0, va_rf y1, .int y2, va_rf y3] (pic Γ φ) n x 0 0 (fq Γ n (.inl none) q.2) := by
  unfold f_Switch_passSlave_L20 at H
  refine J_iload d_Switch_passSlave_20 rfl ?_
  obtain ⟨q1, hq1, H⟩ := Option.bind_eq_some_iff.mp H
  refine J_callS (kc := 0) (ks := 0) (kc' := 0) (ks' := 0) (as := [va_rf y3, .int y2, va_rf y1, .int y0, .int x4]) (st := []) (mf_Switch_passRow hw) (ms_Switch_146 hw) d_Switch_passSlave_22 ln_Switch_passRow (by decide) (by first | exact Nat.le_of_ble_eq_true rfl | (simp only [List.map_cons, List.map_nil, List.sum_cons, List.sum_nil, va_rf_cat]; exact Nat.le_of_ble_eq_true rfl)) rfl (p_Switch_passRow hw hG hq1) ?_ (fun E h' n' x' e1 => by cases e1.1)
  intro v9 h9 n9 x9 e9
  obtain ⟨e91, e92, e93⟩ := e9
  cases e91
  subst e92
  subst e93
  clear x
  rename Bool => x
  show J _ _ _ _ [] _ _ _ _ _ _
  have H := Option.some.inj H
  subst H
  exact J_vret (st := []) d_Switch_passSlave_25 rfl ⟨rfl, rfl, rfl⟩
def f_Switch_passSlave (Γ : gm_T) (φ : ph_T) (this : Nat) (p0 : Option Nat) (p1 : Int32) (p2 : Int32) (p3 : Int32) : Option (Unit × ph_T) :=
  @ite _ (Γ this = .inr 10) _ (
  Option.bind (f_Switch_ofTarget Γ φ this p1 p2) fun q3 =>
  Option.bind (f_Bus_toSlave Γ q3.2 p2) fun q4 =>
  if q4.1 = 0 then
    f_Switch_passSlave_L20 Γ  q4.2 p3 (1 : Int32) q3.1 p2 p0
  else
    f_Switch_passSlave_L20 Γ  q4.2 p3 (0 : Int32) q3.1 p2 p0
  ) none
set_option maxRecDepth 100000 in
set_option maxHeartbeats 4000000 in
theorem p_Switch_passSlave {w : jw_T} (hw : jok w) {Γ : gm_T} {n : Nat} (hG : gd w Γ n) {x : Bool} {φ : ph_T} {this : Nat} {p0 : Option Nat} {p1 : Int32} {p2 : Int32} {p3 : Int32} {q : Unit × ph_T} (H : f_Switch_passSlave Γ φ this p0 p1 p2 p3 = some q) : jc w M_Switch_passSlave [.ref this, va_rf p0, .int p1, .int p2, .int p3] (pic Γ φ) n x 0 0 (fq Γ n (.inl none) q.2) := by
  refine jc.of (by simp only [jent_r, jent_i, jent_l, jent_a, jent_0]; exact Nat.le_of_ble_eq_true rfl) ?_
  have hls : jents [.ref this, va_rf p0, .int p1, .int p2, .int p3] (jm_nL M_Switch_passSlave) = [some (.ref this), some (va_rf p0), some (.int p1), some (.int p2), some (.int p3)] := by simp only [jents, jent_r, jent_i, jent_l, jent_a, jent_0]; rfl
  rw [hls]
  clear hls
  unfold f_Switch_passSlave at H
  refine J_aload_nO d_Switch_passSlave_0 rfl ?_
  refine J_iload_n d_Switch_passSlave_1 rfl ?_
  refine J_aload_n d_Switch_passSlave_2 rfl ?_
  refine J_iload_n d_Switch_passSlave_3 rfl ?_
  refine J_iload_n d_Switch_passSlave_4 rfl ?_
  have g2 : Γ this = .inr 10 := by
    apply Classical.byContradiction
    intro q9
    rw [if_neg q9] at H
    cases H
  rw [if_pos g2] at H
  obtain ⟨q3, hq3, H⟩ := Option.bind_eq_some_iff.mp H
  refine J_callV (kc := 0) (ks := 0) (kc' := 0) (ks' := 0) (a := this) (ci := 10) (as := [.int p1, .int p2]) (st := [.int p2, va_rf p0]) (mf_Switch_ofTarget hw) (mv_Switch_119 hw) d_Switch_passSlave_5 ln_Switch_ofTarget (by decide) (by first | exact Nat.le_of_ble_eq_true rfl | (simp only [List.map_cons, List.map_nil, List.sum_cons, List.sum_nil, va_rf_cat]; exact Nat.le_of_ble_eq_true rfl)) rfl ((hG _).1 _ g2 (by decide)).1 ((hG _).1 _ g2 (by decide)).2 (by unfold pic; rw [g2]; rfl) (jcl_at hw rfl) rfl (p_Switch_ofTarget hw hG hq3) ?_ (fun E h' n' x' e1 => by cases e1.1)
  intro v9 h9 n9 x9 e9
  obtain ⟨e91, e92, e93⟩ := e9
  cases e91
  subst e92
  subst e93
  clear x
  rename Bool => x
  show J _ _ _ _ (_ :: _) _ _ _ _ _ _
  refine J_iload_n d_Switch_passSlave_8 rfl ?_
  obtain ⟨q4, hq4, H⟩ := Option.bind_eq_some_iff.mp H
  refine J_callS (kc := 0) (ks := 0) (kc' := 0) (ks' := 0) (as := [.int p2]) (st := [va_rf q3.1, .int p2, va_rf p0]) (mf_Bus_toSlave hw) (ms_Switch_111 hw) d_Switch_passSlave_9 ln_Bus_toSlave (by decide) (by first | exact Nat.le_of_ble_eq_true rfl | (simp only [List.map_cons, List.map_nil, List.sum_cons, List.sum_nil, va_rf_cat]; exact Nat.le_of_ble_eq_true rfl)) rfl (p_Bus_toSlave hw hG hq4) ?_ (fun E h' n' x' e1 => by cases e1.1)
  intro v9 h9 n9 x9 e9
  obtain ⟨e91, e92, e93⟩ := e9
  cases e91
  subst e92
  subst e93
  clear x
  rename Bool => x
  show J _ _ _ _ (_ :: _) _ _ _ _ _ _
  refine J_if_ne (tgt := 19) d_Switch_passSlave_12 (by decide) ?_ ?_
  · intro c5
    rw [if_neg c5] at H
    refine J_iconst (v := 0) d_Switch_passSlave_19 (by decide) ?_
    refine J.drop [false, false, false, false, true] rfl ?_
    exact p_Switch_passSlave_L20 hw hG  H
  · intro c5
    rw [if_pos c5] at H
    refine J_iconst (v := 1) d_Switch_passSlave_15 (by decide) ?_
    refine J_goto (tgt := 20) d_Switch_passSlave_16 (by decide) ?_
    refine J.drop [false, false, false, false, true] rfl ?_
    exact p_Switch_passSlave_L20 hw hG  H
theorem ln_Slave_takeBeat : (parseMethodDescriptor y_Slave_takeBeat.desc).map (fun q => q.parameters.length) = some 3 := by decide +kernel
def f_Slave_takeBeat (Γ : gm_T) (φ : ph_T) (p0 : Option Nat) (p1 : Option Nat) (p2 : Int32) : Option (Option Nat × ph_T) :=
  if p0 = none then
    some (none, φ)
  else
    Option.bind p1 fun a1 =>
    @ite _ (Γ a1 = .inr 5) _ (
    Option.bind (φ.2.2 a1 3) fun a3 =>
    Option.bind (gA Γ a3 1) fun N4 =>
    Option.bind (ix (1 : Int32) N4) fun k5 =>
    Option.bind (φ.2.2 a1 4) fun a6 =>
    Option.bind (gA Γ a6 0) fun N7 =>
    Option.bind (ix (1 : Int32) N7) fun k8 =>
    Option.bind p0 fun a9 =>
    @ite _ (Γ a9 = .inr 0) _ (
    Option.bind (f_Burst_takeBeat Γ φ a9 (φ.2.1 a3 k5) (φ.1 a6 k8)) fun q11 =>
    Option.bind (f_Burst_lengthOf Γ q11.2 (q11.2.2.1 a9 0)) fun q12 =>
    if q12.1 ≤ (q11.2.1 a9 3) then
      @ite _ ((1 : Int32) = 0 ∨ (1 : Int32) = 1) _ (
      some ((some a9), (uI (uI q12.2 a9 2 (1 : Int32)) a9 4 p2))
      ) none
    else
      some (none, q12.2)
    ) none
    ) none
set_option maxRecDepth 100000 in
set_option maxHeartbeats 4000000 in
theorem p_Slave_takeBeat {w : jw_T} (hw : jok w) {Γ : gm_T} {n : Nat} (hG : gd w Γ n) {x : Bool} {φ : ph_T} {p0 : Option Nat} {p1 : Option Nat} {p2 : Int32} {q : Option Nat × ph_T} (H : f_Slave_takeBeat Γ φ p0 p1 p2 = some q) : jc w M_Slave_takeBeat [va_rf p0, va_rf p1, .int p2] (pic Γ φ) n x 0 0 (fq Γ n (.inl (some (va_rf q.1))) q.2) := by
  refine jc.of (by simp only [jent_r, jent_i, jent_l, jent_a, jent_0]; exact Nat.le_of_ble_eq_true rfl) ?_
  have hls : jents [va_rf p0, va_rf p1, .int p2] (jm_nL M_Slave_takeBeat) = [some (va_rf p0), some (va_rf p1), some (.int p2)] := by simp only [jents, jent_r, jent_i, jent_l, jent_a, jent_0]; rfl
  rw [hls]
  clear hls
  unfold f_Slave_takeBeat at H
  refine J_aload_nO d_Slave_takeBeat_0 rfl ?_
  refine J_ifnonnullO (r := p0) (tgt := 6) d_Slave_takeBeat_1 (by decide) ?_ ?_
  · intro c15
    rw [if_neg c15] at H
    refine J_aload_nO d_Slave_takeBeat_6 rfl ?_
    refine J_aload_nO d_Slave_takeBeat_7 rfl ?_
    obtain ⟨a1, ha1, H⟩ := Option.bind_eq_some_iff.mp H
    rw [j_rf ha1]
    have g2 : Γ a1 = .inr 5 := by
      apply Classical.byContradiction
      intro q9
      rw [if_neg q9] at H
      cases H
    rw [if_pos g2] at H
    refine F_getR (ci := 5) (k := 3) hG (cf_Port hw) (fl_Slave_155 hw) (by decide) (by decide) rfl d_Slave_takeBeat_8 g2 ?_
    refine J_iconst (v := 1) d_Slave_takeBeat_11 (by decide) ?_
    obtain ⟨a3, ha3, H⟩ := Option.bind_eq_some_iff.mp H
    rw [j_rf ha3]
    obtain ⟨N4, hN4, H⟩ := Option.bind_eq_some_iff.mp H
    obtain ⟨k5, hk5, H⟩ := Option.bind_eq_some_iff.mp H
    refine F_lald k5 hw hG d_Slave_takeBeat_12 (gA_some hN4) (ix_some hk5) ?_
    refine J_aload_n d_Slave_takeBeat_13 rfl ?_
    refine F_getR (ci := 5) (k := 4) hG (cf_Port hw) (fl_Slave_183 hw) (by decide) (by decide) rfl d_Slave_takeBeat_14 g2 ?_
    refine J_iconst (v := 1) d_Slave_takeBeat_17 (by decide) ?_
    obtain ⟨a6, ha6, H⟩ := Option.bind_eq_some_iff.mp H
    rw [j_rf ha6]
    obtain ⟨N7, hN7, H⟩ := Option.bind_eq_some_iff.mp H
    obtain ⟨k8, hk8, H⟩ := Option.bind_eq_some_iff.mp H
    refine F_iald k8 hw hG d_Slave_takeBeat_18 (gA_some hN7) (ix_some hk8) ?_
    obtain ⟨a9, ha9, H⟩ := Option.bind_eq_some_iff.mp H
    rw [j_rf ha9]
    have g10 : Γ a9 = .inr 0 := by
      apply Classical.byContradiction
      intro q9
      rw [if_neg q9] at H
      cases H
    rw [if_pos g10] at H
    obtain ⟨q11, hq11, H⟩ := Option.bind_eq_some_iff.mp H
    refine J_callV (kc := 0) (ks := 0) (kc' := 0) (ks' := 0) (a := a9) (ci := 0) (as := [.long (φ.2.1 a3 k5), .int (φ.1 a6 k8)]) (st := []) (mf_Burst_takeBeat hw) (mv_Slave_184 hw) d_Slave_takeBeat_19 ln_Burst_takeBeat (by decide) (by first | exact Nat.le_of_ble_eq_true rfl | (simp only [List.map_cons, List.map_nil, List.sum_cons, List.sum_nil, va_rf_cat]; exact Nat.le_of_ble_eq_true rfl)) rfl ((hG _).1 _ g10 (by decide)).1 ((hG _).1 _ g10 (by decide)).2 (by unfold pic; rw [g10]; rfl) (jcl_at hw rfl) rfl (p_Burst_takeBeat hw hG hq11) ?_ (fun E h' n' x' e1 => by cases e1.1)
    intro v9 h9 n9 x9 e9
    obtain ⟨e91, e92, e93⟩ := e9
    cases e91
    subst e92
    subst e93
    clear x
    rename Bool => x
    show J _ _ _ _ [] _ _ _ _ _ _
    refine J_aload_n d_Slave_takeBeat_22 rfl ?_
    refine F_getI (ci := 0) (k := 3) hG (cf_Burst hw) (fl_Slave_120 hw) (by decide) (by decide) rfl d_Slave_takeBeat_23 g10 ?_
    refine J_aload_n d_Slave_takeBeat_26 rfl ?_
    refine F_getL (ci := 0) (k := 0) hG (cf_Burst hw) (fl_Slave_99 hw) (by decide) (by decide) rfl d_Slave_takeBeat_27 g10 ?_
    obtain ⟨q12, hq12, H⟩ := Option.bind_eq_some_iff.mp H
    refine J_callS (kc := 0) (ks := 0) (kc' := 0) (ks' := 0) (as := [.long (q11.2.2.1 a9 0)]) (st := [.int (q11.2.1 a9 3)]) (mf_Burst_lengthOf hw) (ms_Slave_180 hw) d_Slave_takeBeat_30 ln_Burst_lengthOf (by decide) (by first | exact Nat.le_of_ble_eq_true rfl | (simp only [List.map_cons, List.map_nil, List.sum_cons, List.sum_nil, va_rf_cat]; exact Nat.le_of_ble_eq_true rfl)) rfl (p_Burst_lengthOf hw hG hq12) ?_ (fun E h' n' x' e1 => by cases e1.1)
    intro v9 h9 n9 x9 e9
    obtain ⟨e91, e92, e93⟩ := e9
    cases e91
    subst e92
    subst e93
    clear x
    rename Bool => x
    show J _ _ _ _ (_ :: _) _ _ _ _ _ _
    refine J_icmp_ge (tgt := 38) d_Slave_takeBeat_33 (by decide) ?_ ?_
    · intro c14
      rw [if_pos c14] at H
      refine J_aload_n d_Slave_takeBeat_38 rfl ?_
      refine J_iconst (v := 1) d_Slave_takeBeat_39 (by decide) ?_
      have z13 : (1 : Int32) = 0 ∨ (1 : Int32) = 1 := by
        apply Classical.byContradiction
        intro q9
        rw [if_neg q9] at H
        cases H
      rw [if_pos z13] at H
      refine F_putI (ci := 0) (k := 2) hG (cf_Burst hw) (fl_Slave_187 hw) (by decide) (by decide) rfl d_Slave_takeBeat_40 rfl (narrow_z z13).1 (narrow_z z13).2 g10 ?_
      refine J_aload_n d_Slave_takeBeat_43 rfl ?_
      refine J_iload_n d_Slave_takeBeat_44 rfl ?_
      refine F_putI (ci := 0) (k := 4) hG (cf_Burst hw) (fl_Slave_149 hw) (by decide) (by decide) rfl d_Slave_takeBeat_45 rfl rfl rfl g10 ?_
      refine J_aload_n d_Slave_takeBeat_48 rfl ?_
      have H := Option.some.inj H
      subst H
      exact J_aret (st := []) d_Slave_takeBeat_49 rfl (Or.inl ⟨_, rfl⟩) (by first | exact Or.inr ⟨_, rfl⟩ | (generalize (some a9) = r9; cases r9; exact Or.inl rfl; exact Or.inr ⟨_, rfl⟩)) ⟨rfl, rfl, rfl⟩
    · intro c14
      rw [if_neg c14] at H
      refine J_null d_Slave_takeBeat_36 ?_
      show J _ _ _ _ (va_rf none :: _) _ _ _ _ _ _
      have H := Option.some.inj H
      subst H
      exact J_aret (st := []) d_Slave_takeBeat_37 rfl (Or.inl ⟨_, rfl⟩) (by first | exact Or.inr ⟨_, rfl⟩ | (generalize none = r9; cases r9; exact Or.inl rfl; exact Or.inr ⟨_, rfl⟩)) ⟨rfl, rfl, rfl⟩
  · intro c15
    rw [if_pos c15] at H
    refine J_null d_Slave_takeBeat_4 ?_
    show J _ _ _ _ (va_rf none :: _) _ _ _ _ _ _
    have H := Option.some.inj H
    subst H
    exact J_aret (st := []) d_Slave_takeBeat_5 rfl (Or.inl ⟨_, rfl⟩) (by first | exact Or.inr ⟨_, rfl⟩ | (generalize none = r9; cases r9; exact Or.inl rfl; exact Or.inr ⟨_, rfl⟩)) ⟨rfl, rfl, rfl⟩
theorem ln_Slave_rangeOf : (parseMethodDescriptor y_Slave_rangeOf.desc).map (fun q => q.parameters.length) = some 1 := by decide +kernel
def f_Slave_rangeOf (Γ : gm_T) (φ : ph_T) (p0 : Int64) : Option (Int32 × ph_T) :=
  Option.bind (f_Burst_lengthOf Γ φ p0) fun q1 =>
  Option.bind (f_Burst_bytesOf Γ q1.2 p0) fun q2 =>
  some ((q1.1 * q2.1), q2.2)
set_option maxRecDepth 100000 in
set_option maxHeartbeats 4000000 in
theorem p_Slave_rangeOf {w : jw_T} (hw : jok w) {Γ : gm_T} {n : Nat} (hG : gd w Γ n) {x : Bool} {φ : ph_T} {p0 : Int64} {q : Int32 × ph_T} (H : f_Slave_rangeOf Γ φ p0 = some q) : jc w M_Slave_rangeOf [.long p0] (pic Γ φ) n x 0 0 (fq Γ n (.inl (some (.int q.1))) q.2) := by
  refine jc.of (by simp only [jent_r, jent_i, jent_l, jent_a, jent_0]; exact Nat.le_of_ble_eq_true rfl) ?_
  have hls : jents [.long p0] (jm_nL M_Slave_rangeOf) = [some (.long p0), none] := by simp only [jents, jent_r, jent_i, jent_l, jent_a, jent_0]; rfl
  rw [hls]
  clear hls
  unfold f_Slave_rangeOf at H
  refine J_lload_n d_Slave_rangeOf_0 rfl ?_
  obtain ⟨q1, hq1, H⟩ := Option.bind_eq_some_iff.mp H
  refine J_callS (kc := 0) (ks := 0) (kc' := 0) (ks' := 0) (as := [.long p0]) (st := []) (mf_Burst_lengthOf hw) (ms_Slave_180 hw) d_Slave_rangeOf_1 ln_Burst_lengthOf (by decide) (by first | exact Nat.le_of_ble_eq_true rfl | (simp only [List.map_cons, List.map_nil, List.sum_cons, List.sum_nil, va_rf_cat]; exact Nat.le_of_ble_eq_true rfl)) rfl (p_Burst_lengthOf hw hG hq1) ?_ (fun E h' n' x' e1 => by cases e1.1)
  intro v9 h9 n9 x9 e9
  obtain ⟨e91, e92, e93⟩ := e9
  cases e91
  subst e92
  subst e93
  clear x
  rename Bool => x
  show J _ _ _ _ (_ :: _) _ _ _ _ _ _
  refine J_lload_n d_Slave_rangeOf_4 rfl ?_
  obtain ⟨q2, hq2, H⟩ := Option.bind_eq_some_iff.mp H
  refine J_callS (kc := 0) (ks := 0) (kc' := 0) (ks' := 0) (as := [.long p0]) (st := [.int q1.1]) (mf_Burst_bytesOf hw) (ms_Slave_211 hw) d_Slave_rangeOf_5 ln_Burst_bytesOf (by decide) (by first | exact Nat.le_of_ble_eq_true rfl | (simp only [List.map_cons, List.map_nil, List.sum_cons, List.sum_nil, va_rf_cat]; exact Nat.le_of_ble_eq_true rfl)) rfl (p_Burst_bytesOf hw hG hq2) ?_ (fun E h' n' x' e1 => by cases e1.1)
  intro v9 h9 n9 x9 e9
  obtain ⟨e91, e92, e93⟩ := e9
  cases e91
  subst e92
  subst e93
  clear x
  rename Bool => x
  show J _ _ _ _ (_ :: _) _ _ _ _ _ _
  refine J_imul d_Slave_rangeOf_8 ?_
  have H := Option.some.inj H
  subst H
  exact J_iret (st := []) d_Slave_rangeOf_9 rfl rfl ⟨rfl, rfl, rfl⟩
theorem ln_Slave_hasRight : (parseMethodDescriptor y_Slave_hasRight.desc).map (fun q => q.parameters.length) = some 1 := by decide +kernel
def f_Slave_hasRight_L36 (Γ : gm_T)  (φ : ph_T) (y0 : Int32) : Option (Int32 × ph_T) :=
  @ite _ (y0 = 0 ∨ y0 = 1) _ (
  some (y0, φ)
  ) none
set_option maxRecDepth 100000 in
set_option maxHeartbeats 4000000 in
theorem p_Slave_hasRight_L36 {w : jw_T} (hw : jok w) {Γ : gm_T} {n : Nat} (hG : gd w Γ n)  {x : Bool} {φ : ph_T} {y0 : Int32} {q : Int32 × ph_T} (H : f_Slave_hasRight_L36 Γ  φ y0 = some q) : J w M_Slave_hasRight 36 [none, none, none, none] [.int y0] (pic Γ φ) n x 0 0 (fq Γ n (.inl (some (.int q.1))) q.2) := by
  unfold f_Slave_hasRight_L36 at H
  have z1 : y0 = 0 ∨ y0 = 1 := by
    apply Classical.byContradiction
    intro q9
    rw [if_neg q9] at H
    cases H
  rw [if_pos z1] at H
  have H := Option.some.inj H
  subst H
  exact J_iret (st := []) d_Slave_hasRight_36 rfl (narrow_z z1).1 ⟨rfl, rfl, rfl⟩
def f_Slave_hasRight_L35 (Γ : gm_T)  (φ : ph_T) : Option (Int32 × ph_T) :=
  f_Slave_hasRight_L36 Γ  φ (0 : Int32)
set_option maxRecDepth 100000 in
set_option maxHeartbeats 4000000 in
theorem p_Slave_hasRight_L35 {w : jw_T} (hw : jok w) {Γ : gm_T} {n : Nat} (hG : gd w Γ n)  {x : Bool} {φ : ph_T} {q : Int32 × ph_T} (H : f_Slave_hasRight_L35 Γ  φ  = some q) : J w M_Slave_hasRight 35 [none, none, none, none] [] (pic Γ φ) n x 0 0 (fq Γ n (.inl (some (.int q.1))) q.2) := by
  unfold f_Slave_hasRight_L35 at H
  refine J_iconst (v := 0) d_Slave_hasRight_35 (by decide) ?_
  refine J.drop [false, false, false, false] rfl ?_
  exact p_Slave_hasRight_L36 hw hG  H
def f_Slave_hasRight (Γ : gm_T) (φ : ph_T) (this : Nat) (p0 : Int64) : Option (Int32 × ph_T) :=
  Option.bind (f_Burst_idOf Γ φ p0) fun q2 =>
  @ite _ (Γ this = .inr 8) _ (
  Option.bind (q2.2.2.2 this 4) fun a4 =>
  Option.bind (gA Γ a4 0) fun N5 =>
  Option.bind (ix q2.1 N5) fun k6 =>
  Option.bind (f_Burst_addressOf Γ q2.2 p0) fun q7 =>
  if (q2.2.1 a4 k6) = q7.1 then
    Option.bind (q7.2.2.2 this 5) fun a8 =>
    Option.bind (gA Γ a8 0) fun N9 =>
    Option.bind (ix q2.1 N9) fun k10 =>
    Option.bind (f_Slave_rangeOf Γ q7.2 p0) fun q11 =>
    if (q7.2.1 a8 k10) = q11.1 then
      f_Slave_hasRight_L36 Γ  q11.2 (1 : Int32)
    else
      f_Slave_hasRight_L35 Γ  q11.2 
  else
    f_Slave_hasRight_L35 Γ  q7.2 
  ) none
set_option maxRecDepth 100000 in
set_option maxHeartbeats 4000000 in
theorem p_Slave_hasRight {w : jw_T} (hw : jok w) {Γ : gm_T} {n : Nat} (hG : gd w Γ n) {x : Bool} {φ : ph_T} {this : Nat} {p0 : Int64} {q : Int32 × ph_T} (H : f_Slave_hasRight Γ φ this p0 = some q) : jc w M_Slave_hasRight [.ref this, .long p0] (pic Γ φ) n x 0 0 (fq Γ n (.inl (some (.int q.1))) q.2) := by
  refine jc.of (by simp only [jent_r, jent_i, jent_l, jent_a, jent_0]; exact Nat.le_of_ble_eq_true rfl) ?_
  have hls : jents [.ref this, .long p0] (jm_nL M_Slave_hasRight) = [some (.ref this), some (.long p0), none, none] := by simp only [jents, jent_r, jent_i, jent_l, jent_a, jent_0]; rfl
  rw [hls]
  clear hls
  unfold f_Slave_hasRight at H
  refine J_lload_n d_Slave_hasRight_0 rfl ?_
  obtain ⟨q2, hq2, H⟩ := Option.bind_eq_some_iff.mp H
  refine J_callS (kc := 0) (ks := 0) (kc' := 0) (ks' := 0) (as := [.long p0]) (st := []) (mf_Burst_idOf hw) (ms_Slave_105 hw) d_Slave_hasRight_1 ln_Burst_idOf (by decide) (by first | exact Nat.le_of_ble_eq_true rfl | (simp only [List.map_cons, List.map_nil, List.sum_cons, List.sum_nil, va_rf_cat]; exact Nat.le_of_ble_eq_true rfl)) rfl (p_Burst_idOf hw hG hq2) ?_ (fun E h' n' x' e1 => by cases e1.1)
  intro v9 h9 n9 x9 e9
  obtain ⟨e91, e92, e93⟩ := e9
  cases e91
  subst e92
  subst e93
  clear x
  rename Bool => x
  show J _ _ _ _ (_ :: _) _ _ _ _ _ _
  refine J_istore_n d_Slave_hasRight_4 (Nat.le_of_ble_eq_true rfl) ?_
  refine J.ls (ls' := [some (.ref this), some (.long p0), none, some (.int q2.1)]) rfl ?_
  refine J_aload_n d_Slave_hasRight_5 rfl ?_
  have g3 : Γ this = .inr 8 := by
    apply Classical.byContradiction
    intro q9
    rw [if_neg q9] at H
    cases H
  rw [if_pos g3] at H
  refine F_getR (ci := 8) (k := 4) hG (cf_Slave hw) (fl_Slave_27 hw) (by decide) (by decide) rfl d_Slave_hasRight_6 g3 ?_
  refine J_iload_n d_Slave_hasRight_9 rfl ?_
  obtain ⟨a4, ha4, H⟩ := Option.bind_eq_some_iff.mp H
  rw [j_rf ha4]
  obtain ⟨N5, hN5, H⟩ := Option.bind_eq_some_iff.mp H
  obtain ⟨k6, hk6, H⟩ := Option.bind_eq_some_iff.mp H
  refine F_iald k6 hw hG d_Slave_hasRight_10 (gA_some hN5) (ix_some hk6) ?_
  refine J_lload_n d_Slave_hasRight_11 rfl ?_
  obtain ⟨q7, hq7, H⟩ := Option.bind_eq_some_iff.mp H
  refine J_callS (kc := 0) (ks := 0) (kc' := 0) (ks' := 0) (as := [.long p0]) (st := [.int (q2.2.1 a4 k6)]) (mf_Burst_addressOf hw) (ms_Slave_205 hw) d_Slave_hasRight_12 ln_Burst_addressOf (by decide) (by first | exact Nat.le_of_ble_eq_true rfl | (simp only [List.map_cons, List.map_nil, List.sum_cons, List.sum_nil, va_rf_cat]; exact Nat.le_of_ble_eq_true rfl)) rfl (p_Burst_addressOf hw hG hq7) ?_ (fun E h' n' x' e1 => by cases e1.1)
  intro v9 h9 n9 x9 e9
  obtain ⟨e91, e92, e93⟩ := e9
  cases e91
  subst e92
  subst e93
  clear x
  rename Bool => x
  show J _ _ _ _ (_ :: _) _ _ _ _ _ _
  refine J_icmp_ne (tgt := 35) d_Slave_hasRight_15 (by decide) ?_ ?_
  · intro c13
    rw [if_neg c13] at H
    refine J.drop [false, false, false, false] rfl ?_
    exact p_Slave_hasRight_L35 hw hG  H
  · intro c13
    rw [if_pos c13] at H
    refine J_aload_n d_Slave_hasRight_18 rfl ?_
    refine F_getR (ci := 8) (k := 5) hG (cf_Slave hw) (fl_Slave_30 hw) (by decide) (by decide) rfl d_Slave_hasRight_19 g3 ?_
    refine J_iload_n d_Slave_hasRight_22 rfl ?_
    obtain ⟨a8, ha8, H⟩ := Option.bind_eq_some_iff.mp H
    rw [j_rf ha8]
    obtain ⟨N9, hN9, H⟩ := Option.bind_eq_some_iff.mp H
    obtain ⟨k10, hk10, H⟩ := Option.bind_eq_some_iff.mp H
    refine F_iald k10 hw hG d_Slave_hasRight_23 (gA_some hN9) (ix_some hk10) ?_
    refine J_lload_n d_Slave_hasRight_24 rfl ?_
    obtain ⟨q11, hq11, H⟩ := Option.bind_eq_some_iff.mp H
    refine J_callS (kc := 0) (ks := 0) (kc' := 0) (ks' := 0) (as := [.long p0]) (st := [.int (q7.2.1 a8 k10)]) (mf_Slave_rangeOf hw) (ms_Slave_208 hw) d_Slave_hasRight_25 ln_Slave_rangeOf (by decide) (by first | exact Nat.le_of_ble_eq_true rfl | (simp only [List.map_cons, List.map_nil, List.sum_cons, List.sum_nil, va_rf_cat]; exact Nat.le_of_ble_eq_true rfl)) rfl (p_Slave_rangeOf hw hG hq11) ?_ (fun E h' n' x' e1 => by cases e1.1)
    intro v9 h9 n9 x9 e9
    obtain ⟨e91, e92, e93⟩ := e9
    cases e91
    subst e92
    subst e93
    clear x
    rename Bool => x
    show J _ _ _ _ (_ :: _) _ _ _ _ _ _
    refine J_icmp_ne (tgt := 35) d_Slave_hasRight_28 (by decide) ?_ ?_
    · intro c12
      rw [if_neg c12] at H
      refine J.drop [false, false, false, false] rfl ?_
      exact p_Slave_hasRight_L35 hw hG  H
    · intro c12
      rw [if_pos c12] at H
      refine J_iconst (v := 1) d_Slave_hasRight_31 (by decide) ?_
      refine J_goto (tgt := 36) d_Slave_hasRight_32 (by decide) ?_
      refine J.drop [false, false, false, false] rfl ?_
      exact p_Slave_hasRight_L36 hw hG  H
theorem ln_Memory_isSpoilt : (parseMethodDescriptor y_Memory_isSpoilt.desc).map (fun q => q.parameters.length) = some 2 := by decide +kernel
def f_Memory_isSpoilt_L27 (Γ : gm_T)  (φ : ph_T) (y0 : Int32) : Option (Int32 × ph_T) :=
  @ite _ (y0 = 0 ∨ y0 = 1) _ (
  some (y0, φ)
  ) none
set_option maxRecDepth 100000 in
set_option maxHeartbeats 4000000 in
theorem p_Memory_isSpoilt_L27 {w : jw_T} (hw : jok w) {Γ : gm_T} {n : Nat} (hG : gd w Γ n)  {x : Bool} {φ : ph_T} {y0 : Int32} {q : Int32 × ph_T} (H : f_Memory_isSpoilt_L27 Γ  φ y0 = some q) : J w M_Memory_isSpoilt 27 [none, none, none] [.int y0] (pic Γ φ) n x 0 0 (fq Γ n (.inl (some (.int q.1))) q.2) := by
  unfold f_Memory_isSpoilt_L27 at H
  have z1 : y0 = 0 ∨ y0 = 1 := by
    apply Classical.byContradiction
    intro q9
    rw [if_neg q9] at H
    cases H
  rw [if_pos z1] at H
  have H := Option.some.inj H
  subst H
  exact J_iret (st := []) d_Memory_isSpoilt_27 rfl (narrow_z z1).1 ⟨rfl, rfl, rfl⟩
def f_Memory_isSpoilt (Γ : gm_T) (φ : ph_T) (this : Nat) (p0 : Int32) (p1 : Int32) : Option (Int32 × ph_T) :=
  @ite _ (Γ this = .inr 2) _ (
  Option.bind (f_Memory_spoiltWordOf Γ φ p0) fun q3 =>
  Option.bind (φ.2.2 this 1) fun a4 =>
  Option.bind (gA Γ a4 1) fun N5 =>
  Option.bind (ix q3.1 N5) fun k6 =>
  if (lg_cmp (((q3.2.2.1 a4 k6) >>> (Int32.toInt64 (p0 &&& (56 : Int32)) &&& 63)) &&& (Int32.toInt64 p1)) (0 : Int64)) = 0 then
    f_Memory_isSpoilt_L27 Γ  q3.2 (0 : Int32)
  else
    f_Memory_isSpoilt_L27 Γ  q3.2 (1 : Int32)
  ) none
set_option maxRecDepth 100000 in
set_option maxHeartbeats 4000000 in
theorem p_Memory_isSpoilt {w : jw_T} (hw : jok w) {Γ : gm_T} {n : Nat} (hG : gd w Γ n) {x : Bool} {φ : ph_T} {this : Nat} {p0 : Int32} {p1 : Int32} {q : Int32 × ph_T} (H : f_Memory_isSpoilt Γ φ this p0 p1 = some q) : jc w M_Memory_isSpoilt [.ref this, .int p0, .int p1] (pic Γ φ) n x 0 0 (fq Γ n (.inl (some (.int q.1))) q.2) := by
  refine jc.of (by simp only [jent_r, jent_i, jent_l, jent_a, jent_0]; exact Nat.le_of_ble_eq_true rfl) ?_
  have hls : jents [.ref this, .int p0, .int p1] (jm_nL M_Memory_isSpoilt) = [some (.ref this), some (.int p0), some (.int p1)] := by simp only [jents, jent_r, jent_i, jent_l, jent_a, jent_0]; rfl
  rw [hls]
  clear hls
  unfold f_Memory_isSpoilt at H
  refine J_aload_n d_Memory_isSpoilt_0 rfl ?_
  have g2 : Γ this = .inr 2 := by
    apply Classical.byContradiction
    intro q9
    rw [if_neg q9] at H
    cases H
  rw [if_pos g2] at H
  refine F_getR (ci := 2) (k := 1) hG (cf_Memory hw) (fl_Memory_15 hw) (by decide) (by decide) rfl d_Memory_isSpoilt_1 g2 ?_
  refine J_iload_n d_Memory_isSpoilt_4 rfl ?_
  obtain ⟨q3, hq3, H⟩ := Option.bind_eq_some_iff.mp H
  refine J_callS (kc := 0) (ks := 0) (kc' := 0) (ks' := 0) (as := [.int p0]) (st := [va_rf (φ.2.2 this 1)]) (mf_Memory_spoiltWordOf hw) (ms_Memory_34 hw) d_Memory_isSpoilt_5 ln_Memory_spoiltWordOf (by decide) (by first | exact Nat.le_of_ble_eq_true rfl | (simp only [List.map_cons, List.map_nil, List.sum_cons, List.sum_nil, va_rf_cat]; exact Nat.le_of_ble_eq_true rfl)) rfl (p_Memory_spoiltWordOf hw hG hq3) ?_ (fun E h' n' x' e1 => by cases e1.1)
  intro v9 h9 n9 x9 e9
  obtain ⟨e91, e92, e93⟩ := e9
  cases e91
  subst e92
  subst e93
  clear x
  rename Bool => x
  show J _ _ _ _ (_ :: _) _ _ _ _ _ _
  obtain ⟨a4, ha4, H⟩ := Option.bind_eq_some_iff.mp H
  rw [j_rf ha4]
  obtain ⟨N5, hN5, H⟩ := Option.bind_eq_some_iff.mp H
  obtain ⟨k6, hk6, H⟩ := Option.bind_eq_some_iff.mp H
  refine F_lald k6 hw hG d_Memory_isSpoilt_8 (gA_some hN5) (ix_some hk6) ?_
  refine J_iload_n d_Memory_isSpoilt_9 rfl ?_
  refine J_bipush (v := 56) d_Memory_isSpoilt_10 (by decide) ?_
  refine J_iand d_Memory_isSpoilt_12 ?_
  refine J_lshr d_Memory_isSpoilt_13 ?_
  refine J_iload_n d_Memory_isSpoilt_14 rfl ?_
  refine J_i2l d_Memory_isSpoilt_15 ?_
  refine J_land d_Memory_isSpoilt_16 ?_
  refine J_lconst (v := 0) d_Memory_isSpoilt_17 (by decide) ?_
  refine J_lcmp d_Memory_isSpoilt_18 ?_
  refine J_if_eq (tgt := 26) d_Memory_isSpoilt_19 (by decide) ?_ ?_
  · intro c7
    rw [if_pos c7] at H
    refine J_iconst (v := 0) d_Memory_isSpoilt_26 (by decide) ?_
    refine J.drop [false, false, false] rfl ?_
    exact p_Memory_isSpoilt_L27 hw hG  H
  · intro c7
    rw [if_neg c7] at H
    refine J_iconst (v := 1) d_Memory_isSpoilt_22 (by decide) ?_
    refine J_goto (tgt := 27) d_Memory_isSpoilt_23 (by decide) ?_
    refine J.drop [false, false, false] rfl ?_
    exact p_Memory_isSpoilt_L27 hw hG  H
theorem ln_Slave_writesSpoilt : (parseMethodDescriptor y_Slave_writesSpoilt.desc).map (fun q => q.parameters.length) = some 1 := by decide +kernel
def f_Slave_writesSpoilt_L2 (Γ : gm_T)  : Nat → ph_T → Nat → Option Nat → Int32 → Option (Int32 × ph_T)
  | 0, _, _, _, _ => none
  | fu + 1, φ, x0, x1, x2 =>
    Option.bind x1 fun a1 =>
    @ite _ (Γ a1 = .inr 0) _ (
    if (φ.1 a1 3) ≤ x2 then
      @ite _ ((0 : Int32) = 0 ∨ (0 : Int32) = 1) _ (
      some ((0 : Int32), φ)
      ) none
    else
      @ite _ (Γ x0 = .inr 8) _ (
      Option.bind (f_Burst_beatAddress Γ φ (φ.2.1 a1 0) x2) fun q5 =>
      Option.bind (q5.2.2.2 a1 7) fun a6 =>
      Option.bind (gA Γ a6 0) fun N7 =>
      Option.bind (ix x2 N7) fun k8 =>
      Option.bind (φ.2.2 x0 0) fun a9 =>
      @ite _ (Γ a9 = .inr 2) _ (
      Option.bind (f_Memory_isSpoilt Γ q5.2 a9 q5.1 ((q5.2.1 a6 k8) &&& (255 : Int32))) fun q11 =>
      if q11.1 = 0 then
        (f_Slave_writesSpoilt_L2 Γ  fu) q11.2 x0 (some a1) (x2 + (1 : Int32))
      else
        @ite _ ((1 : Int32) = 0 ∨ (1 : Int32) = 1) _ (
        some ((1 : Int32), q11.2)
        ) none
      ) none
      ) none
    ) none
set_option maxRecDepth 100000 in
set_option maxHeartbeats 4000000 in
theorem p_Slave_writesSpoilt_L2 {w : jw_T} (hw : jok w) {Γ : gm_T} {n : Nat} (hG : gd w Γ n)  : ∀ (fu : Nat) {x : Bool} {φ : ph_T} {x0 : Nat} {x1 : Option Nat} {x2 : Int32} {q : Int32 × ph_T}, f_Slave_writesSpoilt_L2 Γ  fu φ x0 x1 x2 = some q → J w M_Slave_writesSpoilt 2 [some (.ref x0), some (va_rf x1), some (.int x2)] [] (pic Γ φ) n x 0 0 (fq Γ n (.inl (some (.int q.1))) q.2) := by
  intro fu
  induction fu with
  | zero =>
    intro x φ x0 x1 x2 q H
    cases H
  | succ fu ih =>
    intro x φ x0 x1 x2 q H
    unfold f_Slave_writesSpoilt_L2 at H
    refine J_iload_n d_Slave_writesSpoilt_2 rfl ?_
    refine J_aload_nO d_Slave_writesSpoilt_3 rfl ?_
    obtain ⟨a1, ha1, H⟩ := Option.bind_eq_some_iff.mp H
    rw [j_rf ha1]
    have g2 : Γ a1 = .inr 0 := by
      apply Classical.byContradiction
      intro q9
      rw [if_neg q9] at H
      cases H
    rw [if_pos g2] at H
    refine F_getI (ci := 0) (k := 3) hG (cf_Burst hw) (fl_Slave_120 hw) (by decide) (by decide) rfl d_Slave_writesSpoilt_4 g2 ?_
    refine J_icmp_ge (tgt := 46) d_Slave_writesSpoilt_7 (by decide) ?_ ?_
    · intro c14
      rw [if_pos c14] at H
      refine J_iconst (v := 0) d_Slave_writesSpoilt_46 (by decide) ?_
      have z3 : (0 : Int32) = 0 ∨ (0 : Int32) = 1 := by
        apply Classical.byContradiction
        intro q9
        rw [if_neg q9] at H
        cases H
      rw [if_pos z3] at H
      have H := Option.some.inj H
      subst H
      exact J_iret (st := []) d_Slave_writesSpoilt_47 rfl (narrow_z z3).1 ⟨rfl, rfl, rfl⟩
    · intro c14
      rw [if_neg c14] at H
      refine J_aload_n d_Slave_writesSpoilt_10 rfl ?_
      have g4 : Γ x0 = .inr 8 := by
        apply Classical.byContradiction
        intro q9
        rw [if_neg q9] at H
        cases H
      rw [if_pos g4] at H
      refine F_getR (ci := 8) (k := 0) hG (cf_Slave hw) (fl_Slave_43 hw) (by decide) (by decide) rfl d_Slave_writesSpoilt_11 g4 ?_
      refine J_aload_n d_Slave_writesSpoilt_14 rfl ?_
      refine F_getL (ci := 0) (k := 0) hG (cf_Burst hw) (fl_Slave_99 hw) (by decide) (by decide) rfl d_Slave_writesSpoilt_15 g2 ?_
      refine J_iload_n d_Slave_writesSpoilt_18 rfl ?_
      obtain ⟨q5, hq5, H⟩ := Option.bind_eq_some_iff.mp H
      refine J_callS (kc := 0) (ks := 0) (kc' := 0) (ks' := 0) (as := [.long (φ.2.1 a1 0), .int x2]) (st := [va_rf (φ.2.2 x0 0)]) (mf_Burst_beatAddress hw) (ms_Slave_214 hw) d_Slave_writesSpoilt_19 ln_Burst_beatAddress (by decide) (by first | exact Nat.le_of_ble_eq_true rfl | (simp only [List.map_cons, List.map_nil, List.sum_cons, List.sum_nil, va_rf_cat]; exact Nat.le_of_ble_eq_true rfl)) rfl (p_Burst_beatAddress hw hG hq5) ?_ (fun E h' n' x' e1 => by cases e1.1)
      intro v9 h9 n9 x9 e9
      obtain ⟨e91, e92, e93⟩ := e9
      cases e91
      subst e92
      subst e93
      clear x
      rename Bool => x
      show J _ _ _ _ (_ :: _) _ _ _ _ _ _
      refine J_aload_n d_Slave_writesSpoilt_22 rfl ?_
      refine F_getR (ci := 0) (k := 7) hG (cf_Burst hw) (fl_Slave_127 hw) (by decide) (by decide) rfl d_Slave_writesSpoilt_23 g2 ?_
      refine J_iload_n d_Slave_writesSpoilt_26 rfl ?_
      obtain ⟨a6, ha6, H⟩ := Option.bind_eq_some_iff.mp H
      rw [j_rf ha6]
      obtain ⟨N7, hN7, H⟩ := Option.bind_eq_some_iff.mp H
      obtain ⟨k8, hk8, H⟩ := Option.bind_eq_some_iff.mp H
      refine F_iald k8 hw hG d_Slave_writesSpoilt_27 (gA_some hN7) (ix_some hk8) ?_
      refine J_sipush (v := 255) d_Slave_writesSpoilt_28 (by decide) ?_
      refine J_iand d_Slave_writesSpoilt_31 ?_
      obtain ⟨a9, ha9, H⟩ := Option.bind_eq_some_iff.mp H
      rw [j_rf ha9]
      have g10 : Γ a9 = .inr 2 := by
        apply Classical.byContradiction
        intro q9
        rw [if_neg q9] at H
        cases H
      rw [if_pos g10] at H
      obtain ⟨q11, hq11, H⟩ := Option.bind_eq_some_iff.mp H
      refine J_callV (kc := 0) (ks := 0) (kc' := 0) (ks' := 0) (a := a9) (ci := 2) (as := [.int q5.1, .int ((q5.2.1 a6 k8) &&& (255 : Int32))]) (st := []) (mf_Memory_isSpoilt hw) (mv_Slave_218 hw) d_Slave_writesSpoilt_32 ln_Memory_isSpoilt (by decide) (by first | exact Nat.le_of_ble_eq_true rfl | (simp only [List.map_cons, List.map_nil, List.sum_cons, List.sum_nil, va_rf_cat]; exact Nat.le_of_ble_eq_true rfl)) rfl ((hG _).1 _ g10 (by decide)).1 ((hG _).1 _ g10 (by decide)).2 (by unfold pic; rw [g10]; rfl) (jcl_at hw rfl) rfl (p_Memory_isSpoilt hw hG hq11) ?_ (fun E h' n' x' e1 => by cases e1.1)
      intro v9 h9 n9 x9 e9
      obtain ⟨e91, e92, e93⟩ := e9
      cases e91
      subst e92
      subst e93
      clear x
      rename Bool => x
      show J _ _ _ _ (_ :: _) _ _ _ _ _ _
      refine J_if_eq (tgt := 40) d_Slave_writesSpoilt_35 (by decide) ?_ ?_
      · intro c13
        rw [if_pos c13] at H
        refine J_iinc (v := x2 + 1) d_Slave_writesSpoilt_40 rfl (by rw [show Int32.ofInt 1 = (1 : Int32) from by decide]) ?_
        refine J.ls (ls' := [some (.ref x0), some (.ref a1), some (.int (x2 + (1 : Int32)))]) rfl ?_
        refine J_goto (tgt := 2) d_Slave_writesSpoilt_43 (by decide) ?_
        refine J.drop [true, true, true] rfl ?_
        exact ih H
      · intro c13
        rw [if_neg c13] at H
        refine J_iconst (v := 1) d_Slave_writesSpoilt_38 (by decide) ?_
        have z12 : (1 : Int32) = 0 ∨ (1 : Int32) = 1 := by
          apply Classical.byContradiction
          intro q9
          rw [if_neg q9] at H
          cases H
        rw [if_pos z12] at H
        have H := Option.some.inj H
        subst H
        exact J_iret (st := []) d_Slave_writesSpoilt_39 rfl (narrow_z z12).1 ⟨rfl, rfl, rfl⟩
def f_Slave_writesSpoilt (Γ : gm_T) (φ : ph_T) (this : Nat) (p0 : Option Nat) : Option (Int32 × ph_T) :=
  f_Slave_writesSpoilt_L2 Γ  jF φ this p0 (0 : Int32)
set_option maxRecDepth 100000 in
set_option maxHeartbeats 4000000 in
theorem p_Slave_writesSpoilt {w : jw_T} (hw : jok w) {Γ : gm_T} {n : Nat} (hG : gd w Γ n) {x : Bool} {φ : ph_T} {this : Nat} {p0 : Option Nat} {q : Int32 × ph_T} (H : f_Slave_writesSpoilt Γ φ this p0 = some q) : jc w M_Slave_writesSpoilt [.ref this, va_rf p0] (pic Γ φ) n x 0 0 (fq Γ n (.inl (some (.int q.1))) q.2) := by
  refine jc.of (by simp only [jent_r, jent_i, jent_l, jent_a, jent_0]; exact Nat.le_of_ble_eq_true rfl) ?_
  have hls : jents [.ref this, va_rf p0] (jm_nL M_Slave_writesSpoilt) = [some (.ref this), some (va_rf p0), none] := by simp only [jents, jent_r, jent_i, jent_l, jent_a, jent_0]; rfl
  rw [hls]
  clear hls
  unfold f_Slave_writesSpoilt at H
  refine J_iconst (v := 0) d_Slave_writesSpoilt_0 (by decide) ?_
  refine J_istore_n d_Slave_writesSpoilt_1 (Nat.le_of_ble_eq_true rfl) ?_
  refine J.ls (ls' := [some (.ref this), some (va_rf p0), some (.int (0 : Int32))]) (jst1_o (i := 1) (r := p0) rfl) ?_
  refine J.drop [true, true, true] rfl ?_
  exact p_Slave_writesSpoilt_L2 hw hG  _ H
theorem ln_Slave_meetsRight : (parseMethodDescriptor y_Slave_meetsRight.desc).map (fun q => q.parameters.length) = some 3 := by decide +kernel
def f_Slave_meetsRight_L51 (Γ : gm_T) (Kc3 : ph_T → Nat → Int32 → Int32 → Int32 → Int32 → Option (Int32 × ph_T)) (φ : ph_T) (x0 : Nat) (x1 : Int32) (x2 : Int32) (x3 : Int32) (x4 : Int32) : Option (Int32 × ph_T) :=
  Kc3 φ x0 x1 x2 x3 (x4 + (1 : Int32))
set_option maxRecDepth 100000 in
set_option maxHeartbeats 4000000 in
theorem p_Slave_meetsRight_L51 {w : jw_T} (hw : jok w) {Γ : gm_T} {n : Nat} (hG : gd w Γ n) {Kc3 : ph_T → Nat → Int32 → Int32 → Int32 → Int32 → Option (Int32 × ph_T)} (hKc3 : ∀ {x : Bool} {φ : ph_T} {x0 : Nat} {x1 : Int32} {x2 : Int32} {x3 : Int32} {x4 : Int32} {q : Int32 × ph_T}, Kc3 φ x0 x1 x2 x3 x4 = some q → J w M_Slave_meetsRight 3 [some (.ref x0), some (.int x1), some (.int x2), some (.int x3), some (.int x4), none] [] (pic Γ φ) n x 0 0 (fq Γ n (.inl (some (.int q.1))) q.2)) {x : Bool} {φ : ph_T} {x0 : Nat} {x1 : Int32} {x2 : Int32} {x3 : Int32} {x4 : Int32} {q : Int32 × ph_T} (H : f_Slave_meetsRight_L51 Γ Kc3 φ x0 x1 x2 x3 x4 = some q) : J w M_Slave_meetsRight 51 [some (.ref x0), some (.int x1), some (.int x2), some (.int x3), some (.int x4), none] [] (pic Γ φ) n x 0 0 (fq Γ n (.inl (some (.int q.1))) q.2) := by
  unfold f_Slave_meetsRight_L51 at H
  refine J_iinc (v := x4 + 1) d_Slave_meetsRight_51 rfl (by rw [show Int32.ofInt 1 = (1 : Int32) from by decide]) ?_
  refine J.ls (ls' := [some (.ref x0), some (.int x1), some (.int x2), some (.int x3), some (.int (x4 + (1 : Int32))), none]) rfl ?_
  refine J_goto (tgt := 3) d_Slave_meetsRight_54 (by decide) ?_
  refine J.drop [true, true, true, true, true, false] rfl ?_
  exact hKc3 H
def f_Slave_meetsRight_L3 (Γ : gm_T)  : Nat → ph_T → Nat → Int32 → Int32 → Int32 → Int32 → Option (Int32 × ph_T)
  | 0, _, _, _, _, _, _ => none
  | fu + 1, φ, x0, x1, x2, x3, x4 =>
    if (8 : Int32) ≤ x4 then
      @ite _ ((0 : Int32) = 0 ∨ (0 : Int32) = 1) _ (
      some ((0 : Int32), φ)
      ) none
    else
      @ite _ (Γ x0 = .inr 8) _ (
      Option.bind (φ.2.2 x0 4) fun a3 =>
      Option.bind (gA Γ a3 0) fun N4 =>
      Option.bind (ix x1 N4) fun k5 =>
      if ((x3 >>> (x4 &&& 31)) &&& (1 : Int32)) = (1 : Int32) then
        if ((x2 + x4) - (φ.1 a3 k5)) < 0 then
          f_Slave_meetsRight_L51 Γ (f_Slave_meetsRight_L3 Γ  fu) φ x0 x1 x2 x3 x4
        else
          Option.bind (φ.2.2 x0 5) fun a6 =>
          Option.bind (gA Γ a6 0) fun N7 =>
          Option.bind (ix x1 N7) fun k8 =>
          if (φ.1 a6 k8) ≤ ((x2 + x4) - (φ.1 a3 k5)) then
            f_Slave_meetsRight_L51 Γ (f_Slave_meetsRight_L3 Γ  fu) φ x0 x1 x2 x3 x4
          else
            @ite _ ((1 : Int32) = 0 ∨ (1 : Int32) = 1) _ (
            some ((1 : Int32), φ)
            ) none
      else
        f_Slave_meetsRight_L51 Γ (f_Slave_meetsRight_L3 Γ  fu) φ x0 x1 x2 x3 x4
      ) none
set_option maxRecDepth 100000 in
set_option maxHeartbeats 4000000 in
theorem p_Slave_meetsRight_L3 {w : jw_T} (hw : jok w) {Γ : gm_T} {n : Nat} (hG : gd w Γ n)  : ∀ (fu : Nat) {x : Bool} {φ : ph_T} {x0 : Nat} {x1 : Int32} {x2 : Int32} {x3 : Int32} {x4 : Int32} {q : Int32 × ph_T}, f_Slave_meetsRight_L3 Γ  fu φ x0 x1 x2 x3 x4 = some q → J w M_Slave_meetsRight 3 [some (.ref x0), some (.int x1), some (.int x2), some (.int x3), some (.int x4), none] [] (pic Γ φ) n x 0 0 (fq Γ n (.inl (some (.int q.1))) q.2) := by
  intro fu
  induction fu with
  | zero =>
    intro x φ x0 x1 x2 x3 x4 q H
    cases H
  | succ fu ih =>
    intro x φ x0 x1 x2 x3 x4 q H
    unfold f_Slave_meetsRight_L3 at H
    refine J_iload d_Slave_meetsRight_3 rfl ?_
    refine J_bipush (v := 8) d_Slave_meetsRight_5 (by decide) ?_
    refine J_icmp_ge (tgt := 57) d_Slave_meetsRight_7 (by decide) ?_ ?_
    · intro c13
      rw [if_pos c13] at H
      refine J_iconst (v := 0) d_Slave_meetsRight_57 (by decide) ?_
      have z1 : (0 : Int32) = 0 ∨ (0 : Int32) = 1 := by
        apply Classical.byContradiction
        intro q9
        rw [if_neg q9] at H
        cases H
      rw [if_pos z1] at H
      have H := Option.some.inj H
      subst H
      exact J_iret (st := []) d_Slave_meetsRight_58 rfl (narrow_z z1).1 ⟨rfl, rfl, rfl⟩
    · intro c13
      rw [if_neg c13] at H
      refine J_iload_n d_Slave_meetsRight_10 rfl ?_
      refine J_iload d_Slave_meetsRight_11 rfl ?_
      refine J_iadd d_Slave_meetsRight_13 ?_
      refine J_aload_n d_Slave_meetsRight_14 rfl ?_
      have g2 : Γ x0 = .inr 8 := by
        apply Classical.byContradiction
        intro q9
        rw [if_neg q9] at H
        cases H
      rw [if_pos g2] at H
      refine F_getR (ci := 8) (k := 4) hG (cf_Slave hw) (fl_Slave_27 hw) (by decide) (by decide) rfl d_Slave_meetsRight_15 g2 ?_
      refine J_iload_n d_Slave_meetsRight_18 rfl ?_
      obtain ⟨a3, ha3, H⟩ := Option.bind_eq_some_iff.mp H
      rw [j_rf ha3]
      obtain ⟨N4, hN4, H⟩ := Option.bind_eq_some_iff.mp H
      obtain ⟨k5, hk5, H⟩ := Option.bind_eq_some_iff.mp H
      refine F_iald k5 hw hG d_Slave_meetsRight_19 (gA_some hN4) (ix_some hk5) ?_
      refine J_isub d_Slave_meetsRight_20 ?_
      refine J_istore d_Slave_meetsRight_21 (Nat.le_of_ble_eq_true rfl) ?_
      refine J.ls (ls' := [some (.ref x0), some (.int x1), some (.int x2), some (.int x3), some (.int x4), some (.int ((x2 + x4) - (φ.1 a3 k5)))]) rfl ?_
      refine J_iload_n d_Slave_meetsRight_23 rfl ?_
      refine J_iload d_Slave_meetsRight_24 rfl ?_
      refine J_ishr d_Slave_meetsRight_26 ?_
      refine J_iconst (v := 1) d_Slave_meetsRight_27 (by decide) ?_
      refine J_iand d_Slave_meetsRight_28 ?_
      refine J_iconst (v := 1) d_Slave_meetsRight_29 (by decide) ?_
      refine J_icmp_ne (tgt := 51) d_Slave_meetsRight_30 (by decide) ?_ ?_
      · intro c12
        rw [if_neg c12] at H
        refine J.drop [true, true, true, true, true, false] rfl ?_
        exact p_Slave_meetsRight_L51 hw hG ih H
      · intro c12
        rw [if_pos c12] at H
        refine J_iload d_Slave_meetsRight_33 rfl ?_
        refine J_if_lt (tgt := 51) d_Slave_meetsRight_35 (by decide) ?_ ?_
        · intro c11
          rw [if_pos c11] at H
          refine J.drop [true, true, true, true, true, false] rfl ?_
          exact p_Slave_meetsRight_L51 hw hG ih H
        · intro c11
          rw [if_neg c11] at H
          refine J_iload d_Slave_meetsRight_38 rfl ?_
          refine J_aload_n d_Slave_meetsRight_40 rfl ?_
          refine F_getR (ci := 8) (k := 5) hG (cf_Slave hw) (fl_Slave_30 hw) (by decide) (by decide) rfl d_Slave_meetsRight_41 g2 ?_
          refine J_iload_n d_Slave_meetsRight_44 rfl ?_
          obtain ⟨a6, ha6, H⟩ := Option.bind_eq_some_iff.mp H
          rw [j_rf ha6]
          obtain ⟨N7, hN7, H⟩ := Option.bind_eq_some_iff.mp H
          obtain ⟨k8, hk8, H⟩ := Option.bind_eq_some_iff.mp H
          refine F_iald k8 hw hG d_Slave_meetsRight_45 (gA_some hN7) (ix_some hk8) ?_
          refine J_icmp_ge (tgt := 51) d_Slave_meetsRight_46 (by decide) ?_ ?_
          · intro c10
            rw [if_pos c10] at H
            refine J.drop [true, true, true, true, true, false] rfl ?_
            exact p_Slave_meetsRight_L51 hw hG ih H
          · intro c10
            rw [if_neg c10] at H
            refine J_iconst (v := 1) d_Slave_meetsRight_49 (by decide) ?_
            have z9 : (1 : Int32) = 0 ∨ (1 : Int32) = 1 := by
              apply Classical.byContradiction
              intro q9
              rw [if_neg q9] at H
              cases H
            rw [if_pos z9] at H
            have H := Option.some.inj H
            subst H
            exact J_iret (st := []) d_Slave_meetsRight_50 rfl (narrow_z z9).1 ⟨rfl, rfl, rfl⟩
def f_Slave_meetsRight (Γ : gm_T) (φ : ph_T) (this : Nat) (p0 : Int32) (p1 : Int32) (p2 : Int32) : Option (Int32 × ph_T) :=
  f_Slave_meetsRight_L3 Γ  jF φ this p0 p1 p2 (0 : Int32)
set_option maxRecDepth 100000 in
set_option maxHeartbeats 4000000 in
theorem p_Slave_meetsRight {w : jw_T} (hw : jok w) {Γ : gm_T} {n : Nat} (hG : gd w Γ n) {x : Bool} {φ : ph_T} {this : Nat} {p0 : Int32} {p1 : Int32} {p2 : Int32} {q : Int32 × ph_T} (H : f_Slave_meetsRight Γ φ this p0 p1 p2 = some q) : jc w M_Slave_meetsRight [.ref this, .int p0, .int p1, .int p2] (pic Γ φ) n x 0 0 (fq Γ n (.inl (some (.int q.1))) q.2) := by
  refine jc.of (by simp only [jent_r, jent_i, jent_l, jent_a, jent_0]; exact Nat.le_of_ble_eq_true rfl) ?_
  have hls : jents [.ref this, .int p0, .int p1, .int p2] (jm_nL M_Slave_meetsRight) = [some (.ref this), some (.int p0), some (.int p1), some (.int p2), none, none] := by simp only [jents, jent_r, jent_i, jent_l, jent_a, jent_0]; rfl
  rw [hls]
  clear hls
  unfold f_Slave_meetsRight at H
  refine J_iconst (v := 0) d_Slave_meetsRight_0 (by decide) ?_
  refine J_istore d_Slave_meetsRight_1 (Nat.le_of_ble_eq_true rfl) ?_
  refine J.ls (ls' := [some (.ref this), some (.int p0), some (.int p1), some (.int p2), some (.int (0 : Int32)), none]) rfl ?_
  refine J.drop [true, true, true, true, true, false] rfl ?_
  exact p_Slave_meetsRight_L3 hw hG  _ H
theorem ln_Slave_takeRights : (parseMethodDescriptor y_Slave_takeRights.desc).map (fun q => q.parameters.length) = some 2 := by decide +kernel
def f_Slave_takeRights_L35 (Γ : gm_T) (Kc2 : ph_T → Nat → Int32 → Int32 → Int32 → Option (Unit × ph_T)) (φ : ph_T) (x0 : Nat) (x1 : Int32) (x2 : Int32) (x3 : Int32) : Option (Unit × ph_T) :=
  Kc2 φ x0 x1 x2 (x3 + (1 : Int32))
set_option maxRecDepth 100000 in
set_option maxHeartbeats 4000000 in
theorem p_Slave_takeRights_L35 {w : jw_T} (hw : jok w) {Γ : gm_T} {n : Nat} (hG : gd w Γ n) {Kc2 : ph_T → Nat → Int32 → Int32 → Int32 → Option (Unit × ph_T)} (hKc2 : ∀ {x : Bool} {φ : ph_T} {x0 : Nat} {x1 : Int32} {x2 : Int32} {x3 : Int32} {q : Unit × ph_T}, Kc2 φ x0 x1 x2 x3 = some q → J w M_Slave_takeRights 2 [some (.ref x0), some (.int x1), some (.int x2), some (.int x3)] [] (pic Γ φ) n x 0 0 (fq Γ n (.inl none) q.2)) {x : Bool} {φ : ph_T} {x0 : Nat} {x1 : Int32} {x2 : Int32} {x3 : Int32} {q : Unit × ph_T} (H : f_Slave_takeRights_L35 Γ Kc2 φ x0 x1 x2 x3 = some q) : J w M_Slave_takeRights 35 [some (.ref x0), some (.int x1), some (.int x2), some (.int x3)] [] (pic Γ φ) n x 0 0 (fq Γ n (.inl none) q.2) := by
  unfold f_Slave_takeRights_L35 at H
  refine J_iinc (v := x3 + 1) d_Slave_takeRights_35 rfl (by rw [show Int32.ofInt 1 = (1 : Int32) from by decide]) ?_
  refine J.ls (ls' := [some (.ref x0), some (.int x1), some (.int x2), some (.int (x3 + (1 : Int32)))]) rfl ?_
  refine J_goto (tgt := 2) d_Slave_takeRights_38 (by decide) ?_
  refine J.drop [true, true, true, true] rfl ?_
  exact hKc2 H
def f_Slave_takeRights_L2 (Γ : gm_T)  : Nat → ph_T → Nat → Int32 → Int32 → Int32 → Option (Unit × ph_T)
  | 0, _, _, _, _, _ => none
  | fu + 1, φ, x0, x1, x2, x3 =>
    if (64 : Int32) ≤ x3 then
      some ((), φ)
    else
      @ite _ (Γ x0 = .inr 8) _ (
      Option.bind (φ.2.2 x0 4) fun a2 =>
      Option.bind (gA Γ a2 0) fun N3 =>
      Option.bind (ix x3 N3) fun k4 =>
      if (φ.1 a2 k4) = (-1 : Int32) then
        f_Slave_takeRights_L35 Γ (f_Slave_takeRights_L2 Γ  fu) φ x0 x1 x2 x3
      else
        Option.bind (f_Slave_meetsRight Γ φ x0 x3 x1 x2) fun q5 =>
        if q5.1 = 0 then
          f_Slave_takeRights_L35 Γ (f_Slave_takeRights_L2 Γ  fu) q5.2 x0 x1 x2 x3
        else
          Option.bind (q5.2.2.2 x0 4) fun a6 =>
          Option.bind (gA Γ a6 0) fun N7 =>
          Option.bind (ix x3 N7) fun k8 =>
          f_Slave_takeRights_L35 Γ (f_Slave_takeRights_L2 Γ  fu) (uI q5.2 a6 k8 (-1 : Int32)) x0 x1 x2 x3
      ) none
set_option maxRecDepth 100000 in
set_option maxHeartbeats 4000000 in
theorem p_Slave_takeRights_L2 {w : jw_T} (hw : jok w) {Γ : gm_T} {n : Nat} (hG : gd w Γ n)  : ∀ (fu : Nat) {x : Bool} {φ : ph_T} {x0 : Nat} {x1 : Int32} {x2 : Int32} {x3 : Int32} {q : Unit × ph_T}, f_Slave_takeRights_L2 Γ  fu φ x0 x1 x2 x3 = some q → J w M_Slave_takeRights 2 [some (.ref x0), some (.int x1), some (.int x2), some (.int x3)] [] (pic Γ φ) n x 0 0 (fq Γ n (.inl none) q.2) := by
  intro fu
  induction fu with
  | zero =>
    intro x φ x0 x1 x2 x3 q H
    cases H
  | succ fu ih =>
    intro x φ x0 x1 x2 x3 q H
    unfold f_Slave_takeRights_L2 at H
    refine J_iload_n d_Slave_takeRights_2 rfl ?_
    refine J_bipush (v := 64) d_Slave_takeRights_3 (by decide) ?_
    refine J_icmp_ge (tgt := 41) d_Slave_takeRights_5 (by decide) ?_ ?_
    · intro c11
      rw [if_pos c11] at H
      have H := Option.some.inj H
      subst H
      exact J_vret (st := []) d_Slave_takeRights_41 rfl ⟨rfl, rfl, rfl⟩
    · intro c11
      rw [if_neg c11] at H
      refine J_aload_n d_Slave_takeRights_8 rfl ?_
      have g1 : Γ x0 = .inr 8 := by
        apply Classical.byContradiction
        intro q9
        rw [if_neg q9] at H
        cases H
      rw [if_pos g1] at H
      refine F_getR (ci := 8) (k := 4) hG (cf_Slave hw) (fl_Slave_27 hw) (by decide) (by decide) rfl d_Slave_takeRights_9 g1 ?_
      refine J_iload_n d_Slave_takeRights_12 rfl ?_
      obtain ⟨a2, ha2, H⟩ := Option.bind_eq_some_iff.mp H
      rw [j_rf ha2]
      obtain ⟨N3, hN3, H⟩ := Option.bind_eq_some_iff.mp H
      obtain ⟨k4, hk4, H⟩ := Option.bind_eq_some_iff.mp H
      refine F_iald k4 hw hG d_Slave_takeRights_13 (gA_some hN3) (ix_some hk4) ?_
      refine J_iconst (v := -1) d_Slave_takeRights_14 (by decide) ?_
      refine J_icmp_eq (tgt := 35) d_Slave_takeRights_15 (by decide) ?_ ?_
      · intro c10
        rw [if_pos c10] at H
        refine J.drop [true, true, true, true] rfl ?_
        exact p_Slave_takeRights_L35 hw hG ih H
      · intro c10
        rw [if_neg c10] at H
        refine J_aload_n d_Slave_takeRights_18 rfl ?_
        refine J_iload_n d_Slave_takeRights_19 rfl ?_
        refine J_iload_n d_Slave_takeRights_20 rfl ?_
        refine J_iload_n d_Slave_takeRights_21 rfl ?_
        obtain ⟨q5, hq5, H⟩ := Option.bind_eq_some_iff.mp H
        refine J_callV (kc := 0) (ks := 0) (kc' := 0) (ks' := 0) (a := x0) (ci := 8) (as := [.int x3, .int x1, .int x2]) (st := []) (mf_Slave_meetsRight hw) (mv_Slave_230 hw) d_Slave_takeRights_22 ln_Slave_meetsRight (by decide) (by first | exact Nat.le_of_ble_eq_true rfl | (simp only [List.map_cons, List.map_nil, List.sum_cons, List.sum_nil, va_rf_cat]; exact Nat.le_of_ble_eq_true rfl)) rfl ((hG _).1 _ g1 (by decide)).1 ((hG _).1 _ g1 (by decide)).2 (by unfold pic; rw [g1]; rfl) (jcl_at hw rfl) rfl (p_Slave_meetsRight hw hG hq5) ?_ (fun E h' n' x' e1 => by cases e1.1)
        intro v9 h9 n9 x9 e9
        obtain ⟨e91, e92, e93⟩ := e9
        cases e91
        subst e92
        subst e93
        clear x
        rename Bool => x
        show J _ _ _ _ (_ :: _) _ _ _ _ _ _
        refine J_if_eq (tgt := 35) d_Slave_takeRights_25 (by decide) ?_ ?_
        · intro c9
          rw [if_pos c9] at H
          refine J.drop [true, true, true, true] rfl ?_
          exact p_Slave_takeRights_L35 hw hG ih H
        · intro c9
          rw [if_neg c9] at H
          refine J_aload_n d_Slave_takeRights_28 rfl ?_
          refine F_getR (ci := 8) (k := 4) hG (cf_Slave hw) (fl_Slave_27 hw) (by decide) (by decide) rfl d_Slave_takeRights_29 g1 ?_
          refine J_iload_n d_Slave_takeRights_32 rfl ?_
          refine J_iconst (v := -1) d_Slave_takeRights_33 (by decide) ?_
          obtain ⟨a6, ha6, H⟩ := Option.bind_eq_some_iff.mp H
          rw [j_rf ha6]
          obtain ⟨N7, hN7, H⟩ := Option.bind_eq_some_iff.mp H
          obtain ⟨k8, hk8, H⟩ := Option.bind_eq_some_iff.mp H
          refine F_iast k8 hw hG d_Slave_takeRights_34 (gA_some hN7) (ix_some hk8) ?_
          refine J.drop [true, true, true, true] rfl ?_
          exact p_Slave_takeRights_L35 hw hG ih H
def f_Slave_takeRights (Γ : gm_T) (φ : ph_T) (this : Nat) (p0 : Int32) (p1 : Int32) : Option (Unit × ph_T) :=
  f_Slave_takeRights_L2 Γ  jF φ this p0 p1 (0 : Int32)
set_option maxRecDepth 100000 in
set_option maxHeartbeats 4000000 in
theorem p_Slave_takeRights {w : jw_T} (hw : jok w) {Γ : gm_T} {n : Nat} (hG : gd w Γ n) {x : Bool} {φ : ph_T} {this : Nat} {p0 : Int32} {p1 : Int32} {q : Unit × ph_T} (H : f_Slave_takeRights Γ φ this p0 p1 = some q) : jc w M_Slave_takeRights [.ref this, .int p0, .int p1] (pic Γ φ) n x 0 0 (fq Γ n (.inl none) q.2) := by
  refine jc.of (by simp only [jent_r, jent_i, jent_l, jent_a, jent_0]; exact Nat.le_of_ble_eq_true rfl) ?_
  have hls : jents [.ref this, .int p0, .int p1] (jm_nL M_Slave_takeRights) = [some (.ref this), some (.int p0), some (.int p1), none] := by simp only [jents, jent_r, jent_i, jent_l, jent_a, jent_0]; rfl
  rw [hls]
  clear hls
  unfold f_Slave_takeRights at H
  refine J_iconst (v := 0) d_Slave_takeRights_0 (by decide) ?_
  refine J_istore_n d_Slave_takeRights_1 (Nat.le_of_ble_eq_true rfl) ?_
  refine J.ls (ls' := [some (.ref this), some (.int p0), some (.int p1), some (.int (0 : Int32))]) rfl ?_
  refine J.drop [true, true, true, true] rfl ?_
  exact p_Slave_takeRights_L2 hw hG  _ H
theorem ln_Slave_storeBeats : (parseMethodDescriptor y_Slave_storeBeats.desc).map (fun q => q.parameters.length) = some 1 := by decide +kernel
def f_Slave_storeBeats_L2 (Γ : gm_T)  : Nat → ph_T → Nat → Option Nat → Int32 → Option (Unit × ph_T)
  | 0, _, _, _, _ => none
  | fu + 1, φ, x0, x1, x2 =>
    Option.bind x1 fun a1 =>
    @ite _ (Γ a1 = .inr 0) _ (
    if (φ.1 a1 3) ≤ x2 then
      some ((), φ)
    else
      Option.bind (f_Burst_beatAddress Γ φ (φ.2.1 a1 0) x2) fun q3 =>
      Option.bind (q3.2.2.2 a1 7) fun a4 =>
      Option.bind (gA Γ a4 0) fun N5 =>
      Option.bind (ix x2 N5) fun k6 =>
      @ite _ (Γ x0 = .inr 8) _ (
      Option.bind (q3.2.2.2 a1 6) fun a8 =>
      Option.bind (gA Γ a8 1) fun N9 =>
      Option.bind (ix x2 N9) fun k10 =>
      Option.bind (q3.2.2.2 x0 0) fun a11 =>
      @ite _ (Γ a11 = .inr 2) _ (
      Option.bind (f_Memory_store Γ q3.2 a11 q3.1 (q3.2.2.1 a8 k10) ((q3.2.1 a4 k6) &&& (255 : Int32))) fun q13 =>
      Option.bind (f_Slave_takeRights Γ q13.2 x0 (q3.1 &&& (-8 : Int32)) ((q3.2.1 a4 k6) &&& (255 : Int32))) fun q14 =>
      (f_Slave_storeBeats_L2 Γ  fu) q14.2 x0 (some a1) (x2 + (1 : Int32))
      ) none
      ) none
    ) none
set_option maxRecDepth 100000 in
set_option maxHeartbeats 4000000 in
theorem p_Slave_storeBeats_L2 {w : jw_T} (hw : jok w) {Γ : gm_T} {n : Nat} (hG : gd w Γ n)  : ∀ (fu : Nat) {x : Bool} {φ : ph_T} {x0 : Nat} {x1 : Option Nat} {x2 : Int32} {q : Unit × ph_T}, f_Slave_storeBeats_L2 Γ  fu φ x0 x1 x2 = some q → J w M_Slave_storeBeats 2 [some (.ref x0), some (va_rf x1), some (.int x2), none, none] [] (pic Γ φ) n x 0 0 (fq Γ n (.inl none) q.2) := by
  intro fu
  induction fu with
  | zero =>
    intro x φ x0 x1 x2 q H
    cases H
  | succ fu ih =>
    intro x φ x0 x1 x2 q H
    unfold f_Slave_storeBeats_L2 at H
    refine J_iload_n d_Slave_storeBeats_2 rfl ?_
    refine J_aload_nO d_Slave_storeBeats_3 rfl ?_
    obtain ⟨a1, ha1, H⟩ := Option.bind_eq_some_iff.mp H
    rw [j_rf ha1]
    have g2 : Γ a1 = .inr 0 := by
      apply Classical.byContradiction
      intro q9
      rw [if_neg q9] at H
      cases H
    rw [if_pos g2] at H
    refine F_getI (ci := 0) (k := 3) hG (cf_Burst hw) (fl_Slave_120 hw) (by decide) (by decide) rfl d_Slave_storeBeats_4 g2 ?_
    refine J_icmp_ge (tgt := 63) d_Slave_storeBeats_7 (by decide) ?_ ?_
    · intro c15
      rw [if_pos c15] at H
      have H := Option.some.inj H
      subst H
      exact J_vret (st := []) d_Slave_storeBeats_63 rfl ⟨rfl, rfl, rfl⟩
    · intro c15
      rw [if_neg c15] at H
      refine J_aload_n d_Slave_storeBeats_10 rfl ?_
      refine F_getL (ci := 0) (k := 0) hG (cf_Burst hw) (fl_Slave_99 hw) (by decide) (by decide) rfl d_Slave_storeBeats_11 g2 ?_
      refine J_iload_n d_Slave_storeBeats_14 rfl ?_
      obtain ⟨q3, hq3, H⟩ := Option.bind_eq_some_iff.mp H
      refine J_callS (kc := 0) (ks := 0) (kc' := 0) (ks' := 0) (as := [.long (φ.2.1 a1 0), .int x2]) (st := []) (mf_Burst_beatAddress hw) (ms_Slave_214 hw) d_Slave_storeBeats_15 ln_Burst_beatAddress (by decide) (by first | exact Nat.le_of_ble_eq_true rfl | (simp only [List.map_cons, List.map_nil, List.sum_cons, List.sum_nil, va_rf_cat]; exact Nat.le_of_ble_eq_true rfl)) rfl (p_Burst_beatAddress hw hG hq3) ?_ (fun E h' n' x' e1 => by cases e1.1)
      intro v9 h9 n9 x9 e9
      obtain ⟨e91, e92, e93⟩ := e9
      cases e91
      subst e92
      subst e93
      clear x
      rename Bool => x
      show J _ _ _ _ (_ :: _) _ _ _ _ _ _
      refine J_istore_n d_Slave_storeBeats_18 (Nat.le_of_ble_eq_true rfl) ?_
      refine J.ls (ls' := [some (.ref x0), some (.ref a1), some (.int x2), some (.int q3.1), none]) rfl ?_
      refine J_aload_n d_Slave_storeBeats_19 rfl ?_
      refine F_getR (ci := 0) (k := 7) hG (cf_Burst hw) (fl_Slave_127 hw) (by decide) (by decide) rfl d_Slave_storeBeats_20 g2 ?_
      refine J_iload_n d_Slave_storeBeats_23 rfl ?_
      obtain ⟨a4, ha4, H⟩ := Option.bind_eq_some_iff.mp H
      rw [j_rf ha4]
      obtain ⟨N5, hN5, H⟩ := Option.bind_eq_some_iff.mp H
      obtain ⟨k6, hk6, H⟩ := Option.bind_eq_some_iff.mp H
      refine F_iald k6 hw hG d_Slave_storeBeats_24 (gA_some hN5) (ix_some hk6) ?_
      refine J_sipush (v := 255) d_Slave_storeBeats_25 (by decide) ?_
      refine J_iand d_Slave_storeBeats_28 ?_
      refine J_istore d_Slave_storeBeats_29 (Nat.le_of_ble_eq_true rfl) ?_
      refine J.ls (ls' := [some (.ref x0), some (.ref a1), some (.int x2), some (.int q3.1), some (.int ((q3.2.1 a4 k6) &&& (255 : Int32)))]) rfl ?_
      refine J_aload_n d_Slave_storeBeats_31 rfl ?_
      have g7 : Γ x0 = .inr 8 := by
        apply Classical.byContradiction
        intro q9
        rw [if_neg q9] at H
        cases H
      rw [if_pos g7] at H
      refine F_getR (ci := 8) (k := 0) hG (cf_Slave hw) (fl_Slave_43 hw) (by decide) (by decide) rfl d_Slave_storeBeats_32 g7 ?_
      refine J_iload_n d_Slave_storeBeats_35 rfl ?_
      refine J_aload_n d_Slave_storeBeats_36 rfl ?_
      refine F_getR (ci := 0) (k := 6) hG (cf_Burst hw) (fl_Slave_123 hw) (by decide) (by decide) rfl d_Slave_storeBeats_37 g2 ?_
      refine J_iload_n d_Slave_storeBeats_40 rfl ?_
      obtain ⟨a8, ha8, H⟩ := Option.bind_eq_some_iff.mp H
      rw [j_rf ha8]
      obtain ⟨N9, hN9, H⟩ := Option.bind_eq_some_iff.mp H
      obtain ⟨k10, hk10, H⟩ := Option.bind_eq_some_iff.mp H
      refine F_lald k10 hw hG d_Slave_storeBeats_41 (gA_some hN9) (ix_some hk10) ?_
      refine J_iload d_Slave_storeBeats_42 rfl ?_
      obtain ⟨a11, ha11, H⟩ := Option.bind_eq_some_iff.mp H
      rw [j_rf ha11]
      have g12 : Γ a11 = .inr 2 := by
        apply Classical.byContradiction
        intro q9
        rw [if_neg q9] at H
        cases H
      rw [if_pos g12] at H
      obtain ⟨q13, hq13, H⟩ := Option.bind_eq_some_iff.mp H
      refine J_callV (kc := 0) (ks := 0) (kc' := 0) (ks' := 0) (a := a11) (ci := 2) (as := [.int q3.1, .long (q3.2.2.1 a8 k10), .int ((q3.2.1 a4 k6) &&& (255 : Int32))]) (st := []) (mf_Memory_store hw) (mv_Slave_223 hw) d_Slave_storeBeats_44 ln_Memory_store (by decide) (by first | exact Nat.le_of_ble_eq_true rfl | (simp only [List.map_cons, List.map_nil, List.sum_cons, List.sum_nil, va_rf_cat]; exact Nat.le_of_ble_eq_true rfl)) rfl ((hG _).1 _ g12 (by decide)).1 ((hG _).1 _ g12 (by decide)).2 (by unfold pic; rw [g12]; rfl) (jcl_at hw rfl) rfl (p_Memory_store hw hG hq13) ?_ (fun E h' n' x' e1 => by cases e1.1)
      intro v9 h9 n9 x9 e9
      obtain ⟨e91, e92, e93⟩ := e9
      cases e91
      subst e92
      subst e93
      clear x
      rename Bool => x
      show J _ _ _ _ [] _ _ _ _ _ _
      refine J_aload_n d_Slave_storeBeats_47 rfl ?_
      refine J_iload_n d_Slave_storeBeats_48 rfl ?_
      refine J_bipush (v := -8) d_Slave_storeBeats_49 (by decide) ?_
      refine J_iand d_Slave_storeBeats_51 ?_
      refine J_iload d_Slave_storeBeats_52 rfl ?_
      obtain ⟨q14, hq14, H⟩ := Option.bind_eq_some_iff.mp H
      refine J_callV (kc := 0) (ks := 0) (kc' := 0) (ks' := 0) (a := x0) (ci := 8) (as := [.int (q3.1 &&& (-8 : Int32)), .int ((q3.2.1 a4 k6) &&& (255 : Int32))]) (st := []) (mf_Slave_takeRights hw) (mv_Slave_226 hw) d_Slave_storeBeats_54 ln_Slave_takeRights (by decide) (by first | exact Nat.le_of_ble_eq_true rfl | (simp only [List.map_cons, List.map_nil, List.sum_cons, List.sum_nil, va_rf_cat]; exact Nat.le_of_ble_eq_true rfl)) rfl ((hG _).1 _ g7 (by decide)).1 ((hG _).1 _ g7 (by decide)).2 (by unfold pic; rw [g7]; rfl) (jcl_at hw rfl) rfl (p_Slave_takeRights hw hG hq14) ?_ (fun E h' n' x' e1 => by cases e1.1)
      intro v9 h9 n9 x9 e9
      obtain ⟨e91, e92, e93⟩ := e9
      cases e91
      subst e92
      subst e93
      clear x
      rename Bool => x
      show J _ _ _ _ [] _ _ _ _ _ _
      refine J_iinc (v := x2 + 1) d_Slave_storeBeats_57 rfl (by rw [show Int32.ofInt 1 = (1 : Int32) from by decide]) ?_
      refine J.ls (ls' := [some (.ref x0), some (.ref a1), some (.int (x2 + (1 : Int32))), some (.int q3.1), some (.int ((q3.2.1 a4 k6) &&& (255 : Int32)))]) rfl ?_
      refine J_goto (tgt := 2) d_Slave_storeBeats_60 (by decide) ?_
      refine J.drop [true, true, true, false, false] rfl ?_
      exact ih H
def f_Slave_storeBeats (Γ : gm_T) (φ : ph_T) (this : Nat) (p0 : Option Nat) : Option (Unit × ph_T) :=
  f_Slave_storeBeats_L2 Γ  jF φ this p0 (0 : Int32)
set_option maxRecDepth 100000 in
set_option maxHeartbeats 4000000 in
theorem p_Slave_storeBeats {w : jw_T} (hw : jok w) {Γ : gm_T} {n : Nat} (hG : gd w Γ n) {x : Bool} {φ : ph_T} {this : Nat} {p0 : Option Nat} {q : Unit × ph_T} (H : f_Slave_storeBeats Γ φ this p0 = some q) : jc w M_Slave_storeBeats [.ref this, va_rf p0] (pic Γ φ) n x 0 0 (fq Γ n (.inl none) q.2) := by
  refine jc.of (by simp only [jent_r, jent_i, jent_l, jent_a, jent_0]; exact Nat.le_of_ble_eq_true rfl) ?_
  have hls : jents [.ref this, va_rf p0] (jm_nL M_Slave_storeBeats) = [some (.ref this), some (va_rf p0), none, none, none] := by simp only [jents, jent_r, jent_i, jent_l, jent_a, jent_0]; rfl
  rw [hls]
  clear hls
  unfold f_Slave_storeBeats at H
  refine J_iconst (v := 0) d_Slave_storeBeats_0 (by decide) ?_
  refine J_istore_n d_Slave_storeBeats_1 (Nat.le_of_ble_eq_true rfl) ?_
  refine J.ls (ls' := [some (.ref this), some (va_rf p0), some (.int (0 : Int32)), none, none]) (jst1_o (i := 1) (r := p0) rfl) ?_
  refine J.drop [true, true, true, false, false] rfl ?_
  exact p_Slave_storeBeats_L2 hw hG  _ H
theorem ln_Slave_doWrite : (parseMethodDescriptor y_Slave_doWrite.desc).map (fun q => q.parameters.length) = some 1 := by decide +kernel
def f_Slave_doWrite_L89 (Γ : gm_T)  (φ : ph_T) : Option (Unit × ph_T) :=
  some ((), φ)
set_option maxRecDepth 100000 in
set_option maxHeartbeats 4000000 in
theorem p_Slave_doWrite_L89 {w : jw_T} (hw : jok w) {Γ : gm_T} {n : Nat} (hG : gd w Γ n)  {x : Bool} {φ : ph_T} {q : Unit × ph_T} (H : f_Slave_doWrite_L89 Γ  φ  = some q) : J w M_Slave_doWrite 89 [none, none, none, none] [] (pic Γ φ) n x 0 0 (fq Γ n (.inl none) q.2) := by
  unfold f_Slave_doWrite_L89 at H
  have H := Option.some.inj H
  subst H
  exact J_vret (st := []) d_Slave_doWrite_89 rfl ⟨rfl, rfl, rfl⟩
def f_Slave_doWrite_L86 (Γ : gm_T)  (φ : ph_T) (y0 : Int32) (y1 : Option Nat) : Option (Unit × ph_T) :=
  Option.bind y1 fun a1 =>
  @ite _ (Γ a1 = .inr 0) _ (
  f_Slave_doWrite_L89 Γ  (uI φ a1 5 y0) 
  ) none
set_option maxRecDepth 100000 in
set_option maxHeartbeats 4000000 in
theorem p_Slave_doWrite_L86 {w : jw_T} (hw : jok w) {Γ : gm_T} {n : Nat} (hG : gd w Γ n)  {x : Bool} {φ : ph_T} {y0 : Int32} {y1 : Option Nat} {q : Unit × ph_T} (H : f_Slave_doWrite_L86 Γ  φ y0 y1 = some q) : J w M_Slave_doWrite 86 [none, none, none, none] [.int y0, va_rf y1] (pic Γ φ) n x 0 0 (fq Γ n (.inl none) q.2) := by
  unfold f_Slave_doWrite_L86 at H
  obtain ⟨a1, ha1, H⟩ := Option.bind_eq_some_iff.mp H
  rw [j_rf ha1]
  have g2 : Γ a1 = .inr 0 := by
    apply Classical.byContradiction
    intro q9
    rw [if_neg q9] at H
    cases H
  rw [if_pos g2] at H
  refine F_putI (ci := 0) (k := 5) hG (cf_Burst hw) (fl_Slave_109 hw) (by decide) (by decide) rfl d_Slave_doWrite_86 rfl rfl rfl g2 ?_
  refine J.drop [false, false, false, false] rfl ?_
  exact p_Slave_doWrite_L89 hw hG  H
def f_Slave_doWrite_L51 (Γ : gm_T)  (φ : ph_T) (x0 : Nat) (x1 : Option Nat) (x2 : Int32) (x3 : Int32) : Option (Unit × ph_T) :=
  @ite _ (Γ x0 = .inr 8) _ (
  Option.bind (f_Slave_writesSpoilt Γ φ x0 x1) fun q4 =>
  if q4.1 = 0 then
    if x3 = 0 then
      f_Slave_doWrite_L89 Γ  q4.2 
    else
      Option.bind (f_Slave_storeBeats Γ q4.2 x0 x1) fun q5 =>
      if x2 = 0 then
        f_Slave_doWrite_L86 Γ  q5.2 (0 : Int32) x1
      else
        f_Slave_doWrite_L86 Γ  q5.2 (1 : Int32) x1
  else
    Option.bind x1 fun a8 =>
    @ite _ (Γ a8 = .inr 0) _ (
    f_Slave_doWrite_L89 Γ  (uI q4.2 a8 5 (2 : Int32)) 
    ) none
  ) none
set_option maxRecDepth 100000 in
set_option maxHeartbeats 4000000 in
theorem p_Slave_doWrite_L51 {w : jw_T} (hw : jok w) {Γ : gm_T} {n : Nat} (hG : gd w Γ n)  {x : Bool} {φ : ph_T} {x0 : Nat} {x1 : Option Nat} {x2 : Int32} {x3 : Int32} {q : Unit × ph_T} (H : f_Slave_doWrite_L51 Γ  φ x0 x1 x2 x3 = some q) : J w M_Slave_doWrite 51 [some (.ref x0), some (va_rf x1), some (.int x2), some (.int x3)] [] (pic Γ φ) n x 0 0 (fq Γ n (.inl none) q.2) := by
  unfold f_Slave_doWrite_L51 at H
  refine J_aload_n d_Slave_doWrite_51 rfl ?_
  refine J_aload_nO d_Slave_doWrite_52 rfl ?_
  have g3 : Γ x0 = .inr 8 := by
    apply Classical.byContradiction
    intro q9
    rw [if_neg q9] at H
    cases H
  rw [if_pos g3] at H
  obtain ⟨q4, hq4, H⟩ := Option.bind_eq_some_iff.mp H
  refine J_callV (kc := 0) (ks := 0) (kc' := 0) (ks' := 0) (a := x0) (ci := 8) (as := [va_rf x1]) (st := []) (mf_Slave_writesSpoilt hw) (mv_Slave_198 hw) d_Slave_doWrite_53 ln_Slave_writesSpoilt (by decide) (by first | exact Nat.le_of_ble_eq_true rfl | (simp only [List.map_cons, List.map_nil, List.sum_cons, List.sum_nil, va_rf_cat]; exact Nat.le_of_ble_eq_true rfl)) rfl ((hG _).1 _ g3 (by decide)).1 ((hG _).1 _ g3 (by decide)).2 (by unfold pic; rw [g3]; rfl) (jcl_at hw rfl) rfl (p_Slave_writesSpoilt hw hG hq4) ?_ (fun E h' n' x' e1 => by cases e1.1)
  intro v9 h9 n9 x9 e9
  obtain ⟨e91, e92, e93⟩ := e9
  cases e91
  subst e92
  subst e93
  clear x
  rename Bool => x
  show J _ _ _ _ (_ :: _) _ _ _ _ _ _
  refine J_if_eq (tgt := 67) d_Slave_doWrite_56 (by decide) ?_ ?_
  · intro c10
    rw [if_pos c10] at H
    refine J_iload_n d_Slave_doWrite_67 rfl ?_
    refine J_if_eq (tgt := 89) d_Slave_doWrite_68 (by decide) ?_ ?_
    · intro c7
      rw [if_pos c7] at H
      refine J.drop [false, false, false, false] rfl ?_
      exact p_Slave_doWrite_L89 hw hG  H
    · intro c7
      rw [if_neg c7] at H
      refine J_aload_n d_Slave_doWrite_71 rfl ?_
      refine J_aload_nO d_Slave_doWrite_72 rfl ?_
      obtain ⟨q5, hq5, H⟩ := Option.bind_eq_some_iff.mp H
      refine J_callV (kc := 0) (ks := 0) (kc' := 0) (ks' := 0) (a := x0) (ci := 8) (as := [va_rf x1]) (st := []) (mf_Slave_storeBeats hw) (mv_Slave_202 hw) d_Slave_doWrite_73 ln_Slave_storeBeats (by decide) (by first | exact Nat.le_of_ble_eq_true rfl | (simp only [List.map_cons, List.map_nil, List.sum_cons, List.sum_nil, va_rf_cat]; exact Nat.le_of_ble_eq_true rfl)) rfl ((hG _).1 _ g3 (by decide)).1 ((hG _).1 _ g3 (by decide)).2 (by unfold pic; rw [g3]; rfl) (jcl_at hw rfl) rfl (p_Slave_storeBeats hw hG hq5) ?_ (fun E h' n' x' e1 => by cases e1.1)
      intro v9 h9 n9 x9 e9
      obtain ⟨e91, e92, e93⟩ := e9
      cases e91
      subst e92
      subst e93
      clear x
      rename Bool => x
      show J _ _ _ _ [] _ _ _ _ _ _
      refine J_aload_nO d_Slave_doWrite_76 rfl ?_
      refine J_iload_n d_Slave_doWrite_77 rfl ?_
      refine J_if_eq (tgt := 85) d_Slave_doWrite_78 (by decide) ?_ ?_
      · intro c6
        rw [if_pos c6] at H
        refine J_iconst (v := 0) d_Slave_doWrite_85 (by decide) ?_
        refine J.drop [false, false, false, false] rfl ?_
        exact p_Slave_doWrite_L86 hw hG  H
      · intro c6
        rw [if_neg c6] at H
        refine J_iconst (v := 1) d_Slave_doWrite_81 (by decide) ?_
        refine J_goto (tgt := 86) d_Slave_doWrite_82 (by decide) ?_
        refine J.drop [false, false, false, false] rfl ?_
        exact p_Slave_doWrite_L86 hw hG  H
  · intro c10
    rw [if_neg c10] at H
    refine J_aload_nO d_Slave_doWrite_59 rfl ?_
    refine J_iconst (v := 2) d_Slave_doWrite_60 (by decide) ?_
    obtain ⟨a8, ha8, H⟩ := Option.bind_eq_some_iff.mp H
    rw [j_rf ha8]
    have g9 : Γ a8 = .inr 0 := by
      apply Classical.byContradiction
      intro q9
      rw [if_neg q9] at H
      cases H
    rw [if_pos g9] at H
    refine F_putI (ci := 0) (k := 5) hG (cf_Burst hw) (fl_Slave_109 hw) (by decide) (by decide) rfl d_Slave_doWrite_61 rfl rfl rfl g9 ?_
    refine J_goto (tgt := 89) d_Slave_doWrite_64 (by decide) ?_
    refine J.drop [false, false, false, false] rfl ?_
    exact p_Slave_doWrite_L89 hw hG  H
def f_Slave_doWrite_L33 (Γ : gm_T)  (φ : ph_T) (x0 : Nat) (x1 : Option Nat) (x2 : Int32) (y0 : Int32) : Option (Unit × ph_T) :=
  if x2 = 0 then
    f_Slave_doWrite_L51 Γ  φ x0 x1 x2 y0
  else
    @ite _ (Γ x0 = .inr 8) _ (
    Option.bind x1 fun a12 =>
    @ite _ (Γ a12 = .inr 0) _ (
    Option.bind (f_Burst_idOf Γ φ (φ.2.1 a12 0)) fun q14 =>
    Option.bind (φ.2.2 x0 4) fun a15 =>
    Option.bind (gA Γ a15 0) fun N16 =>
    Option.bind (ix q14.1 N16) fun k17 =>
    f_Slave_doWrite_L51 Γ  (uI q14.2 a15 k17 (-1 : Int32)) x0 (some a12) x2 y0
    ) none
    ) none
set_option maxRecDepth 100000 in
set_option maxHeartbeats 4000000 in
theorem p_Slave_doWrite_L33 {w : jw_T} (hw : jok w) {Γ : gm_T} {n : Nat} (hG : gd w Γ n)  {x : Bool} {φ : ph_T} {x0 : Nat} {x1 : Option Nat} {x2 : Int32} {y0 : Int32} {q : Unit × ph_T} (H : f_Slave_doWrite_L33 Γ  φ x0 x1 x2 y0 = some q) : J w M_Slave_doWrite 33 [some (.ref x0), some (va_rf x1), some (.int x2), none] [.int y0] (pic Γ φ) n x 0 0 (fq Γ n (.inl none) q.2) := by
  unfold f_Slave_doWrite_L33 at H
  refine J_istore_n d_Slave_doWrite_33 (Nat.le_of_ble_eq_true rfl) ?_
  refine J.ls (ls' := [some (.ref x0), some (va_rf x1), some (.int x2), some (.int y0)]) rfl ?_
  refine J_iload_n d_Slave_doWrite_34 rfl ?_
  refine J_if_eq (tgt := 51) d_Slave_doWrite_35 (by decide) ?_ ?_
  · intro c18
    rw [if_pos c18] at H
    refine J.drop [true, true, true, true] rfl ?_
    exact p_Slave_doWrite_L51 hw hG  H
  · intro c18
    rw [if_neg c18] at H
    refine J_aload_n d_Slave_doWrite_38 rfl ?_
    have g11 : Γ x0 = .inr 8 := by
      apply Classical.byContradiction
      intro q9
      rw [if_neg q9] at H
      cases H
    rw [if_pos g11] at H
    refine F_getR (ci := 8) (k := 4) hG (cf_Slave hw) (fl_Slave_27 hw) (by decide) (by decide) rfl d_Slave_doWrite_39 g11 ?_
    refine J_aload_nO d_Slave_doWrite_42 rfl ?_
    obtain ⟨a12, ha12, H⟩ := Option.bind_eq_some_iff.mp H
    rw [j_rf ha12]
    have g13 : Γ a12 = .inr 0 := by
      apply Classical.byContradiction
      intro q9
      rw [if_neg q9] at H
      cases H
    rw [if_pos g13] at H
    refine F_getL (ci := 0) (k := 0) hG (cf_Burst hw) (fl_Slave_99 hw) (by decide) (by decide) rfl d_Slave_doWrite_43 g13 ?_
    obtain ⟨q14, hq14, H⟩ := Option.bind_eq_some_iff.mp H
    refine J_callS (kc := 0) (ks := 0) (kc' := 0) (ks' := 0) (as := [.long (φ.2.1 a12 0)]) (st := [va_rf (φ.2.2 x0 4)]) (mf_Burst_idOf hw) (ms_Slave_105 hw) d_Slave_doWrite_46 ln_Burst_idOf (by decide) (by first | exact Nat.le_of_ble_eq_true rfl | (simp only [List.map_cons, List.map_nil, List.sum_cons, List.sum_nil, va_rf_cat]; exact Nat.le_of_ble_eq_true rfl)) rfl (p_Burst_idOf hw hG hq14) ?_ (fun E h' n' x' e1 => by cases e1.1)
    intro v9 h9 n9 x9 e9
    obtain ⟨e91, e92, e93⟩ := e9
    cases e91
    subst e92
    subst e93
    clear x
    rename Bool => x
    show J _ _ _ _ (_ :: _) _ _ _ _ _ _
    refine J_iconst (v := -1) d_Slave_doWrite_49 (by decide) ?_
    obtain ⟨a15, ha15, H⟩ := Option.bind_eq_some_iff.mp H
    rw [j_rf ha15]
    obtain ⟨N16, hN16, H⟩ := Option.bind_eq_some_iff.mp H
    obtain ⟨k17, hk17, H⟩ := Option.bind_eq_some_iff.mp H
    refine F_iast k17 hw hG d_Slave_doWrite_50 (gA_some hN16) (ix_some hk17) ?_
    refine J.drop [true, true, true, true] rfl ?_
    exact p_Slave_doWrite_L51 hw hG  H
def f_Slave_doWrite_L28 (Γ : gm_T)  (φ : ph_T) (x0 : Nat) (x1 : Option Nat) (x2 : Int32) : Option (Unit × ph_T) :=
  f_Slave_doWrite_L33 Γ  φ x0 x1 x2 (1 : Int32)
set_option maxRecDepth 100000 in
set_option maxHeartbeats 4000000 in
theorem p_Slave_doWrite_L28 {w : jw_T} (hw : jok w) {Γ : gm_T} {n : Nat} (hG : gd w Γ n)  {x : Bool} {φ : ph_T} {x0 : Nat} {x1 : Option Nat} {x2 : Int32} {q : Unit × ph_T} (H : f_Slave_doWrite_L28 Γ  φ x0 x1 x2 = some q) : J w M_Slave_doWrite 28 [some (.ref x0), some (va_rf x1), some (.int x2), none] [] (pic Γ φ) n x 0 0 (fq Γ n (.inl none) q.2) := by
  unfold f_Slave_doWrite_L28 at H
  refine J_iconst (v := 1) d_Slave_doWrite_28 (by decide) ?_
  refine J_goto (tgt := 33) d_Slave_doWrite_29 (by decide) ?_
  refine J.drop [true, true, true, false] rfl ?_
  exact p_Slave_doWrite_L33 hw hG  H
def f_Slave_doWrite (Γ : gm_T) (φ : ph_T) (this : Nat) (p0 : Option Nat) : Option (Unit × ph_T) :=
  if p0 = none then
    some ((), φ)
  else
    Option.bind p0 fun a19 =>
    @ite _ (Γ a19 = .inr 0) _ (
    Option.bind (f_Burst_isExclusive Γ φ (φ.2.1 a19 0)) fun q21 =>
    if q21.1 = 0 then
      f_Slave_doWrite_L28 Γ  q21.2 this (some a19) q21.1
    else
      @ite _ (Γ this = .inr 8) _ (
      Option.bind (f_Slave_hasRight Γ q21.2 this (q21.2.2.1 a19 0)) fun q23 =>
      if q23.1 = 0 then
        f_Slave_doWrite_L33 Γ  q23.2 this (some a19) q21.1 (0 : Int32)
      else
        f_Slave_doWrite_L28 Γ  q23.2 this (some a19) q21.1
      ) none
    ) none
set_option maxRecDepth 100000 in
set_option maxHeartbeats 4000000 in
theorem p_Slave_doWrite {w : jw_T} (hw : jok w) {Γ : gm_T} {n : Nat} (hG : gd w Γ n) {x : Bool} {φ : ph_T} {this : Nat} {p0 : Option Nat} {q : Unit × ph_T} (H : f_Slave_doWrite Γ φ this p0 = some q) : jc w M_Slave_doWrite [.ref this, va_rf p0] (pic Γ φ) n x 0 0 (fq Γ n (.inl none) q.2) := by
  refine jc.of (by simp only [jent_r, jent_i, jent_l, jent_a, jent_0]; exact Nat.le_of_ble_eq_true rfl) ?_
  have hls : jents [.ref this, va_rf p0] (jm_nL M_Slave_doWrite) = [some (.ref this), some (va_rf p0), none, none] := by simp only [jents, jent_r, jent_i, jent_l, jent_a, jent_0]; rfl
  rw [hls]
  clear hls
  unfold f_Slave_doWrite at H
  refine J_aload_nO d_Slave_doWrite_0 rfl ?_
  refine J_ifnonnullO (r := p0) (tgt := 5) d_Slave_doWrite_1 (by decide) ?_ ?_
  · intro c26
    rw [if_neg c26] at H
    refine J_aload_nO d_Slave_doWrite_5 rfl ?_
    obtain ⟨a19, ha19, H⟩ := Option.bind_eq_some_iff.mp H
    rw [j_rf ha19]
    have g20 : Γ a19 = .inr 0 := by
      apply Classical.byContradiction
      intro q9
      rw [if_neg q9] at H
      cases H
    rw [if_pos g20] at H
    refine F_getL (ci := 0) (k := 0) hG (cf_Burst hw) (fl_Slave_99 hw) (by decide) (by decide) rfl d_Slave_doWrite_6 g20 ?_
    obtain ⟨q21, hq21, H⟩ := Option.bind_eq_some_iff.mp H
    refine J_callS (kc := 0) (ks := 0) (kc' := 0) (ks' := 0) (as := [.long (φ.2.1 a19 0)]) (st := []) (mf_Burst_isExclusive hw) (ms_Slave_191 hw) d_Slave_doWrite_9 ln_Burst_isExclusive (by decide) (by first | exact Nat.le_of_ble_eq_true rfl | (simp only [List.map_cons, List.map_nil, List.sum_cons, List.sum_nil, va_rf_cat]; exact Nat.le_of_ble_eq_true rfl)) rfl (p_Burst_isExclusive hw hG hq21) ?_ (fun E h' n' x' e1 => by cases e1.1)
    intro v9 h9 n9 x9 e9
    obtain ⟨e91, e92, e93⟩ := e9
    cases e91
    subst e92
    subst e93
    clear x
    rename Bool => x
    show J _ _ _ _ (_ :: _) _ _ _ _ _ _
    refine J_istore_n d_Slave_doWrite_12 (Nat.le_of_ble_eq_true rfl) ?_
    refine J.ls (ls' := [some (.ref this), some (.ref a19), some (.int q21.1), none]) rfl ?_
    refine J_iload_n d_Slave_doWrite_13 rfl ?_
    refine J_if_eq (tgt := 28) d_Slave_doWrite_14 (by decide) ?_ ?_
    · intro c25
      rw [if_pos c25] at H
      refine J.drop [true, true, true, false] rfl ?_
      exact p_Slave_doWrite_L28 hw hG  H
    · intro c25
      rw [if_neg c25] at H
      refine J_aload_n d_Slave_doWrite_17 rfl ?_
      refine J_aload_n d_Slave_doWrite_18 rfl ?_
      refine F_getL (ci := 0) (k := 0) hG (cf_Burst hw) (fl_Slave_99 hw) (by decide) (by decide) rfl d_Slave_doWrite_19 g20 ?_
      have g22 : Γ this = .inr 8 := by
        apply Classical.byContradiction
        intro q9
        rw [if_neg q9] at H
        cases H
      rw [if_pos g22] at H
      obtain ⟨q23, hq23, H⟩ := Option.bind_eq_some_iff.mp H
      refine J_callV (kc := 0) (ks := 0) (kc' := 0) (ks' := 0) (a := this) (ci := 8) (as := [.long (q21.2.2.1 a19 0)]) (st := []) (mf_Slave_hasRight hw) (mv_Slave_195 hw) d_Slave_doWrite_22 ln_Slave_hasRight (by decide) (by first | exact Nat.le_of_ble_eq_true rfl | (simp only [List.map_cons, List.map_nil, List.sum_cons, List.sum_nil, va_rf_cat]; exact Nat.le_of_ble_eq_true rfl)) rfl ((hG _).1 _ g22 (by decide)).1 ((hG _).1 _ g22 (by decide)).2 (by unfold pic; rw [g22]; rfl) (jcl_at hw rfl) rfl (p_Slave_hasRight hw hG hq23) ?_ (fun E h' n' x' e1 => by cases e1.1)
      intro v9 h9 n9 x9 e9
      obtain ⟨e91, e92, e93⟩ := e9
      cases e91
      subst e92
      subst e93
      clear x
      rename Bool => x
      show J _ _ _ _ (_ :: _) _ _ _ _ _ _
      refine J_if_eq (tgt := 32) d_Slave_doWrite_25 (by decide) ?_ ?_
      · intro c24
        rw [if_pos c24] at H
        refine J_iconst (v := 0) d_Slave_doWrite_32 (by decide) ?_
        refine J.drop [true, true, true, false] rfl ?_
        exact p_Slave_doWrite_L33 hw hG  H
      · intro c24
        rw [if_neg c24] at H
        refine J.drop [true, true, true, false] rfl ?_
        exact p_Slave_doWrite_L28 hw hG  H
  · intro c26
    rw [if_pos c26] at H
    have H := Option.some.inj H
    subst H
    exact J_vret (st := []) d_Slave_doWrite_4 rfl ⟨rfl, rfl, rfl⟩
theorem ln_Memory_load : (parseMethodDescriptor y_Memory_load.desc).map (fun q => q.parameters.length) = some 2 := by decide +kernel
def f_Memory_load (Γ : gm_T) (φ : ph_T) (this : Nat) (p0 : Int32) (p1 : Int32) : Option (Int64 × ph_T) :=
  @ite _ (Γ this = .inr 2) _ (
  Option.bind (f_Memory_wordOf Γ φ p0) fun q2 =>
  Option.bind (φ.2.2 this 0) fun a3 =>
  Option.bind (gA Γ a3 1) fun N4 =>
  Option.bind (ix q2.1 N4) fun k5 =>
  Option.bind (f_Bus_laneBits Γ q2.2 p1) fun q6 =>
  some (((q2.2.2.1 a3 k5) &&& q6.1), q6.2)
  ) none
set_option maxRecDepth 100000 in
set_option maxHeartbeats 4000000 in
theorem p_Memory_load {w : jw_T} (hw : jok w) {Γ : gm_T} {n : Nat} (hG : gd w Γ n) {x : Bool} {φ : ph_T} {this : Nat} {p0 : Int32} {p1 : Int32} {q : Int64 × ph_T} (H : f_Memory_load Γ φ this p0 p1 = some q) : jc w M_Memory_load [.ref this, .int p0, .int p1] (pic Γ φ) n x 0 0 (fq Γ n (.inl (some (.long q.1))) q.2) := by
  refine jc.of (by simp only [jent_r, jent_i, jent_l, jent_a, jent_0]; exact Nat.le_of_ble_eq_true rfl) ?_
  have hls : jents [.ref this, .int p0, .int p1] (jm_nL M_Memory_load) = [some (.ref this), some (.int p0), some (.int p1)] := by simp only [jents, jent_r, jent_i, jent_l, jent_a, jent_0]; rfl
  rw [hls]
  clear hls
  unfold f_Memory_load at H
  refine J_aload_n d_Memory_load_0 rfl ?_
  have g1 : Γ this = .inr 2 := by
    apply Classical.byContradiction
    intro q9
    rw [if_neg q9] at H
    cases H
  rw [if_pos g1] at H
  refine F_getR (ci := 2) (k := 0) hG (cf_Memory hw) (fl_Memory_9 hw) (by decide) (by decide) rfl d_Memory_load_1 g1 ?_
  refine J_iload_n d_Memory_load_4 rfl ?_
  obtain ⟨q2, hq2, H⟩ := Option.bind_eq_some_iff.mp H
  refine J_callS (kc := 0) (ks := 0) (kc' := 0) (ks' := 0) (as := [.int p0]) (st := [va_rf (φ.2.2 this 0)]) (mf_Memory_wordOf hw) (ms_Memory_24 hw) d_Memory_load_5 ln_Memory_wordOf (by decide) (by first | exact Nat.le_of_ble_eq_true rfl | (simp only [List.map_cons, List.map_nil, List.sum_cons, List.sum_nil, va_rf_cat]; exact Nat.le_of_ble_eq_true rfl)) rfl (p_Memory_wordOf hw hG hq2) ?_ (fun E h' n' x' e1 => by cases e1.1)
  intro v9 h9 n9 x9 e9
  obtain ⟨e91, e92, e93⟩ := e9
  cases e91
  subst e92
  subst e93
  clear x
  rename Bool => x
  show J _ _ _ _ (_ :: _) _ _ _ _ _ _
  obtain ⟨a3, ha3, H⟩ := Option.bind_eq_some_iff.mp H
  rw [j_rf ha3]
  obtain ⟨N4, hN4, H⟩ := Option.bind_eq_some_iff.mp H
  obtain ⟨k5, hk5, H⟩ := Option.bind_eq_some_iff.mp H
  refine F_lald k5 hw hG d_Memory_load_8 (gA_some hN4) (ix_some hk5) ?_
  refine J_iload_n d_Memory_load_9 rfl ?_
  obtain ⟨q6, hq6, H⟩ := Option.bind_eq_some_iff.mp H
  refine J_callS (kc := 0) (ks := 0) (kc' := 0) (ks' := 0) (as := [.int p1]) (st := [.long (q2.2.2.1 a3 k5)]) (mf_Bus_laneBits hw) (ms_Memory_28 hw) d_Memory_load_10 ln_Bus_laneBits (by decide) (by first | exact Nat.le_of_ble_eq_true rfl | (simp only [List.map_cons, List.map_nil, List.sum_cons, List.sum_nil, va_rf_cat]; exact Nat.le_of_ble_eq_true rfl)) rfl (p_Bus_laneBits hw hG hq6) ?_ (fun E h' n' x' e1 => by cases e1.1)
  intro v9 h9 n9 x9 e9
  obtain ⟨e91, e92, e93⟩ := e9
  cases e91
  subst e92
  subst e93
  clear x
  rename Bool => x
  show J _ _ _ _ (_ :: _) _ _ _ _ _ _
  refine J_land d_Memory_load_13 ?_
  have H := Option.some.inj H
  subst H
  exact J_lret (st := []) d_Memory_load_14 rfl ⟨rfl, rfl, rfl⟩
theorem ln_Slave_doRead : (parseMethodDescriptor y_Slave_doRead.desc).map (fun q => q.parameters.length) = some 2 := by decide +kernel
def f_Slave_doRead_L219 (Γ : gm_T)  (φ : ph_T) : Option (Unit × ph_T) :=
  some ((), φ)
set_option maxRecDepth 100000 in
set_option maxHeartbeats 4000000 in
theorem p_Slave_doRead_L219 {w : jw_T} (hw : jok w) {Γ : gm_T} {n : Nat} (hG : gd w Γ n)  {x : Bool} {φ : ph_T} {q : Unit × ph_T} (H : f_Slave_doRead_L219 Γ  φ  = some q) : J w M_Slave_doRead 219 [none, none, none, none, none, none, none, none, none, none, none, none] [] (pic Γ φ) n x 0 0 (fq Γ n (.inl none) q.2) := by
  unfold f_Slave_doRead_L219 at H
  have H := Option.some.inj H
  subst H
  exact J_vret (st := []) d_Slave_doRead_219 rfl ⟨rfl, rfl, rfl⟩
def f_Slave_doRead_L173 (Γ : gm_T) (Kc42 : ph_T → Nat → Option Nat → Int32 → Int32 → Int32 → Int32 → Int32 → Option (Unit × ph_T)) (φ : ph_T) (x0 : Nat) (x1 : Option Nat) (x3 : Int32) (x4 : Int32) (x5 : Int32) (x7 : Int32) (y0 : Int32) : Option (Unit × ph_T) :=
  Kc42 φ x0 x1 x3 x4 x5 y0 (x7 + (1 : Int32))
set_option maxRecDepth 100000 in
set_option maxHeartbeats 4000000 in
theorem p_Slave_doRead_L173 {w : jw_T} (hw : jok w) {Γ : gm_T} {n : Nat} (hG : gd w Γ n) {Kc42 : ph_T → Nat → Option Nat → Int32 → Int32 → Int32 → Int32 → Int32 → Option (Unit × ph_T)} (hKc42 : ∀ {x : Bool} {φ : ph_T} {x0 : Nat} {x1 : Option Nat} {x3 : Int32} {x4 : Int32} {x5 : Int32} {x6 : Int32} {x7 : Int32} {q : Unit × ph_T}, Kc42 φ x0 x1 x3 x4 x5 x6 x7 = some q → J w M_Slave_doRead 42 [some (.ref x0), some (va_rf x1), none, some (.int x3), some (.int x4), some (.int x5), some (.int x6), some (.int x7), none, none, none, none] [] (pic Γ φ) n x 0 0 (fq Γ n (.inl none) q.2)) {x : Bool} {φ : ph_T} {x0 : Nat} {x1 : Option Nat} {x3 : Int32} {x4 : Int32} {x5 : Int32} {x7 : Int32} {y0 : Int32} {q : Unit × ph_T} (H : f_Slave_doRead_L173 Γ Kc42 φ x0 x1 x3 x4 x5 x7 y0 = some q) : J w M_Slave_doRead 173 [some (.ref x0), some (va_rf x1), none, some (.int x3), some (.int x4), some (.int x5), none, some (.int x7), none, none, none, none] [.int y0] (pic Γ φ) n x 0 0 (fq Γ n (.inl none) q.2) := by
  unfold f_Slave_doRead_L173 at H
  refine J_istore d_Slave_doRead_173 (Nat.le_of_ble_eq_true rfl) ?_
  refine J.ls (ls' := [some (.ref x0), some (va_rf x1), none, some (.int x3), some (.int x4), some (.int x5), some (.int y0), some (.int x7), none, none, none, none]) rfl ?_
  refine J_iinc (v := x7 + 1) d_Slave_doRead_175 rfl (by rw [show Int32.ofInt 1 = (1 : Int32) from by decide]) ?_
  refine J.ls (ls' := [some (.ref x0), some (va_rf x1), none, some (.int x3), some (.int x4), some (.int x5), some (.int y0), some (.int (x7 + (1 : Int32))), none, none, none, none]) rfl ?_
  refine J_goto (tgt := 42) d_Slave_doRead_178 (by decide) ?_
  refine J.drop [true, true, false, true, true, true, true, true, false, false, false, false] rfl ?_
  exact hKc42 H
def f_Slave_doRead_L172 (Γ : gm_T) (Kc42 : ph_T → Nat → Option Nat → Int32 → Int32 → Int32 → Int32 → Int32 → Option (Unit × ph_T)) (φ : ph_T) (x0 : Nat) (x1 : Option Nat) (x3 : Int32) (x4 : Int32) (x5 : Int32) (x7 : Int32) : Option (Unit × ph_T) :=
  f_Slave_doRead_L173 Γ Kc42 φ x0 x1 x3 x4 x5 x7 (0 : Int32)
set_option maxRecDepth 100000 in
set_option maxHeartbeats 4000000 in
theorem p_Slave_doRead_L172 {w : jw_T} (hw : jok w) {Γ : gm_T} {n : Nat} (hG : gd w Γ n) {Kc42 : ph_T → Nat → Option Nat → Int32 → Int32 → Int32 → Int32 → Int32 → Option (Unit × ph_T)} (hKc42 : ∀ {x : Bool} {φ : ph_T} {x0 : Nat} {x1 : Option Nat} {x3 : Int32} {x4 : Int32} {x5 : Int32} {x6 : Int32} {x7 : Int32} {q : Unit × ph_T}, Kc42 φ x0 x1 x3 x4 x5 x6 x7 = some q → J w M_Slave_doRead 42 [some (.ref x0), some (va_rf x1), none, some (.int x3), some (.int x4), some (.int x5), some (.int x6), some (.int x7), none, none, none, none] [] (pic Γ φ) n x 0 0 (fq Γ n (.inl none) q.2)) {x : Bool} {φ : ph_T} {x0 : Nat} {x1 : Option Nat} {x3 : Int32} {x4 : Int32} {x5 : Int32} {x7 : Int32} {q : Unit × ph_T} (H : f_Slave_doRead_L172 Γ Kc42 φ x0 x1 x3 x4 x5 x7 = some q) : J w M_Slave_doRead 172 [some (.ref x0), some (va_rf x1), none, some (.int x3), some (.int x4), some (.int x5), none, some (.int x7), none, none, none, none] [] (pic Γ φ) n x 0 0 (fq Γ n (.inl none) q.2) := by
  unfold f_Slave_doRead_L172 at H
  refine J_iconst (v := 0) d_Slave_doRead_172 (by decide) ?_
  refine J.drop [true, true, false, true, true, true, false, true, false, false, false, false] rfl ?_
  exact p_Slave_doRead_L173 hw hG hKc42 H
def f_Slave_doRead_L154 (Γ : gm_T) (Kc42 : ph_T → Nat → Option Nat → Int32 → Int32 → Int32 → Int32 → Int32 → Option (Unit × ph_T)) (φ : ph_T) (x0 : Nat) (x1 : Option Nat) (x3 : Int32) (x4 : Int32) (x5 : Int32) (x6 : Int32) (x7 : Int32) (x10 : Int32) (y0 : Int32) (y1 : Int32) (y2 : Int32) (y3 : Int32) (y4 : Option Nat) : Option (Unit × ph_T) :=
  Option.bind (f_Bus_answerRest Γ φ y2 y1 y0) fun q1 =>
  Option.bind y4 fun a2 =>
  Option.bind (gA Γ a2 0) fun N3 =>
  Option.bind (ix y3 N3) fun k4 =>
  if x6 = 0 then
    f_Slave_doRead_L172 Γ Kc42 (uI q1.2 a2 k4 q1.1) x0 x1 x3 x4 x5 x7
  else
    if x10 = 0 then
      f_Slave_doRead_L173 Γ Kc42 (uI q1.2 a2 k4 q1.1) x0 x1 x3 x4 x5 x7 (1 : Int32)
    else
      f_Slave_doRead_L172 Γ Kc42 (uI q1.2 a2 k4 q1.1) x0 x1 x3 x4 x5 x7
set_option maxRecDepth 100000 in
set_option maxHeartbeats 4000000 in
theorem p_Slave_doRead_L154 {w : jw_T} (hw : jok w) {Γ : gm_T} {n : Nat} (hG : gd w Γ n) {Kc42 : ph_T → Nat → Option Nat → Int32 → Int32 → Int32 → Int32 → Int32 → Option (Unit × ph_T)} (hKc42 : ∀ {x : Bool} {φ : ph_T} {x0 : Nat} {x1 : Option Nat} {x3 : Int32} {x4 : Int32} {x5 : Int32} {x6 : Int32} {x7 : Int32} {q : Unit × ph_T}, Kc42 φ x0 x1 x3 x4 x5 x6 x7 = some q → J w M_Slave_doRead 42 [some (.ref x0), some (va_rf x1), none, some (.int x3), some (.int x4), some (.int x5), some (.int x6), some (.int x7), none, none, none, none] [] (pic Γ φ) n x 0 0 (fq Γ n (.inl none) q.2)) {x : Bool} {φ : ph_T} {x0 : Nat} {x1 : Option Nat} {x3 : Int32} {x4 : Int32} {x5 : Int32} {x6 : Int32} {x7 : Int32} {x10 : Int32} {y0 : Int32} {y1 : Int32} {y2 : Int32} {y3 : Int32} {y4 : Option Nat} {q : Unit × ph_T} (H : f_Slave_doRead_L154 Γ Kc42 φ x0 x1 x3 x4 x5 x6 x7 x10 y0 y1 y2 y3 y4 = some q) : J w M_Slave_doRead 154 [some (.ref x0), some (va_rf x1), none, some (.int x3), some (.int x4), some (.int x5), some (.int x6), some (.int x7), none, none, some (.int x10), none] [.int y0, .int y1, .int y2, .int y3, va_rf y4] (pic Γ φ) n x 0 0 (fq Γ n (.inl none) q.2) := by
  unfold f_Slave_doRead_L154 at H
  obtain ⟨q1, hq1, H⟩ := Option.bind_eq_some_iff.mp H
  refine J_callS (kc := 0) (ks := 0) (kc' := 0) (ks' := 0) (as := [.int y2, .int y1, .int y0]) (st := [.int y3, va_rf y4]) (mf_Bus_answerRest hw) (ms_Slave_112 hw) d_Slave_doRead_154 ln_Bus_answerRest (by decide) (by first | exact Nat.le_of_ble_eq_true rfl | (simp only [List.map_cons, List.map_nil, List.sum_cons, List.sum_nil, va_rf_cat]; exact Nat.le_of_ble_eq_true rfl)) rfl (p_Bus_answerRest hw hG hq1) ?_ (fun E h' n' x' e1 => by cases e1.1)
  intro v9 h9 n9 x9 e9
  obtain ⟨e91, e92, e93⟩ := e9
  cases e91
  subst e92
  subst e93
  clear x
  rename Bool => x
  show J _ _ _ _ (_ :: _) _ _ _ _ _ _
  obtain ⟨a2, ha2, H⟩ := Option.bind_eq_some_iff.mp H
  rw [j_rf ha2]
  obtain ⟨N3, hN3, H⟩ := Option.bind_eq_some_iff.mp H
  obtain ⟨k4, hk4, H⟩ := Option.bind_eq_some_iff.mp H
  refine F_iast k4 hw hG d_Slave_doRead_157 (gA_some hN3) (ix_some hk4) ?_
  refine J_iload d_Slave_doRead_158 rfl ?_
  refine J_if_eq (tgt := 172) d_Slave_doRead_160 (by decide) ?_ ?_
  · intro c6
    rw [if_pos c6] at H
    refine J.drop [true, true, false, true, true, true, false, true, false, false, false, false] rfl ?_
    exact p_Slave_doRead_L172 hw hG hKc42 H
  · intro c6
    rw [if_neg c6] at H
    refine J_iload d_Slave_doRead_163 rfl ?_
    refine J_if_ne (tgt := 172) d_Slave_doRead_165 (by decide) ?_ ?_
    · intro c5
      rw [if_neg c5] at H
      refine J.drop [true, true, false, true, true, true, false, true, false, false, false, false] rfl ?_
      exact p_Slave_doRead_L172 hw hG hKc42 H
    · intro c5
      rw [if_pos c5] at H
      refine J_iconst (v := 1) d_Slave_doRead_168 (by decide) ?_
      refine J_goto (tgt := 173) d_Slave_doRead_169 (by decide) ?_
      refine J.drop [true, true, false, true, true, true, false, true, false, false, false, false] rfl ?_
      exact p_Slave_doRead_L173 hw hG hKc42 H
def f_Slave_doRead_L130 (Γ : gm_T) (Kc42 : ph_T → Nat → Option Nat → Int32 → Int32 → Int32 → Int32 → Int32 → Option (Unit × ph_T)) (φ : ph_T) (x0 : Nat) (x1 : Option Nat) (x3 : Int32) (x4 : Int32) (x5 : Int32) (x6 : Int32) (x7 : Int32) (x10 : Int32) (x11 : Int32) (y0 : Int64) (y1 : Int32) (y2 : Option Nat) : Option (Unit × ph_T) :=
  Option.bind y2 fun a7 =>
  Option.bind (gA Γ a7 1) fun N8 =>
  Option.bind (ix y1 N8) fun k9 =>
  Option.bind x1 fun a10 =>
  @ite _ (Γ a10 = .inr 0) _ (
  if x7 = (x3 - (1 : Int32)) then
    f_Slave_doRead_L154 Γ Kc42 (uL φ a7 k9 y0) x0 (some a10) x3 x4 x5 x6 x7 x10 (1 : Int32) x11 x4 x7 (φ.2.2 a10 7)
  else
    f_Slave_doRead_L154 Γ Kc42 (uL φ a7 k9 y0) x0 (some a10) x3 x4 x5 x6 x7 x10 (0 : Int32) x11 x4 x7 (φ.2.2 a10 7)
  ) none
set_option maxRecDepth 100000 in
set_option maxHeartbeats 4000000 in
theorem p_Slave_doRead_L130 {w : jw_T} (hw : jok w) {Γ : gm_T} {n : Nat} (hG : gd w Γ n) {Kc42 : ph_T → Nat → Option Nat → Int32 → Int32 → Int32 → Int32 → Int32 → Option (Unit × ph_T)} (hKc42 : ∀ {x : Bool} {φ : ph_T} {x0 : Nat} {x1 : Option Nat} {x3 : Int32} {x4 : Int32} {x5 : Int32} {x6 : Int32} {x7 : Int32} {q : Unit × ph_T}, Kc42 φ x0 x1 x3 x4 x5 x6 x7 = some q → J w M_Slave_doRead 42 [some (.ref x0), some (va_rf x1), none, some (.int x3), some (.int x4), some (.int x5), some (.int x6), some (.int x7), none, none, none, none] [] (pic Γ φ) n x 0 0 (fq Γ n (.inl none) q.2)) {x : Bool} {φ : ph_T} {x0 : Nat} {x1 : Option Nat} {x3 : Int32} {x4 : Int32} {x5 : Int32} {x6 : Int32} {x7 : Int32} {x10 : Int32} {x11 : Int32} {y0 : Int64} {y1 : Int32} {y2 : Option Nat} {q : Unit × ph_T} (H : f_Slave_doRead_L130 Γ Kc42 φ x0 x1 x3 x4 x5 x6 x7 x10 x11 y0 y1 y2 = some q) : J w M_Slave_doRead 130 [some (.ref x0), some (va_rf x1), none, some (.int x3), some (.int x4), some (.int x5), some (.int x6), some (.int x7), none, none, some (.int x10), some (.int x11)] [.long y0, .int y1, va_rf y2] (pic Γ φ) n x 0 0 (fq Γ n (.inl none) q.2) := by
  unfold f_Slave_doRead_L130 at H
  obtain ⟨a7, ha7, H⟩ := Option.bind_eq_some_iff.mp H
  rw [j_rf ha7]
  obtain ⟨N8, hN8, H⟩ := Option.bind_eq_some_iff.mp H
  obtain ⟨k9, hk9, H⟩ := Option.bind_eq_some_iff.mp H
  refine F_last k9 hw hG d_Slave_doRead_130 (gA_some hN8) (ix_some hk9) ?_
  refine J_aload_nO d_Slave_doRead_131 rfl ?_
  obtain ⟨a10, ha10, H⟩ := Option.bind_eq_some_iff.mp H
  rw [j_rf ha10]
  have g11 : Γ a10 = .inr 0 := by
    apply Classical.byContradiction
    intro q9
    rw [if_neg q9] at H
    cases H
  rw [if_pos g11] at H
  refine F_getR (ci := 0) (k := 7) hG (cf_Burst hw) (fl_Slave_127 hw) (by decide) (by decide) rfl d_Slave_doRead_132 g11 ?_
  show J _ _ _ _ (va_rf (φ.2.2 a10 7) :: _) _ _ _ _ _ _
  refine J_iload d_Slave_doRead_135 rfl ?_
  refine J_iload d_Slave_doRead_137 rfl ?_
  refine J_iload d_Slave_doRead_139 rfl ?_
  refine J_iload d_Slave_doRead_141 rfl ?_
  refine J_iload_n d_Slave_doRead_143 rfl ?_
  refine J_iconst (v := 1) d_Slave_doRead_144 (by decide) ?_
  refine J_isub d_Slave_doRead_145 ?_
  refine J_icmp_ne (tgt := 153) d_Slave_doRead_146 (by decide) ?_ ?_
  · intro c12
    rw [if_neg c12] at H
    refine J_iconst (v := 0) d_Slave_doRead_153 (by decide) ?_
    refine J.drop [true, true, false, true, true, true, true, true, false, false, true, false] rfl ?_
    exact p_Slave_doRead_L154 hw hG hKc42 H
  · intro c12
    rw [if_pos c12] at H
    refine J_iconst (v := 1) d_Slave_doRead_149 (by decide) ?_
    refine J_goto (tgt := 154) d_Slave_doRead_150 (by decide) ?_
    refine J.drop [true, true, false, true, true, true, true, true, false, false, true, false] rfl ?_
    exact p_Slave_doRead_L154 hw hG hKc42 H
def f_Slave_doRead_L102 (Γ : gm_T) (Kc42 : ph_T → Nat → Option Nat → Int32 → Int32 → Int32 → Int32 → Int32 → Option (Unit × ph_T)) (φ : ph_T) (x0 : Nat) (x1 : Option Nat) (x3 : Int32) (x4 : Int32) (x5 : Int32) (x6 : Int32) (x7 : Int32) (x8 : Int32) (x9 : Int32) (x10 : Int32) (y0 : Int32) : Option (Unit × ph_T) :=
  Option.bind x1 fun a13 =>
  @ite _ (Γ a13 = .inr 0) _ (
  if x10 = 0 then
    @ite _ (Γ x0 = .inr 8) _ (
    Option.bind (φ.2.2 x0 0) fun a16 =>
    @ite _ (Γ a16 = .inr 2) _ (
    Option.bind (f_Memory_load Γ φ a16 x8 x9) fun q18 =>
    f_Slave_doRead_L130 Γ Kc42 q18.2 x0 (some a13) x3 x4 x5 x6 x7 x10 y0 q18.1 x7 (φ.2.2 a13 6)
    ) none
    ) none
  else
    f_Slave_doRead_L130 Γ Kc42 φ x0 (some a13) x3 x4 x5 x6 x7 x10 y0 (0 : Int64) x7 (φ.2.2 a13 6)
  ) none
set_option maxRecDepth 100000 in
set_option maxHeartbeats 4000000 in
theorem p_Slave_doRead_L102 {w : jw_T} (hw : jok w) {Γ : gm_T} {n : Nat} (hG : gd w Γ n) {Kc42 : ph_T → Nat → Option Nat → Int32 → Int32 → Int32 → Int32 → Int32 → Option (Unit × ph_T)} (hKc42 : ∀ {x : Bool} {φ : ph_T} {x0 : Nat} {x1 : Option Nat} {x3 : Int32} {x4 : Int32} {x5 : Int32} {x6 : Int32} {x7 : Int32} {q : Unit × ph_T}, Kc42 φ x0 x1 x3 x4 x5 x6 x7 = some q → J w M_Slave_doRead 42 [some (.ref x0), some (va_rf x1), none, some (.int x3), some (.int x4), some (.int x5), some (.int x6), some (.int x7), none, none, none, none] [] (pic Γ φ) n x 0 0 (fq Γ n (.inl none) q.2)) {x : Bool} {φ : ph_T} {x0 : Nat} {x1 : Option Nat} {x3 : Int32} {x4 : Int32} {x5 : Int32} {x6 : Int32} {x7 : Int32} {x8 : Int32} {x9 : Int32} {x10 : Int32} {y0 : Int32} {q : Unit × ph_T} (H : f_Slave_doRead_L102 Γ Kc42 φ x0 x1 x3 x4 x5 x6 x7 x8 x9 x10 y0 = some q) : J w M_Slave_doRead 102 [some (.ref x0), some (va_rf x1), none, some (.int x3), some (.int x4), some (.int x5), some (.int x6), some (.int x7), some (.int x8), some (.int x9), some (.int x10), none] [.int y0] (pic Γ φ) n x 0 0 (fq Γ n (.inl none) q.2) := by
  unfold f_Slave_doRead_L102 at H
  refine J_istore d_Slave_doRead_102 (Nat.le_of_ble_eq_true rfl) ?_
  refine J.ls (ls' := [some (.ref x0), some (va_rf x1), none, some (.int x3), some (.int x4), some (.int x5), some (.int x6), some (.int x7), some (.int x8), some (.int x9), some (.int x10), some (.int y0)]) rfl ?_
  refine J_aload_nO d_Slave_doRead_104 rfl ?_
  obtain ⟨a13, ha13, H⟩ := Option.bind_eq_some_iff.mp H
  rw [j_rf ha13]
  have g14 : Γ a13 = .inr 0 := by
    apply Classical.byContradiction
    intro q9
    rw [if_neg q9] at H
    cases H
  rw [if_pos g14] at H
  refine F_getR (ci := 0) (k := 6) hG (cf_Burst hw) (fl_Slave_123 hw) (by decide) (by decide) rfl d_Slave_doRead_105 g14 ?_
  refine J_iload d_Slave_doRead_108 rfl ?_
  refine J_iload d_Slave_doRead_110 rfl ?_
  refine J_if_eq (tgt := 119) d_Slave_doRead_112 (by decide) ?_ ?_
  · intro c19
    rw [if_pos c19] at H
    refine J_aload_n d_Slave_doRead_119 rfl ?_
    have g15 : Γ x0 = .inr 8 := by
      apply Classical.byContradiction
      intro q9
      rw [if_neg q9] at H
      cases H
    rw [if_pos g15] at H
    refine F_getR (ci := 8) (k := 0) hG (cf_Slave hw) (fl_Slave_43 hw) (by decide) (by decide) rfl d_Slave_doRead_120 g15 ?_
    refine J_iload d_Slave_doRead_123 rfl ?_
    refine J_iload d_Slave_doRead_125 rfl ?_
    obtain ⟨a16, ha16, H⟩ := Option.bind_eq_some_iff.mp H
    rw [j_rf ha16]
    have g17 : Γ a16 = .inr 2 := by
      apply Classical.byContradiction
      intro q9
      rw [if_neg q9] at H
      cases H
    rw [if_pos g17] at H
    obtain ⟨q18, hq18, H⟩ := Option.bind_eq_some_iff.mp H
    refine J_callV (kc := 0) (ks := 0) (kc' := 0) (ks' := 0) (a := a16) (ci := 2) (as := [.int x8, .int x9]) (st := [.int x7, va_rf (φ.2.2 a13 6)]) (mf_Memory_load hw) (mv_Slave_237 hw) d_Slave_doRead_127 ln_Memory_load (by decide) (by first | exact Nat.le_of_ble_eq_true rfl | (simp only [List.map_cons, List.map_nil, List.sum_cons, List.sum_nil, va_rf_cat]; exact Nat.le_of_ble_eq_true rfl)) rfl ((hG _).1 _ g17 (by decide)).1 ((hG _).1 _ g17 (by decide)).2 (by unfold pic; rw [g17]; rfl) (jcl_at hw rfl) rfl (p_Memory_load hw hG hq18) ?_ (fun E h' n' x' e1 => by cases e1.1)
    intro v9 h9 n9 x9 e9
    obtain ⟨e91, e92, e93⟩ := e9
    cases e91
    subst e92
    subst e93
    clear x
    rename Bool => x
    show J _ _ _ _ (_ :: _) _ _ _ _ _ _
    refine J.drop [true, true, false, true, true, true, true, true, false, false, true, true] rfl ?_
    exact p_Slave_doRead_L130 hw hG hKc42 H
  · intro c19
    rw [if_neg c19] at H
    refine J_lconst (v := 0) d_Slave_doRead_115 (by decide) ?_
    refine J_goto (tgt := 130) d_Slave_doRead_116 (by decide) ?_
    refine J.drop [true, true, false, true, true, true, true, true, false, false, true, true] rfl ?_
    exact p_Slave_doRead_L130 hw hG hKc42 H
def f_Slave_doRead_L42 (Γ : gm_T)  : Nat → ph_T → Nat → Option Nat → Int32 → Int32 → Int32 → Int32 → Int32 → Option (Unit × ph_T)
  | 0, _, _, _, _, _, _, _, _ => none
  | fu + 1, φ, x0, x1, x3, x4, x5, x6, x7 =>
    if x3 ≤ x7 then
      if x5 = 0 then
        f_Slave_doRead_L219 Γ  φ 
      else
        if x6 = 0 then
          f_Slave_doRead_L219 Γ  φ 
        else
          @ite _ (Γ x0 = .inr 8) _ (
          Option.bind x1 fun a21 =>
          @ite _ (Γ a21 = .inr 0) _ (
          Option.bind (f_Burst_addressOf Γ φ (φ.2.1 a21 0)) fun q23 =>
          Option.bind (φ.2.2 x0 4) fun a24 =>
          Option.bind (gA Γ a24 0) fun N25 =>
          Option.bind (ix x4 N25) fun k26 =>
          Option.bind (f_Slave_rangeOf Γ (uI q23.2 a24 k26 q23.1) (q23.2.2.1 a21 0)) fun q27 =>
          Option.bind (q23.2.2.2 x0 5) fun a28 =>
          Option.bind (gA Γ a28 0) fun N29 =>
          Option.bind (ix x4 N29) fun k30 =>
          f_Slave_doRead_L219 Γ  (uI q27.2 a28 k30 q27.1) 
          ) none
          ) none
    else
      Option.bind x1 fun a33 =>
      @ite _ (Γ a33 = .inr 0) _ (
      Option.bind (f_Burst_beatAddress Γ φ (φ.2.1 a33 0) x7) fun q35 =>
      Option.bind (f_Burst_beatLanes Γ q35.2 (q35.2.2.1 a33 0) x7) fun q36 =>
      @ite _ (Γ x0 = .inr 8) _ (
      Option.bind (q36.2.2.2 x0 0) fun a38 =>
      @ite _ (Γ a38 = .inr 2) _ (
      Option.bind (f_Memory_isSpoilt Γ q36.2 a38 q35.1 q36.1) fun q40 =>
      if q40.1 = 0 then
        if x5 = 0 then
          f_Slave_doRead_L102 Γ (f_Slave_doRead_L42 Γ  fu) q40.2 x0 (some a33) x3 x4 x5 x6 x7 q35.1 q36.1 q40.1 (0 : Int32)
        else
          f_Slave_doRead_L102 Γ (f_Slave_doRead_L42 Γ  fu) q40.2 x0 (some a33) x3 x4 x5 x6 x7 q35.1 q36.1 q40.1 (1 : Int32)
      else
        f_Slave_doRead_L102 Γ (f_Slave_doRead_L42 Γ  fu) q40.2 x0 (some a33) x3 x4 x5 x6 x7 q35.1 q36.1 q40.1 (2 : Int32)
      ) none
      ) none
      ) none
set_option maxRecDepth 100000 in
set_option maxHeartbeats 4000000 in
theorem p_Slave_doRead_L42 {w : jw_T} (hw : jok w) {Γ : gm_T} {n : Nat} (hG : gd w Γ n)  : ∀ (fu : Nat) {x : Bool} {φ : ph_T} {x0 : Nat} {x1 : Option Nat} {x3 : Int32} {x4 : Int32} {x5 : Int32} {x6 : Int32} {x7 : Int32} {q : Unit × ph_T}, f_Slave_doRead_L42 Γ  fu φ x0 x1 x3 x4 x5 x6 x7 = some q → J w M_Slave_doRead 42 [some (.ref x0), some (va_rf x1), none, some (.int x3), some (.int x4), some (.int x5), some (.int x6), some (.int x7), none, none, none, none] [] (pic Γ φ) n x 0 0 (fq Γ n (.inl none) q.2) := by
  intro fu
  induction fu with
  | zero =>
    intro x φ x0 x1 x3 x4 x5 x6 x7 q H
    cases H
  | succ fu ih =>
    intro x φ x0 x1 x3 x4 x5 x6 x7 q H
    unfold f_Slave_doRead_L42 at H
    refine J_iload d_Slave_doRead_42 rfl ?_
    refine J_iload_n d_Slave_doRead_44 rfl ?_
    refine J_icmp_ge (tgt := 181) d_Slave_doRead_45 (by decide) ?_ ?_
    · intro c43
      rw [if_pos c43] at H
      refine J_iload d_Slave_doRead_181 rfl ?_
      refine J_if_eq (tgt := 219) d_Slave_doRead_183 (by decide) ?_ ?_
      · intro c32
        rw [if_pos c32] at H
        refine J.drop [false, false, false, false, false, false, false, false, false, false, false, false] rfl ?_
        exact p_Slave_doRead_L219 hw hG  H
      · intro c32
        rw [if_neg c32] at H
        refine J_iload d_Slave_doRead_186 rfl ?_
        refine J_if_eq (tgt := 219) d_Slave_doRead_188 (by decide) ?_ ?_
        · intro c31
          rw [if_pos c31] at H
          refine J.drop [false, false, false, false, false, false, false, false, false, false, false, false] rfl ?_
          exact p_Slave_doRead_L219 hw hG  H
        · intro c31
          rw [if_neg c31] at H
          refine J_aload_n d_Slave_doRead_191 rfl ?_
          have g20 : Γ x0 = .inr 8 := by
            apply Classical.byContradiction
            intro q9
            rw [if_neg q9] at H
            cases H
          rw [if_pos g20] at H
          refine F_getR (ci := 8) (k := 4) hG (cf_Slave hw) (fl_Slave_27 hw) (by decide) (by decide) rfl d_Slave_doRead_192 g20 ?_
          refine J_iload d_Slave_doRead_195 rfl ?_
          refine J_aload_nO d_Slave_doRead_197 rfl ?_
          obtain ⟨a21, ha21, H⟩ := Option.bind_eq_some_iff.mp H
          rw [j_rf ha21]
          have g22 : Γ a21 = .inr 0 := by
            apply Classical.byContradiction
            intro q9
            rw [if_neg q9] at H
            cases H
          rw [if_pos g22] at H
          refine F_getL (ci := 0) (k := 0) hG (cf_Burst hw) (fl_Slave_99 hw) (by decide) (by decide) rfl d_Slave_doRead_198 g22 ?_
          obtain ⟨q23, hq23, H⟩ := Option.bind_eq_some_iff.mp H
          refine J_callS (kc := 0) (ks := 0) (kc' := 0) (ks' := 0) (as := [.long (φ.2.1 a21 0)]) (st := [.int x4, va_rf (φ.2.2 x0 4)]) (mf_Burst_addressOf hw) (ms_Slave_205 hw) d_Slave_doRead_201 ln_Burst_addressOf (by decide) (by first | exact Nat.le_of_ble_eq_true rfl | (simp only [List.map_cons, List.map_nil, List.sum_cons, List.sum_nil, va_rf_cat]; exact Nat.le_of_ble_eq_true rfl)) rfl (p_Burst_addressOf hw hG hq23) ?_ (fun E h' n' x' e1 => by cases e1.1)
          intro v9 h9 n9 x9 e9
          obtain ⟨e91, e92, e93⟩ := e9
          cases e91
          subst e92
          subst e93
          clear x
          rename Bool => x
          show J _ _ _ _ (_ :: _) _ _ _ _ _ _
          obtain ⟨a24, ha24, H⟩ := Option.bind_eq_some_iff.mp H
          rw [j_rf ha24]
          obtain ⟨N25, hN25, H⟩ := Option.bind_eq_some_iff.mp H
          obtain ⟨k26, hk26, H⟩ := Option.bind_eq_some_iff.mp H
          refine F_iast k26 hw hG d_Slave_doRead_204 (gA_some hN25) (ix_some hk26) ?_
          refine J_aload_n d_Slave_doRead_205 rfl ?_
          refine F_getR (ci := 8) (k := 5) hG (cf_Slave hw) (fl_Slave_30 hw) (by decide) (by decide) rfl d_Slave_doRead_206 g20 ?_
          show J _ _ _ _ (va_rf (q23.2.2.2 x0 5) :: _) _ _ _ _ _ _
          refine J_iload d_Slave_doRead_209 rfl ?_
          refine J_aload_n d_Slave_doRead_211 rfl ?_
          refine F_getL (ci := 0) (k := 0) hG (cf_Burst hw) (fl_Slave_99 hw) (by decide) (by decide) rfl d_Slave_doRead_212 g22 ?_
          show J _ _ _ _ (.long (q23.2.2.1 a21 0) :: _) _ _ _ _ _ _
          obtain ⟨q27, hq27, H⟩ := Option.bind_eq_some_iff.mp H
          refine J_callS (kc := 0) (ks := 0) (kc' := 0) (ks' := 0) (as := [.long (q23.2.2.1 a21 0)]) (st := [.int x4, va_rf (q23.2.2.2 x0 5)]) (mf_Slave_rangeOf hw) (ms_Slave_208 hw) d_Slave_doRead_215 ln_Slave_rangeOf (by decide) (by first | exact Nat.le_of_ble_eq_true rfl | (simp only [List.map_cons, List.map_nil, List.sum_cons, List.sum_nil, va_rf_cat]; exact Nat.le_of_ble_eq_true rfl)) rfl (p_Slave_rangeOf hw hG hq27) ?_ (fun E h' n' x' e1 => by cases e1.1)
          intro v9 h9 n9 x9 e9
          obtain ⟨e91, e92, e93⟩ := e9
          cases e91
          subst e92
          subst e93
          clear x
          rename Bool => x
          show J _ _ _ _ (_ :: _) _ _ _ _ _ _
          obtain ⟨a28, ha28, H⟩ := Option.bind_eq_some_iff.mp H
          rw [j_rf ha28]
          obtain ⟨N29, hN29, H⟩ := Option.bind_eq_some_iff.mp H
          obtain ⟨k30, hk30, H⟩ := Option.bind_eq_some_iff.mp H
          refine F_iast k30 hw hG d_Slave_doRead_218 (gA_some hN29) (ix_some hk30) ?_
          refine J.drop [false, false, false, false, false, false, false, false, false, false, false, false] rfl ?_
          exact p_Slave_doRead_L219 hw hG  H
    · intro c43
      rw [if_neg c43] at H
      refine J_aload_nO d_Slave_doRead_48 rfl ?_
      obtain ⟨a33, ha33, H⟩ := Option.bind_eq_some_iff.mp H
      rw [j_rf ha33]
      have g34 : Γ a33 = .inr 0 := by
        apply Classical.byContradiction
        intro q9
        rw [if_neg q9] at H
        cases H
      rw [if_pos g34] at H
      refine F_getL (ci := 0) (k := 0) hG (cf_Burst hw) (fl_Slave_99 hw) (by decide) (by decide) rfl d_Slave_doRead_49 g34 ?_
      refine J_iload d_Slave_doRead_52 rfl ?_
      obtain ⟨q35, hq35, H⟩ := Option.bind_eq_some_iff.mp H
      refine J_callS (kc := 0) (ks := 0) (kc' := 0) (ks' := 0) (as := [.long (φ.2.1 a33 0), .int x7]) (st := []) (mf_Burst_beatAddress hw) (ms_Slave_214 hw) d_Slave_doRead_54 ln_Burst_beatAddress (by decide) (by first | exact Nat.le_of_ble_eq_true rfl | (simp only [List.map_cons, List.map_nil, List.sum_cons, List.sum_nil, va_rf_cat]; exact Nat.le_of_ble_eq_true rfl)) rfl (p_Burst_beatAddress hw hG hq35) ?_ (fun E h' n' x' e1 => by cases e1.1)
      intro v9 h9 n9 x9 e9
      obtain ⟨e91, e92, e93⟩ := e9
      cases e91
      subst e92
      subst e93
      clear x
      rename Bool => x
      show J _ _ _ _ (_ :: _) _ _ _ _ _ _
      refine J_istore d_Slave_doRead_57 (Nat.le_of_ble_eq_true rfl) ?_
      refine J.ls (ls' := [some (.ref x0), some (.ref a33), none, some (.int x3), some (.int x4), some (.int x5), some (.int x6), some (.int x7), some (.int q35.1), none, none, none]) rfl ?_
      refine J_aload_n d_Slave_doRead_59 rfl ?_
      refine F_getL (ci := 0) (k := 0) hG (cf_Burst hw) (fl_Slave_99 hw) (by decide) (by decide) rfl d_Slave_doRead_60 g34 ?_
      refine J_iload d_Slave_doRead_63 rfl ?_
      obtain ⟨q36, hq36, H⟩ := Option.bind_eq_some_iff.mp H
      refine J_callS (kc := 0) (ks := 0) (kc' := 0) (ks' := 0) (as := [.long (q35.2.2.1 a33 0), .int x7]) (st := []) (mf_Burst_beatLanes hw) (ms_Slave_234 hw) d_Slave_doRead_65 ln_Burst_beatLanes (by decide) (by first | exact Nat.le_of_ble_eq_true rfl | (simp only [List.map_cons, List.map_nil, List.sum_cons, List.sum_nil, va_rf_cat]; exact Nat.le_of_ble_eq_true rfl)) rfl (p_Burst_beatLanes hw hG hq36) ?_ (fun E h' n' x' e1 => by cases e1.1)
      intro v9 h9 n9 x9 e9
      obtain ⟨e91, e92, e93⟩ := e9
      cases e91
      subst e92
      subst e93
      clear x
      rename Bool => x
      show J _ _ _ _ (_ :: _) _ _ _ _ _ _
      refine J_istore d_Slave_doRead_68 (Nat.le_of_ble_eq_true rfl) ?_
      refine J.ls (ls' := [some (.ref x0), some (.ref a33), none, some (.int x3), some (.int x4), some (.int x5), some (.int x6), some (.int x7), some (.int q35.1), some (.int q36.1), none, none]) rfl ?_
      refine J_aload_n d_Slave_doRead_70 rfl ?_
      have g37 : Γ x0 = .inr 8 := by
        apply Classical.byContradiction
        intro q9
        rw [if_neg q9] at H
        cases H
      rw [if_pos g37] at H
      refine F_getR (ci := 8) (k := 0) hG (cf_Slave hw) (fl_Slave_43 hw) (by decide) (by decide) rfl d_Slave_doRead_71 g37 ?_
      refine J_iload d_Slave_doRead_74 rfl ?_
      refine J_iload d_Slave_doRead_76 rfl ?_
      obtain ⟨a38, ha38, H⟩ := Option.bind_eq_some_iff.mp H
      rw [j_rf ha38]
      have g39 : Γ a38 = .inr 2 := by
        apply Classical.byContradiction
        intro q9
        rw [if_neg q9] at H
        cases H
      rw [if_pos g39] at H
      obtain ⟨q40, hq40, H⟩ := Option.bind_eq_some_iff.mp H
      refine J_callV (kc := 0) (ks := 0) (kc' := 0) (ks' := 0) (a := a38) (ci := 2) (as := [.int q35.1, .int q36.1]) (st := []) (mf_Memory_isSpoilt hw) (mv_Slave_218 hw) d_Slave_doRead_78 ln_Memory_isSpoilt (by decide) (by first | exact Nat.le_of_ble_eq_true rfl | (simp only [List.map_cons, List.map_nil, List.sum_cons, List.sum_nil, va_rf_cat]; exact Nat.le_of_ble_eq_true rfl)) rfl ((hG _).1 _ g39 (by decide)).1 ((hG _).1 _ g39 (by decide)).2 (by unfold pic; rw [g39]; rfl) (jcl_at hw rfl) rfl (p_Memory_isSpoilt hw hG hq40) ?_ (fun E h' n' x' e1 => by cases e1.1)
      intro v9 h9 n9 x9 e9
      obtain ⟨e91, e92, e93⟩ := e9
      cases e91
      subst e92
      subst e93
      clear x
      rename Bool => x
      show J _ _ _ _ (_ :: _) _ _ _ _ _ _
      refine J_istore d_Slave_doRead_81 (Nat.le_of_ble_eq_true rfl) ?_
      refine J.ls (ls' := [some (.ref x0), some (.ref a33), none, some (.int x3), some (.int x4), some (.int x5), some (.int x6), some (.int x7), some (.int q35.1), some (.int q36.1), some (.int q40.1), none]) rfl ?_
      refine J_iload d_Slave_doRead_83 rfl ?_
      refine J_if_eq (tgt := 92) d_Slave_doRead_85 (by decide) ?_ ?_
      · intro c42
        rw [if_pos c42] at H
        refine J_iload d_Slave_doRead_92 rfl ?_
        refine J_if_eq (tgt := 101) d_Slave_doRead_94 (by decide) ?_ ?_
        · intro c41
          rw [if_pos c41] at H
          refine J_iconst (v := 0) d_Slave_doRead_101 (by decide) ?_
          refine J.drop [true, true, false, true, true, true, true, true, true, true, true, false] rfl ?_
          exact p_Slave_doRead_L102 hw hG ih H
        · intro c41
          rw [if_neg c41] at H
          refine J_iconst (v := 1) d_Slave_doRead_97 (by decide) ?_
          refine J_goto (tgt := 102) d_Slave_doRead_98 (by decide) ?_
          refine J.drop [true, true, false, true, true, true, true, true, true, true, true, false] rfl ?_
          exact p_Slave_doRead_L102 hw hG ih H
      · intro c42
        rw [if_neg c42] at H
        refine J_iconst (v := 2) d_Slave_doRead_88 (by decide) ?_
        refine J_goto (tgt := 102) d_Slave_doRead_89 (by decide) ?_
        refine J.drop [true, true, false, true, true, true, true, true, true, true, true, false] rfl ?_
        exact p_Slave_doRead_L102 hw hG ih H
def f_Slave_doRead (Γ : gm_T) (φ : ph_T) (this : Nat) (p0 : Option Nat) (p1 : Int32) : Option (Unit × ph_T) :=
  if p0 = none then
    some ((), φ)
  else
    Option.bind p0 fun a44 =>
    @ite _ (Γ a44 = .inr 0) _ (
    Option.bind (f_Burst_lengthOf Γ (uI φ a44 4 p1) (φ.2.1 a44 0)) fun q46 =>
    Option.bind (f_Burst_idOf Γ q46.2 (q46.2.2.1 a44 0)) fun q47 =>
    Option.bind (f_Burst_isExclusive Γ q47.2 (q47.2.2.1 a44 0)) fun q48 =>
    f_Slave_doRead_L42 Γ  jF q48.2 this (some a44) q46.1 q47.1 q48.1 (1 : Int32) (0 : Int32)
    ) none
set_option maxRecDepth 100000 in
set_option maxHeartbeats 4000000 in
theorem p_Slave_doRead {w : jw_T} (hw : jok w) {Γ : gm_T} {n : Nat} (hG : gd w Γ n) {x : Bool} {φ : ph_T} {this : Nat} {p0 : Option Nat} {p1 : Int32} {q : Unit × ph_T} (H : f_Slave_doRead Γ φ this p0 p1 = some q) : jc w M_Slave_doRead [.ref this, va_rf p0, .int p1] (pic Γ φ) n x 0 0 (fq Γ n (.inl none) q.2) := by
  refine jc.of (by simp only [jent_r, jent_i, jent_l, jent_a, jent_0]; exact Nat.le_of_ble_eq_true rfl) ?_
  have hls : jents [.ref this, va_rf p0, .int p1] (jm_nL M_Slave_doRead) = [some (.ref this), some (va_rf p0), some (.int p1), none, none, none, none, none, none, none, none, none] := by simp only [jents, jent_r, jent_i, jent_l, jent_a, jent_0]; rfl
  rw [hls]
  clear hls
  unfold f_Slave_doRead at H
  refine J_aload_nO d_Slave_doRead_0 rfl ?_
  refine J_ifnonnullO (r := p0) (tgt := 5) d_Slave_doRead_1 (by decide) ?_ ?_
  · intro c49
    rw [if_neg c49] at H
    refine J_aload_nO d_Slave_doRead_5 rfl ?_
    refine J_iload_n d_Slave_doRead_6 rfl ?_
    obtain ⟨a44, ha44, H⟩ := Option.bind_eq_some_iff.mp H
    rw [j_rf ha44]
    have g45 : Γ a44 = .inr 0 := by
      apply Classical.byContradiction
      intro q9
      rw [if_neg q9] at H
      cases H
    rw [if_pos g45] at H
    refine F_putI (ci := 0) (k := 4) hG (cf_Burst hw) (fl_Slave_149 hw) (by decide) (by decide) rfl d_Slave_doRead_7 rfl rfl rfl g45 ?_
    refine J_aload_n d_Slave_doRead_10 rfl ?_
    refine F_getL (ci := 0) (k := 0) hG (cf_Burst hw) (fl_Slave_99 hw) (by decide) (by decide) rfl d_Slave_doRead_11 g45 ?_
    show J _ _ _ _ (.long (φ.2.1 a44 0) :: _) _ _ _ _ _ _
    obtain ⟨q46, hq46, H⟩ := Option.bind_eq_some_iff.mp H
    refine J_callS (kc := 0) (ks := 0) (kc' := 0) (ks' := 0) (as := [.long (φ.2.1 a44 0)]) (st := []) (mf_Burst_lengthOf hw) (ms_Slave_180 hw) d_Slave_doRead_14 ln_Burst_lengthOf (by decide) (by first | exact Nat.le_of_ble_eq_true rfl | (simp only [List.map_cons, List.map_nil, List.sum_cons, List.sum_nil, va_rf_cat]; exact Nat.le_of_ble_eq_true rfl)) rfl (p_Burst_lengthOf hw hG hq46) ?_ (fun E h' n' x' e1 => by cases e1.1)
    intro v9 h9 n9 x9 e9
    obtain ⟨e91, e92, e93⟩ := e9
    cases e91
    subst e92
    subst e93
    clear x
    rename Bool => x
    show J _ _ _ _ (_ :: _) _ _ _ _ _ _
    refine J_istore_n d_Slave_doRead_17 (Nat.le_of_ble_eq_true rfl) ?_
    refine J.ls (ls' := [some (.ref this), some (.ref a44), some (.int p1), some (.int q46.1), none, none, none, none, none, none, none, none]) rfl ?_
    refine J_aload_n d_Slave_doRead_18 rfl ?_
    refine F_getL (ci := 0) (k := 0) hG (cf_Burst hw) (fl_Slave_99 hw) (by decide) (by decide) rfl d_Slave_doRead_19 g45 ?_
    obtain ⟨q47, hq47, H⟩ := Option.bind_eq_some_iff.mp H
    refine J_callS (kc := 0) (ks := 0) (kc' := 0) (ks' := 0) (as := [.long (q46.2.2.1 a44 0)]) (st := []) (mf_Burst_idOf hw) (ms_Slave_105 hw) d_Slave_doRead_22 ln_Burst_idOf (by decide) (by first | exact Nat.le_of_ble_eq_true rfl | (simp only [List.map_cons, List.map_nil, List.sum_cons, List.sum_nil, va_rf_cat]; exact Nat.le_of_ble_eq_true rfl)) rfl (p_Burst_idOf hw hG hq47) ?_ (fun E h' n' x' e1 => by cases e1.1)
    intro v9 h9 n9 x9 e9
    obtain ⟨e91, e92, e93⟩ := e9
    cases e91
    subst e92
    subst e93
    clear x
    rename Bool => x
    show J _ _ _ _ (_ :: _) _ _ _ _ _ _
    refine J_istore d_Slave_doRead_25 (Nat.le_of_ble_eq_true rfl) ?_
    refine J.ls (ls' := [some (.ref this), some (.ref a44), some (.int p1), some (.int q46.1), some (.int q47.1), none, none, none, none, none, none, none]) rfl ?_
    refine J_aload_n d_Slave_doRead_27 rfl ?_
    refine F_getL (ci := 0) (k := 0) hG (cf_Burst hw) (fl_Slave_99 hw) (by decide) (by decide) rfl d_Slave_doRead_28 g45 ?_
    obtain ⟨q48, hq48, H⟩ := Option.bind_eq_some_iff.mp H
    refine J_callS (kc := 0) (ks := 0) (kc' := 0) (ks' := 0) (as := [.long (q47.2.2.1 a44 0)]) (st := []) (mf_Burst_isExclusive hw) (ms_Slave_191 hw) d_Slave_doRead_31 ln_Burst_isExclusive (by decide) (by first | exact Nat.le_of_ble_eq_true rfl | (simp only [List.map_cons, List.map_nil, List.sum_cons, List.sum_nil, va_rf_cat]; exact Nat.le_of_ble_eq_true rfl)) rfl (p_Burst_isExclusive hw hG hq48) ?_ (fun E h' n' x' e1 => by cases e1.1)
    intro v9 h9 n9 x9 e9
    obtain ⟨e91, e92, e93⟩ := e9
    cases e91
    subst e92
    subst e93
    clear x
    rename Bool => x
    show J _ _ _ _ (_ :: _) _ _ _ _ _ _
    refine J_istore d_Slave_doRead_34 (Nat.le_of_ble_eq_true rfl) ?_
    refine J.ls (ls' := [some (.ref this), some (.ref a44), some (.int p1), some (.int q46.1), some (.int q47.1), some (.int q48.1), none, none, none, none, none, none]) rfl ?_
    refine J_iconst (v := 1) d_Slave_doRead_36 (by decide) ?_
    refine J_istore d_Slave_doRead_37 (Nat.le_of_ble_eq_true rfl) ?_
    refine J.ls (ls' := [some (.ref this), some (.ref a44), some (.int p1), some (.int q46.1), some (.int q47.1), some (.int q48.1), some (.int (1 : Int32)), none, none, none, none, none]) rfl ?_
    refine J_iconst (v := 0) d_Slave_doRead_39 (by decide) ?_
    refine J_istore d_Slave_doRead_40 (Nat.le_of_ble_eq_true rfl) ?_
    refine J.ls (ls' := [some (.ref this), some (.ref a44), some (.int p1), some (.int q46.1), some (.int q47.1), some (.int q48.1), some (.int (1 : Int32)), some (.int (0 : Int32)), none, none, none, none]) rfl ?_
    refine J.drop [true, true, false, true, true, true, true, true, false, false, false, false] rfl ?_
    exact p_Slave_doRead_L42 hw hG  _ H
  · intro c49
    rw [if_pos c49] at H
    have H := Option.some.inj H
    subst H
    exact J_vret (st := []) d_Slave_doRead_4 rfl ⟨rfl, rfl, rfl⟩
theorem ln_Slave_passReadBeat : (parseMethodDescriptor y_Slave_passReadBeat.desc).map (fun q => q.parameters.length) = some 1 := by decide +kernel
def f_Slave_passReadBeat_L48 (Γ : gm_T)  (φ : ph_T) : Option (Unit × ph_T) :=
  some ((), φ)
set_option maxRecDepth 100000 in
set_option maxHeartbeats 4000000 in
theorem p_Slave_passReadBeat_L48 {w : jw_T} (hw : jok w) {Γ : gm_T} {n : Nat} (hG : gd w Γ n)  {x : Bool} {φ : ph_T} {q : Unit × ph_T} (H : f_Slave_passReadBeat_L48 Γ  φ  = some q) : J w M_Slave_passReadBeat 48 [none, none] [] (pic Γ φ) n x 0 0 (fq Γ n (.inl none) q.2) := by
  unfold f_Slave_passReadBeat_L48 at H
  have H := Option.some.inj H
  subst H
  exact J_vret (st := []) d_Slave_passReadBeat_48 rfl ⟨rfl, rfl, rfl⟩
def f_Slave_passReadBeat (Γ : gm_T) (φ : ph_T) (this : Nat) (p0 : Option Nat) : Option (Unit × ph_T) :=
  if p0 = none then
    some ((), φ)
  else
    Option.bind p0 fun a1 =>
    @ite _ (Γ a1 = .inr 0) _ (
    @ite _ (Γ this = .inr 8) _ (
    Option.bind (f_Burst_lengthOf Γ (uI (uI φ this 10 (φ.1 a1 4)) a1 3 (((uI φ this 10 (φ.1 a1 4)).1 a1 3) + (1 : Int32))) (φ.2.1 a1 0)) fun q4 =>
    if ((uI (uI φ this 10 (φ.1 a1 4)) a1 3 (((uI φ this 10 (φ.1 a1 4)).1 a1 3) + (1 : Int32))).1 a1 3) < q4.1 then
      f_Slave_passReadBeat_L48 Γ  q4.2 
    else
      Option.bind (q4.2.2.2 this 3) fun a5 =>
      @ite _ (Γ a5 = .inr 1) _ (
      Option.bind (f_Line_remove Γ q4.2 a5 (q4.2.1 this 9)) fun q7 =>
      f_Slave_passReadBeat_L48 Γ  q7.2 
      ) none
    ) none
    ) none
set_option maxRecDepth 100000 in
set_option maxHeartbeats 4000000 in
theorem p_Slave_passReadBeat {w : jw_T} (hw : jok w) {Γ : gm_T} {n : Nat} (hG : gd w Γ n) {x : Bool} {φ : ph_T} {this : Nat} {p0 : Option Nat} {q : Unit × ph_T} (H : f_Slave_passReadBeat Γ φ this p0 = some q) : jc w M_Slave_passReadBeat [.ref this, va_rf p0] (pic Γ φ) n x 0 0 (fq Γ n (.inl none) q.2) := by
  refine jc.of (by simp only [jent_r, jent_i, jent_l, jent_a, jent_0]; exact Nat.le_of_ble_eq_true rfl) ?_
  have hls : jents [.ref this, va_rf p0] (jm_nL M_Slave_passReadBeat) = [some (.ref this), some (va_rf p0)] := by simp only [jents, jent_r, jent_i, jent_l, jent_a, jent_0]; rfl
  rw [hls]
  clear hls
  unfold f_Slave_passReadBeat at H
  refine J_aload_nO d_Slave_passReadBeat_0 rfl ?_
  refine J_ifnonnullO (r := p0) (tgt := 5) d_Slave_passReadBeat_1 (by decide) ?_ ?_
  · intro c9
    rw [if_neg c9] at H
    refine J_aload_n d_Slave_passReadBeat_5 rfl ?_
    refine J_aload_nO d_Slave_passReadBeat_6 rfl ?_
    obtain ⟨a1, ha1, H⟩ := Option.bind_eq_some_iff.mp H
    rw [j_rf ha1]
    have g2 : Γ a1 = .inr 0 := by
      apply Classical.byContradiction
      intro q9
      rw [if_neg q9] at H
      cases H
    rw [if_pos g2] at H
    refine F_getI (ci := 0) (k := 4) hG (cf_Burst hw) (fl_Slave_149 hw) (by decide) (by decide) rfl d_Slave_passReadBeat_7 g2 ?_
    have g3 : Γ this = .inr 8 := by
      apply Classical.byContradiction
      intro q9
      rw [if_neg q9] at H
      cases H
    rw [if_pos g3] at H
    refine F_putI (ci := 8) (k := 10) hG (cf_Slave hw) (fl_Slave_40 hw) (by decide) (by decide) rfl d_Slave_passReadBeat_10 rfl rfl rfl g3 ?_
    refine J_aload_n d_Slave_passReadBeat_13 rfl ?_
    refine J_dup d_Slave_passReadBeat_14 rfl ?_
    refine F_getI (ci := 0) (k := 3) hG (cf_Burst hw) (fl_Slave_120 hw) (by decide) (by decide) rfl d_Slave_passReadBeat_15 g2 ?_
    refine J_iconst (v := 1) d_Slave_passReadBeat_18 (by decide) ?_
    refine J_iadd d_Slave_passReadBeat_19 ?_
    refine F_putI (ci := 0) (k := 3) hG (cf_Burst hw) (fl_Slave_120 hw) (by decide) (by decide) rfl d_Slave_passReadBeat_20 rfl rfl rfl g2 ?_
    refine J_aload_n d_Slave_passReadBeat_23 rfl ?_
    refine F_getI (ci := 0) (k := 3) hG (cf_Burst hw) (fl_Slave_120 hw) (by decide) (by decide) rfl d_Slave_passReadBeat_24 g2 ?_
    refine J_aload_n d_Slave_passReadBeat_27 rfl ?_
    refine F_getL (ci := 0) (k := 0) hG (cf_Burst hw) (fl_Slave_99 hw) (by decide) (by decide) rfl d_Slave_passReadBeat_28 g2 ?_
    show J _ _ _ _ (.long (φ.2.1 a1 0) :: _) _ _ _ _ _ _
    obtain ⟨q4, hq4, H⟩ := Option.bind_eq_some_iff.mp H
    refine J_callS (kc := 0) (ks := 0) (kc' := 0) (ks' := 0) (as := [.long (φ.2.1 a1 0)]) (st := [.int ((uI (uI φ this 10 (φ.1 a1 4)) a1 3 (((uI φ this 10 (φ.1 a1 4)).1 a1 3) + (1 : Int32))).1 a1 3)]) (mf_Burst_lengthOf hw) (ms_Slave_180 hw) d_Slave_passReadBeat_31 ln_Burst_lengthOf (by decide) (by first | exact Nat.le_of_ble_eq_true rfl | (simp only [List.map_cons, List.map_nil, List.sum_cons, List.sum_nil, va_rf_cat]; exact Nat.le_of_ble_eq_true rfl)) rfl (p_Burst_lengthOf hw hG hq4) ?_ (fun E h' n' x' e1 => by cases e1.1)
    intro v9 h9 n9 x9 e9
    obtain ⟨e91, e92, e93⟩ := e9
    cases e91
    subst e92
    subst e93
    clear x
    rename Bool => x
    show J _ _ _ _ (_ :: _) _ _ _ _ _ _
    refine J_icmp_lt (tgt := 48) d_Slave_passReadBeat_34 (by decide) ?_ ?_
    · intro c8
      rw [if_pos c8] at H
      refine J.drop [false, false] rfl ?_
      exact p_Slave_passReadBeat_L48 hw hG  H
    · intro c8
      rw [if_neg c8] at H
      refine J_aload_n d_Slave_passReadBeat_37 rfl ?_
      refine F_getR (ci := 8) (k := 3) hG (cf_Slave hw) (fl_Slave_24 hw) (by decide) (by decide) rfl d_Slave_passReadBeat_38 g3 ?_
      refine J_aload_n d_Slave_passReadBeat_41 rfl ?_
      refine F_getI (ci := 8) (k := 9) hG (cf_Slave hw) (fl_Slave_37 hw) (by decide) (by decide) rfl d_Slave_passReadBeat_42 g3 ?_
      obtain ⟨a5, ha5, H⟩ := Option.bind_eq_some_iff.mp H
      rw [j_rf ha5]
      have g6 : Γ a5 = .inr 1 := by
        apply Classical.byContradiction
        intro q9
        rw [if_neg q9] at H
        cases H
      rw [if_pos g6] at H
      obtain ⟨q7, hq7, H⟩ := Option.bind_eq_some_iff.mp H
      refine J_callV (kc := 0) (ks := 0) (kc' := 0) (ks' := 0) (a := a5) (ci := 1) (as := [.int (q4.2.1 this 9)]) (st := []) (mf_Line_remove hw) (mv_Slave_170 hw) d_Slave_passReadBeat_45 ln_Line_remove (by decide) (by first | exact Nat.le_of_ble_eq_true rfl | (simp only [List.map_cons, List.map_nil, List.sum_cons, List.sum_nil, va_rf_cat]; exact Nat.le_of_ble_eq_true rfl)) rfl ((hG _).1 _ g6 (by decide)).1 ((hG _).1 _ g6 (by decide)).2 (by unfold pic; rw [g6]; rfl) (jcl_at hw rfl) rfl (p_Line_remove hw hG hq7) ?_ (fun E h' n' x' e1 => by cases e1.1)
      intro v9 h9 n9 x9 e9
      obtain ⟨e91, e92, e93⟩ := e9
      cases e91
      subst e92
      subst e93
      clear x
      rename Bool => x
      show J _ _ _ _ [] _ _ _ _ _ _
      refine J.drop [false, false] rfl ?_
      exact p_Slave_passReadBeat_L48 hw hG  H
  · intro c9
    rw [if_pos c9] at H
    have H := Option.some.inj H
    subst H
    exact J_vret (st := []) d_Slave_passReadBeat_4 rfl ⟨rfl, rfl, rfl⟩
theorem ln_Slave_pass : (parseMethodDescriptor y_Slave_pass.desc).map (fun q => q.parameters.length) = some 3 := by decide +kernel
def f_Slave_pass_L125 (Γ : gm_T)  (φ : ph_T) : Option (Unit × ph_T) :=
  some ((), φ)
set_option maxRecDepth 100000 in
set_option maxHeartbeats 4000000 in
theorem p_Slave_pass_L125 {w : jw_T} (hw : jok w) {Γ : gm_T} {n : Nat} (hG : gd w Γ n)  {x : Bool} {φ : ph_T} {q : Unit × ph_T} (H : f_Slave_pass_L125 Γ  φ  = some q) : J w M_Slave_pass 125 [none, none, none, none] [] (pic Γ φ) n x 0 0 (fq Γ n (.inl none) q.2) := by
  unfold f_Slave_pass_L125 at H
  have H := Option.some.inj H
  subst H
  exact J_vret (st := []) d_Slave_pass_125 rfl ⟨rfl, rfl, rfl⟩
def f_Slave_pass (Γ : gm_T) (φ : ph_T) (this : Nat) (p0 : Option Nat) (p1 : Int32) (p2 : Int32) : Option (Unit × ph_T) :=
  if p1 = 0 then
    @ite _ (Γ this = .inr 8) _ (
    Option.bind p0 fun a2 =>
    @ite _ (Γ a2 = .inr 5) _ (
    Option.bind (φ.2.2 a2 3) fun a4 =>
    Option.bind (gA Γ a4 1) fun N5 =>
    Option.bind (ix (0 : Int32) N5) fun k6 =>
    Option.bind (φ.2.2 this 2) fun a7 =>
    @ite _ (Γ a7 = .inr 1) _ (
    Option.bind (f_Line_add Γ φ a7 (φ.2.1 a4 k6)) fun q9 =>
    f_Slave_pass_L125 Γ  q9.2 
    ) none
    ) none
    ) none
  else
    if p1 = 1 then
      @ite _ (Γ this = .inr 8) _ (
      Option.bind (φ.2.2 this 2) fun a11 =>
      @ite _ (Γ a11 = .inr 1) _ (
      Option.bind (f_Line_firstUnended Γ φ a11) fun q13 =>
      Option.bind (f_Line_at Γ q13.2 a11 q13.1) fun q14 =>
      Option.bind (f_Slave_takeBeat Γ q14.2 q14.1 p0 p2) fun q15 =>
      Option.bind (f_Slave_doWrite Γ q15.2 this q15.1) fun q16 =>
      f_Slave_pass_L125 Γ  q16.2 
      ) none
      ) none
    else
      if p1 = 2 then
        @ite _ (Γ this = .inr 8) _ (
        Option.bind (φ.2.2 this 2) fun a18 =>
        @ite _ (Γ a18 = .inr 1) _ (
        Option.bind (f_Line_remove Γ φ a18 (φ.1 this 8)) fun q20 =>
        f_Slave_pass_L125 Γ  q20.2 
        ) none
        ) none
      else
        if p1 = 3 then
          @ite _ (Γ this = .inr 8) _ (
          Option.bind p0 fun a22 =>
          @ite _ (Γ a22 = .inr 5) _ (
          Option.bind (φ.2.2 a22 3) fun a24 =>
          Option.bind (gA Γ a24 1) fun N25 =>
          Option.bind (ix (3 : Int32) N25) fun k26 =>
          Option.bind (φ.2.2 this 3) fun a27 =>
          @ite _ (Γ a27 = .inr 1) _ (
          Option.bind (f_Line_add Γ φ a27 (φ.2.1 a24 k26)) fun q29 =>
          Option.bind (f_Slave_doRead Γ q29.2 this q29.1 p2) fun q30 =>
          f_Slave_pass_L125 Γ  q30.2 
          ) none
          ) none
          ) none
        else
          @ite _ (Γ this = .inr 8) _ (
          Option.bind (φ.2.2 this 3) fun a32 =>
          @ite _ (Γ a32 = .inr 1) _ (
          Option.bind (f_Line_at Γ φ a32 (φ.1 this 9)) fun q34 =>
          Option.bind (f_Slave_passReadBeat Γ q34.2 this q34.1) fun q35 =>
          f_Slave_pass_L125 Γ  q35.2 
          ) none
          ) none
set_option maxRecDepth 100000 in
set_option maxHeartbeats 4000000 in
theorem p_Slave_pass {w : jw_T} (hw : jok w) {Γ : gm_T} {n : Nat} (hG : gd w Γ n) {x : Bool} {φ : ph_T} {this : Nat} {p0 : Option Nat} {p1 : Int32} {p2 : Int32} {q : Unit × ph_T} (H : f_Slave_pass Γ φ this p0 p1 p2 = some q) : jc w M_Slave_pass [.ref this, va_rf p0, .int p1, .int p2] (pic Γ φ) n x 0 0 (fq Γ n (.inl none) q.2) := by
  refine jc.of (by simp only [jent_r, jent_i, jent_l, jent_a, jent_0]; exact Nat.le_of_ble_eq_true rfl) ?_
  have hls : jents [.ref this, va_rf p0, .int p1, .int p2] (jm_nL M_Slave_pass) = [some (.ref this), some (va_rf p0), some (.int p1), some (.int p2)] := by simp only [jents, jent_r, jent_i, jent_l, jent_a, jent_0]; rfl
  rw [hls]
  clear hls
  unfold f_Slave_pass at H
  refine J_iload_n d_Slave_pass_0 rfl ?_
  by_cases c36 : p1 = 0
  · rw [if_pos c36] at H
    refine J_table (off := 31) (tgt := 32) d_Slave_pass_1 (by rw [c36]; decide) (by decide) ?_
    refine J_aload_n d_Slave_pass_32 rfl ?_
    have g1 : Γ this = .inr 8 := by
      apply Classical.byContradiction
      intro q9
      rw [if_neg q9] at H
      cases H
    rw [if_pos g1] at H
    refine F_getR (ci := 8) (k := 2) hG (cf_Slave hw) (fl_Slave_20 hw) (by decide) (by decide) rfl d_Slave_pass_33 g1 ?_
    refine J_aload_nO d_Slave_pass_36 rfl ?_
    obtain ⟨a2, ha2, H⟩ := Option.bind_eq_some_iff.mp H
    rw [j_rf ha2]
    have g3 : Γ a2 = .inr 5 := by
      apply Classical.byContradiction
      intro q9
      rw [if_neg q9] at H
      cases H
    rw [if_pos g3] at H
    refine F_getR (ci := 5) (k := 3) hG (cf_Port hw) (fl_Slave_155 hw) (by decide) (by decide) rfl d_Slave_pass_37 g3 ?_
    refine J_iconst (v := 0) d_Slave_pass_40 (by decide) ?_
    obtain ⟨a4, ha4, H⟩ := Option.bind_eq_some_iff.mp H
    rw [j_rf ha4]
    obtain ⟨N5, hN5, H⟩ := Option.bind_eq_some_iff.mp H
    obtain ⟨k6, hk6, H⟩ := Option.bind_eq_some_iff.mp H
    refine F_lald k6 hw hG d_Slave_pass_41 (gA_some hN5) (ix_some hk6) ?_
    obtain ⟨a7, ha7, H⟩ := Option.bind_eq_some_iff.mp H
    rw [j_rf ha7]
    have g8 : Γ a7 = .inr 1 := by
      apply Classical.byContradiction
      intro q9
      rw [if_neg q9] at H
      cases H
    rw [if_pos g8] at H
    obtain ⟨q9, hq9, H⟩ := Option.bind_eq_some_iff.mp H
    refine J_callV (kc := 0) (ks := 0) (kc' := 0) (ks' := 0) (a := a7) (ci := 1) (as := [.long (φ.2.1 a4 k6)]) (st := []) (mf_Line_add hw) (mv_Slave_158 hw) d_Slave_pass_42 ln_Line_add (by decide) (by first | exact Nat.le_of_ble_eq_true rfl | (simp only [List.map_cons, List.map_nil, List.sum_cons, List.sum_nil, va_rf_cat]; exact Nat.le_of_ble_eq_true rfl)) rfl ((hG _).1 _ g8 (by decide)).1 ((hG _).1 _ g8 (by decide)).2 (by unfold pic; rw [g8]; rfl) (jcl_at hw rfl) rfl (p_Line_add hw hG hq9) ?_ (fun E h' n' x' e1 => by cases e1.1)
    intro v9 h9 n9 x9 e9
    obtain ⟨e91, e92, e93⟩ := e9
    cases e91
    subst e92
    subst e93
    clear x
    rename Bool => x
    show J _ _ _ _ (_ :: _) _ _ _ _ _ _
    refine J_pop d_Slave_pass_45 (va_rf_cat _) ?_
    refine J_goto (tgt := 125) d_Slave_pass_46 (by decide) ?_
    refine J.drop [false, false, false, false] rfl ?_
    exact p_Slave_pass_L125 hw hG  H
  · rw [if_neg c36] at H
    by_cases c37 : p1 = 1
    · rw [if_pos c37] at H
      refine J_table (off := 48) (tgt := 49) d_Slave_pass_1 (by rw [c37]; decide) (by decide) ?_
      refine J_aload_n d_Slave_pass_49 rfl ?_
      refine J_aload_n d_Slave_pass_50 rfl ?_
      have g10 : Γ this = .inr 8 := by
        apply Classical.byContradiction
        intro q9
        rw [if_neg q9] at H
        cases H
      rw [if_pos g10] at H
      refine F_getR (ci := 8) (k := 2) hG (cf_Slave hw) (fl_Slave_20 hw) (by decide) (by decide) rfl d_Slave_pass_51 g10 ?_
      refine J_aload_n d_Slave_pass_54 rfl ?_
      refine F_getR (ci := 8) (k := 2) hG (cf_Slave hw) (fl_Slave_20 hw) (by decide) (by decide) rfl d_Slave_pass_55 g10 ?_
      obtain ⟨a11, ha11, H⟩ := Option.bind_eq_some_iff.mp H
      rw [j_rf ha11]
      have g12 : Γ a11 = .inr 1 := by
        apply Classical.byContradiction
        intro q9
        rw [if_neg q9] at H
        cases H
      rw [if_pos g12] at H
      obtain ⟨q13, hq13, H⟩ := Option.bind_eq_some_iff.mp H
      refine J_callV (kc := 0) (ks := 0) (kc' := 0) (ks' := 0) (a := a11) (ci := 1) (as := []) (st := [.ref a11, .ref this]) (mf_Line_firstUnended hw) (mv_Slave_77 hw) d_Slave_pass_58 ln_Line_firstUnended (by decide) (by first | exact Nat.le_of_ble_eq_true rfl | (simp only [List.map_cons, List.map_nil, List.sum_cons, List.sum_nil, va_rf_cat]; exact Nat.le_of_ble_eq_true rfl)) rfl ((hG _).1 _ g12 (by decide)).1 ((hG _).1 _ g12 (by decide)).2 (by unfold pic; rw [g12]; rfl) (jcl_at hw rfl) rfl (p_Line_firstUnended hw hG hq13) ?_ (fun E h' n' x' e1 => by cases e1.1)
      intro v9 h9 n9 x9 e9
      obtain ⟨e91, e92, e93⟩ := e9
      cases e91
      subst e92
      subst e93
      clear x
      rename Bool => x
      show J _ _ _ _ (_ :: _) _ _ _ _ _ _
      obtain ⟨q14, hq14, H⟩ := Option.bind_eq_some_iff.mp H
      refine J_callV (kc := 0) (ks := 0) (kc' := 0) (ks' := 0) (a := a11) (ci := 1) (as := [.int q13.1]) (st := [.ref this]) (mf_Line_at hw) (mv_Slave_88 hw) d_Slave_pass_61 ln_Line_at (by decide) (by first | exact Nat.le_of_ble_eq_true rfl | (simp only [List.map_cons, List.map_nil, List.sum_cons, List.sum_nil, va_rf_cat]; exact Nat.le_of_ble_eq_true rfl)) rfl ((hG _).1 _ g12 (by decide)).1 ((hG _).1 _ g12 (by decide)).2 (by unfold pic; rw [g12]; rfl) (jcl_at hw rfl) rfl (p_Line_at hw hG hq14) ?_ (fun E h' n' x' e1 => by cases e1.1)
      intro v9 h9 n9 x9 e9
      obtain ⟨e91, e92, e93⟩ := e9
      cases e91
      subst e92
      subst e93
      clear x
      rename Bool => x
      show J _ _ _ _ (_ :: _) _ _ _ _ _ _
      refine J_aload_nO d_Slave_pass_64 rfl ?_
      refine J_iload_n d_Slave_pass_65 rfl ?_
      obtain ⟨q15, hq15, H⟩ := Option.bind_eq_some_iff.mp H
      refine J_callS (kc := 0) (ks := 0) (kc' := 0) (ks' := 0) (as := [va_rf q14.1, va_rf p0, .int p2]) (st := [.ref this]) (mf_Slave_takeBeat hw) (ms_Slave_162 hw) d_Slave_pass_66 ln_Slave_takeBeat (by decide) (by first | exact Nat.le_of_ble_eq_true rfl | (simp only [List.map_cons, List.map_nil, List.sum_cons, List.sum_nil, va_rf_cat]; exact Nat.le_of_ble_eq_true rfl)) rfl (p_Slave_takeBeat hw hG hq15) ?_ (fun E h' n' x' e1 => by cases e1.1)
      intro v9 h9 n9 x9 e9
      obtain ⟨e91, e92, e93⟩ := e9
      cases e91
      subst e92
      subst e93
      clear x
      rename Bool => x
      show J _ _ _ _ (_ :: _) _ _ _ _ _ _
      obtain ⟨q16, hq16, H⟩ := Option.bind_eq_some_iff.mp H
      refine J_callV (kc := 0) (ks := 0) (kc' := 0) (ks' := 0) (a := this) (ci := 8) (as := [va_rf q15.1]) (st := []) (mf_Slave_doWrite hw) (mv_Slave_166 hw) d_Slave_pass_69 ln_Slave_doWrite (by decide) (by first | exact Nat.le_of_ble_eq_true rfl | (simp only [List.map_cons, List.map_nil, List.sum_cons, List.sum_nil, va_rf_cat]; exact Nat.le_of_ble_eq_true rfl)) rfl ((hG _).1 _ g10 (by decide)).1 ((hG _).1 _ g10 (by decide)).2 (by unfold pic; rw [g10]; rfl) (jcl_at hw rfl) rfl (p_Slave_doWrite hw hG hq16) ?_ (fun E h' n' x' e1 => by cases e1.1)
      intro v9 h9 n9 x9 e9
      obtain ⟨e91, e92, e93⟩ := e9
      cases e91
      subst e92
      subst e93
      clear x
      rename Bool => x
      show J _ _ _ _ [] _ _ _ _ _ _
      refine J_goto (tgt := 125) d_Slave_pass_72 (by decide) ?_
      refine J.drop [false, false, false, false] rfl ?_
      exact p_Slave_pass_L125 hw hG  H
    · rw [if_neg c37] at H
      by_cases c38 : p1 = 2
      · rw [if_pos c38] at H
        refine J_table (off := 74) (tgt := 75) d_Slave_pass_1 (by rw [c38]; decide) (by decide) ?_
        refine J_aload_n d_Slave_pass_75 rfl ?_
        have g17 : Γ this = .inr 8 := by
          apply Classical.byContradiction
          intro q9
          rw [if_neg q9] at H
          cases H
        rw [if_pos g17] at H
        refine F_getR (ci := 8) (k := 2) hG (cf_Slave hw) (fl_Slave_20 hw) (by decide) (by decide) rfl d_Slave_pass_76 g17 ?_
        refine J_aload_n d_Slave_pass_79 rfl ?_
        refine F_getI (ci := 8) (k := 8) hG (cf_Slave hw) (fl_Slave_33 hw) (by decide) (by decide) rfl d_Slave_pass_80 g17 ?_
        obtain ⟨a18, ha18, H⟩ := Option.bind_eq_some_iff.mp H
        rw [j_rf ha18]
        have g19 : Γ a18 = .inr 1 := by
          apply Classical.byContradiction
          intro q9
          rw [if_neg q9] at H
          cases H
        rw [if_pos g19] at H
        obtain ⟨q20, hq20, H⟩ := Option.bind_eq_some_iff.mp H
        refine J_callV (kc := 0) (ks := 0) (kc' := 0) (ks' := 0) (a := a18) (ci := 1) (as := [.int (φ.1 this 8)]) (st := []) (mf_Line_remove hw) (mv_Slave_170 hw) d_Slave_pass_83 ln_Line_remove (by decide) (by first | exact Nat.le_of_ble_eq_true rfl | (simp only [List.map_cons, List.map_nil, List.sum_cons, List.sum_nil, va_rf_cat]; exact Nat.le_of_ble_eq_true rfl)) rfl ((hG _).1 _ g19 (by decide)).1 ((hG _).1 _ g19 (by decide)).2 (by unfold pic; rw [g19]; rfl) (jcl_at hw rfl) rfl (p_Line_remove hw hG hq20) ?_ (fun E h' n' x' e1 => by cases e1.1)
        intro v9 h9 n9 x9 e9
        obtain ⟨e91, e92, e93⟩ := e9
        cases e91
        subst e92
        subst e93
        clear x
        rename Bool => x
        show J _ _ _ _ [] _ _ _ _ _ _
        refine J_goto (tgt := 125) d_Slave_pass_86 (by decide) ?_
        refine J.drop [false, false, false, false] rfl ?_
        exact p_Slave_pass_L125 hw hG  H
      · rw [if_neg c38] at H
        by_cases c39 : p1 = 3
        · rw [if_pos c39] at H
          refine J_table (off := 88) (tgt := 89) d_Slave_pass_1 (by rw [c39]; decide) (by decide) ?_
          refine J_aload_n d_Slave_pass_89 rfl ?_
          refine J_aload_n d_Slave_pass_90 rfl ?_
          have g21 : Γ this = .inr 8 := by
            apply Classical.byContradiction
            intro q9
            rw [if_neg q9] at H
            cases H
          rw [if_pos g21] at H
          refine F_getR (ci := 8) (k := 3) hG (cf_Slave hw) (fl_Slave_24 hw) (by decide) (by decide) rfl d_Slave_pass_91 g21 ?_
          refine J_aload_nO d_Slave_pass_94 rfl ?_
          obtain ⟨a22, ha22, H⟩ := Option.bind_eq_some_iff.mp H
          rw [j_rf ha22]
          have g23 : Γ a22 = .inr 5 := by
            apply Classical.byContradiction
            intro q9
            rw [if_neg q9] at H
            cases H
          rw [if_pos g23] at H
          refine F_getR (ci := 5) (k := 3) hG (cf_Port hw) (fl_Slave_155 hw) (by decide) (by decide) rfl d_Slave_pass_95 g23 ?_
          refine J_iconst (v := 3) d_Slave_pass_98 (by decide) ?_
          obtain ⟨a24, ha24, H⟩ := Option.bind_eq_some_iff.mp H
          rw [j_rf ha24]
          obtain ⟨N25, hN25, H⟩ := Option.bind_eq_some_iff.mp H
          obtain ⟨k26, hk26, H⟩ := Option.bind_eq_some_iff.mp H
          refine F_lald k26 hw hG d_Slave_pass_99 (gA_some hN25) (ix_some hk26) ?_
          obtain ⟨a27, ha27, H⟩ := Option.bind_eq_some_iff.mp H
          rw [j_rf ha27]
          have g28 : Γ a27 = .inr 1 := by
            apply Classical.byContradiction
            intro q9
            rw [if_neg q9] at H
            cases H
          rw [if_pos g28] at H
          obtain ⟨q29, hq29, H⟩ := Option.bind_eq_some_iff.mp H
          refine J_callV (kc := 0) (ks := 0) (kc' := 0) (ks' := 0) (a := a27) (ci := 1) (as := [.long (φ.2.1 a24 k26)]) (st := [.ref this]) (mf_Line_add hw) (mv_Slave_158 hw) d_Slave_pass_100 ln_Line_add (by decide) (by first | exact Nat.le_of_ble_eq_true rfl | (simp only [List.map_cons, List.map_nil, List.sum_cons, List.sum_nil, va_rf_cat]; exact Nat.le_of_ble_eq_true rfl)) rfl ((hG _).1 _ g28 (by decide)).1 ((hG _).1 _ g28 (by decide)).2 (by unfold pic; rw [g28]; rfl) (jcl_at hw rfl) rfl (p_Line_add hw hG hq29) ?_ (fun E h' n' x' e1 => by cases e1.1)
          intro v9 h9 n9 x9 e9
          obtain ⟨e91, e92, e93⟩ := e9
          cases e91
          subst e92
          subst e93
          clear x
          rename Bool => x
          show J _ _ _ _ (_ :: _) _ _ _ _ _ _
          refine J_iload_n d_Slave_pass_103 rfl ?_
          obtain ⟨q30, hq30, H⟩ := Option.bind_eq_some_iff.mp H
          refine J_callV (kc := 0) (ks := 0) (kc' := 0) (ks' := 0) (a := this) (ci := 8) (as := [va_rf q29.1, .int p2]) (st := []) (mf_Slave_doRead hw) (mv_Slave_173 hw) d_Slave_pass_104 ln_Slave_doRead (by decide) (by first | exact Nat.le_of_ble_eq_true rfl | (simp only [List.map_cons, List.map_nil, List.sum_cons, List.sum_nil, va_rf_cat]; exact Nat.le_of_ble_eq_true rfl)) rfl ((hG _).1 _ g21 (by decide)).1 ((hG _).1 _ g21 (by decide)).2 (by unfold pic; rw [g21]; rfl) (jcl_at hw rfl) rfl (p_Slave_doRead hw hG hq30) ?_ (fun E h' n' x' e1 => by cases e1.1)
          intro v9 h9 n9 x9 e9
          obtain ⟨e91, e92, e93⟩ := e9
          cases e91
          subst e92
          subst e93
          clear x
          rename Bool => x
          show J _ _ _ _ [] _ _ _ _ _ _
          refine J_goto (tgt := 125) d_Slave_pass_107 (by decide) ?_
          refine J.drop [false, false, false, false] rfl ?_
          exact p_Slave_pass_L125 hw hG  H
        · rw [if_neg c39] at H
          refine J_table (off := 109) (tgt := 110) d_Slave_pass_1 (by
              rw [if_pos (by
                apply Classical.byContradiction
                intro h9
                have h8 : (p1).toInt = 0 ∨ (p1).toInt = 1 ∨ (p1).toInt = 2 ∨ (p1).toInt = 3 := by omega
                rcases h8 with h8 | h8 | h8 | h8
                · exact c36 (j_inj (by rw [h8]; decide))
                · exact c37 (j_inj (by rw [h8]; decide))
                · exact c38 (j_inj (by rw [h8]; decide))
                · exact c39 (j_inj (by rw [h8]; decide)))]) (by decide) ?_
          refine J_aload_n d_Slave_pass_110 rfl ?_
          refine J_aload_n d_Slave_pass_111 rfl ?_
          have g31 : Γ this = .inr 8 := by
            apply Classical.byContradiction
            intro q9
            rw [if_neg q9] at H
            cases H
          rw [if_pos g31] at H
          refine F_getR (ci := 8) (k := 3) hG (cf_Slave hw) (fl_Slave_24 hw) (by decide) (by decide) rfl d_Slave_pass_112 g31 ?_
          refine J_aload_n d_Slave_pass_115 rfl ?_
          refine F_getI (ci := 8) (k := 9) hG (cf_Slave hw) (fl_Slave_37 hw) (by decide) (by decide) rfl d_Slave_pass_116 g31 ?_
          obtain ⟨a32, ha32, H⟩ := Option.bind_eq_some_iff.mp H
          rw [j_rf ha32]
          have g33 : Γ a32 = .inr 1 := by
            apply Classical.byContradiction
            intro q9
            rw [if_neg q9] at H
            cases H
          rw [if_pos g33] at H
          obtain ⟨q34, hq34, H⟩ := Option.bind_eq_some_iff.mp H
          refine J_callV (kc := 0) (ks := 0) (kc' := 0) (ks' := 0) (a := a32) (ci := 1) (as := [.int (φ.1 this 9)]) (st := [.ref this]) (mf_Line_at hw) (mv_Slave_88 hw) d_Slave_pass_119 ln_Line_at (by decide) (by first | exact Nat.le_of_ble_eq_true rfl | (simp only [List.map_cons, List.map_nil, List.sum_cons, List.sum_nil, va_rf_cat]; exact Nat.le_of_ble_eq_true rfl)) rfl ((hG _).1 _ g33 (by decide)).1 ((hG _).1 _ g33 (by decide)).2 (by unfold pic; rw [g33]; rfl) (jcl_at hw rfl) rfl (p_Line_at hw hG hq34) ?_ (fun E h' n' x' e1 => by cases e1.1)
          intro v9 h9 n9 x9 e9
          obtain ⟨e91, e92, e93⟩ := e9
          cases e91
          subst e92
          subst e93
          clear x
          rename Bool => x
          show J _ _ _ _ (_ :: _) _ _ _ _ _ _
          obtain ⟨q35, hq35, H⟩ := Option.bind_eq_some_iff.mp H
          refine J_callV (kc := 0) (ks := 0) (kc' := 0) (ks' := 0) (a := this) (ci := 8) (as := [va_rf q34.1]) (st := []) (mf_Slave_passReadBeat hw) (mv_Slave_177 hw) d_Slave_pass_122 ln_Slave_passReadBeat (by decide) (by first | exact Nat.le_of_ble_eq_true rfl | (simp only [List.map_cons, List.map_nil, List.sum_cons, List.sum_nil, va_rf_cat]; exact Nat.le_of_ble_eq_true rfl)) rfl ((hG _).1 _ g31 (by decide)).1 ((hG _).1 _ g31 (by decide)).2 (by unfold pic; rw [g31]; rfl) (jcl_at hw rfl) rfl (p_Slave_passReadBeat hw hG hq35) ?_ (fun E h' n' x' e1 => by cases e1.1)
          intro v9 h9 n9 x9 e9
          obtain ⟨e91, e92, e93⟩ := e9
          cases e91
          subst e92
          subst e93
          clear x
          rename Bool => x
          show J _ _ _ _ [] _ _ _ _ _ _
          refine J.drop [false, false, false, false] rfl ?_
          exact p_Slave_pass_L125 hw hG  H
theorem ln_Bus_goOver : (parseMethodDescriptor y_Bus_goOver.desc).map (fun q => q.parameters.length) = some 0 := by decide +kernel
def f_Bus_goOver_L180 (Γ : gm_T) (Kc99 : ph_T → Nat → Int32 → Int32 → Option (Int32 × ph_T)) (Kc110 : ph_T → Nat → Int32 → Int32 → Int32 → Option (Int32 × ph_T)) (φ : ph_T) (x0 : Nat) (x1 : Int32) (x2 : Int32) (x3 : Int32) : Option (Int32 × ph_T) :=
  Kc110 φ x0 x1 x2 (x3 + (1 : Int32))
set_option maxRecDepth 100000 in
set_option maxHeartbeats 4000000 in
theorem p_Bus_goOver_L180 {w : jw_T} (hw : jok w) {Γ : gm_T} {n : Nat} (hG : gd w Γ n) {Kc99 : ph_T → Nat → Int32 → Int32 → Option (Int32 × ph_T)} {Kc110 : ph_T → Nat → Int32 → Int32 → Int32 → Option (Int32 × ph_T)} (hKc99 : ∀ {x : Bool} {φ : ph_T} {x0 : Nat} {x1 : Int32} {x2 : Int32} {q : Int32 × ph_T}, Kc99 φ x0 x1 x2 = some q → J w M_Bus_goOver 99 [some (.ref x0), some (.int x1), some (.int x2), none] [] (pic Γ φ) n x 0 0 (fq Γ n (.inl (some (.int q.1))) q.2)) (hKc110 : ∀ {x : Bool} {φ : ph_T} {x0 : Nat} {x1 : Int32} {x2 : Int32} {x3 : Int32} {q : Int32 × ph_T}, Kc110 φ x0 x1 x2 x3 = some q → J w M_Bus_goOver 110 [some (.ref x0), some (.int x1), some (.int x2), some (.int x3)] [] (pic Γ φ) n x 0 0 (fq Γ n (.inl (some (.int q.1))) q.2)) {x : Bool} {φ : ph_T} {x0 : Nat} {x1 : Int32} {x2 : Int32} {x3 : Int32} {q : Int32 × ph_T} (H : f_Bus_goOver_L180 Γ Kc99 Kc110 φ x0 x1 x2 x3 = some q) : J w M_Bus_goOver 180 [some (.ref x0), some (.int x1), some (.int x2), some (.int x3)] [] (pic Γ φ) n x 0 0 (fq Γ n (.inl (some (.int q.1))) q.2) := by
  unfold f_Bus_goOver_L180 at H
  refine J_iinc (v := x3 + 1) d_Bus_goOver_180 rfl (by rw [show Int32.ofInt 1 = (1 : Int32) from by decide]) ?_
  refine J.ls (ls' := [some (.ref x0), some (.int x1), some (.int x2), some (.int (x3 + (1 : Int32)))]) rfl ?_
  refine J_goto (tgt := 110) d_Bus_goOver_183 (by decide) ?_
  refine J.drop [true, true, true, true] rfl ?_
  exact hKc110 H
def f_Bus_goOver_L110 (Γ : gm_T) (Kc99 : ph_T → Nat → Int32 → Int32 → Option (Int32 × ph_T)) : Nat → ph_T → Nat → Int32 → Int32 → Int32 → Option (Int32 × ph_T)
  | 0, _, _, _, _, _ => none
  | fu + 1, φ, x0, x1, x2, x3 =>
    if (5 : Int32) ≤ x3 then
      Kc99 φ x0 x1 (x2 + (1 : Int32))
    else
      @ite _ (Γ x0 = .inr 11) _ (
      Option.bind (φ.2.2 x0 5) fun a2 =>
      Option.bind (gA Γ a2 7) fun N3 =>
      Option.bind (ix x2 N3) fun k4 =>
      Option.bind (φ.2.2 a2 k4) fun a5 =>
      @ite _ (Γ a5 = .inr 5) _ (
      Option.bind (f_Port_moves Γ φ a5 x3) fun q7 =>
      if q7.1 = 0 then
        f_Bus_goOver_L180 Γ Kc99 (f_Bus_goOver_L110 Γ Kc99 fu) q7.2 x0 x1 x2 x3
      else
        Option.bind (q7.2.2.2 x0 5) fun a8 =>
        Option.bind (gA Γ a8 7) fun N9 =>
        Option.bind (ix x2 N9) fun k10 =>
        Option.bind (q7.2.2.2 x0 1) fun a11 =>
        @ite _ (Γ a11 = .inr 10) _ (
        Option.bind (f_Switch_passSlave Γ q7.2 a11 (q7.2.2.2 a8 k10) x2 x3 (q7.2.1 x0 9)) fun q13 =>
        Option.bind (q13.2.2.2 x0 3) fun a14 =>
        Option.bind (gA Γ a14 9) fun N15 =>
        Option.bind (ix x2 N15) fun k16 =>
        Option.bind (q13.2.2.2 x0 5) fun a17 =>
        Option.bind (gA Γ a17 7) fun N18 =>
        Option.bind (ix x2 N18) fun k19 =>
        Option.bind (q13.2.2.2 a14 k16) fun a20 =>
        @ite _ (Γ a20 = .inr 8) _ (
        Option.bind (f_Slave_pass Γ q13.2 a20 (q13.2.2.2 a17 k19) x3 (q13.2.1 x0 9)) fun q22 =>
        Option.bind (q22.2.2.2 x0 5) fun a23 =>
        Option.bind (gA Γ a23 7) fun N24 =>
        Option.bind (ix x2 N24) fun k25 =>
        Option.bind (q22.2.2.2 a23 k25) fun a26 =>
        @ite _ (Γ a26 = .inr 5) _ (
        Option.bind (f_Port_count Γ q22.2 a26 x3) fun q28 =>
        f_Bus_goOver_L180 Γ Kc99 (f_Bus_goOver_L110 Γ Kc99 fu) q28.2 x0 (x1 + q28.1) x2 x3
        ) none
        ) none
        ) none
      ) none
      ) none
set_option maxRecDepth 100000 in
set_option maxHeartbeats 4000000 in
theorem p_Bus_goOver_L110 {w : jw_T} (hw : jok w) {Γ : gm_T} {n : Nat} (hG : gd w Γ n) {Kc99 : ph_T → Nat → Int32 → Int32 → Option (Int32 × ph_T)} (hKc99 : ∀ {x : Bool} {φ : ph_T} {x0 : Nat} {x1 : Int32} {x2 : Int32} {q : Int32 × ph_T}, Kc99 φ x0 x1 x2 = some q → J w M_Bus_goOver 99 [some (.ref x0), some (.int x1), some (.int x2), none] [] (pic Γ φ) n x 0 0 (fq Γ n (.inl (some (.int q.1))) q.2)) : ∀ (fu : Nat) {x : Bool} {φ : ph_T} {x0 : Nat} {x1 : Int32} {x2 : Int32} {x3 : Int32} {q : Int32 × ph_T}, f_Bus_goOver_L110 Γ Kc99 fu φ x0 x1 x2 x3 = some q → J w M_Bus_goOver 110 [some (.ref x0), some (.int x1), some (.int x2), some (.int x3)] [] (pic Γ φ) n x 0 0 (fq Γ n (.inl (some (.int q.1))) q.2) := by
  intro fu
  induction fu with
  | zero =>
    intro x φ x0 x1 x2 x3 q H
    cases H
  | succ fu ih =>
    intro x φ x0 x1 x2 x3 q H
    unfold f_Bus_goOver_L110 at H
    refine J_iload_n d_Bus_goOver_110 rfl ?_
    refine J_iconst (v := 5) d_Bus_goOver_111 (by decide) ?_
    refine J_icmp_ge (tgt := 186) d_Bus_goOver_112 (by decide) ?_ ?_
    · intro c30
      rw [if_pos c30] at H
      refine J_iinc (v := x2 + 1) d_Bus_goOver_186 rfl (by rw [show Int32.ofInt 1 = (1 : Int32) from by decide]) ?_
      refine J.ls (ls' := [some (.ref x0), some (.int x1), some (.int (x2 + (1 : Int32))), some (.int x3)]) rfl ?_
      refine J_goto (tgt := 99) d_Bus_goOver_189 (by decide) ?_
      refine J.drop [true, true, true, false] rfl ?_
      exact hKc99 H
    · intro c30
      rw [if_neg c30] at H
      refine J_aload_n d_Bus_goOver_115 rfl ?_
      have g1 : Γ x0 = .inr 11 := by
        apply Classical.byContradiction
        intro q9
        rw [if_neg q9] at H
        cases H
      rw [if_pos g1] at H
      refine F_getR (ci := 11) (k := 5) hG (cf_Bus hw) (fl_Bus_49 hw) (by decide) (by decide) rfl d_Bus_goOver_116 g1 ?_
      refine J_iload_n d_Bus_goOver_119 rfl ?_
      obtain ⟨a2, ha2, H⟩ := Option.bind_eq_some_iff.mp H
      rw [j_rf ha2]
      obtain ⟨N3, hN3, H⟩ := Option.bind_eq_some_iff.mp H
      obtain ⟨k4, hk4, H⟩ := Option.bind_eq_some_iff.mp H
      refine F_aald k4 hw hG (t := 7) rfl (by decide) d_Bus_goOver_120 (gA_some hN3) (ix_some hk4) ?_
      refine J_iload_n d_Bus_goOver_121 rfl ?_
      obtain ⟨a5, ha5, H⟩ := Option.bind_eq_some_iff.mp H
      rw [j_rf ha5]
      have g6 : Γ a5 = .inr 5 := by
        apply Classical.byContradiction
        intro q9
        rw [if_neg q9] at H
        cases H
      rw [if_pos g6] at H
      obtain ⟨q7, hq7, H⟩ := Option.bind_eq_some_iff.mp H
      refine J_callV (kc := 0) (ks := 0) (kc' := 0) (ks' := 0) (a := a5) (ci := 5) (as := [.int x3]) (st := []) (mf_Port_moves hw) (mv_Bus_315 hw) d_Bus_goOver_122 ln_Port_moves (by decide) (by first | exact Nat.le_of_ble_eq_true rfl | (simp only [List.map_cons, List.map_nil, List.sum_cons, List.sum_nil, va_rf_cat]; exact Nat.le_of_ble_eq_true rfl)) rfl ((hG _).1 _ g6 (by decide)).1 ((hG _).1 _ g6 (by decide)).2 (by unfold pic; rw [g6]; rfl) (jcl_at hw rfl) rfl (p_Port_moves hw hG hq7) ?_ (fun E h' n' x' e1 => by cases e1.1)
      intro v9 h9 n9 x9 e9
      obtain ⟨e91, e92, e93⟩ := e9
      cases e91
      subst e92
      subst e93
      clear x
      rename Bool => x
      show J _ _ _ _ (_ :: _) _ _ _ _ _ _
      refine J_if_eq (tgt := 180) d_Bus_goOver_125 (by decide) ?_ ?_
      · intro c29
        rw [if_pos c29] at H
        refine J.drop [true, true, true, true] rfl ?_
        exact p_Bus_goOver_L180 hw hG hKc99 ih H
      · intro c29
        rw [if_neg c29] at H
        refine J_aload_n d_Bus_goOver_128 rfl ?_
        refine F_getR (ci := 11) (k := 1) hG (cf_Bus hw) (fl_Bus_25 hw) (by decide) (by decide) rfl d_Bus_goOver_129 g1 ?_
        refine J_aload_n d_Bus_goOver_132 rfl ?_
        refine F_getR (ci := 11) (k := 5) hG (cf_Bus hw) (fl_Bus_49 hw) (by decide) (by decide) rfl d_Bus_goOver_133 g1 ?_
        refine J_iload_n d_Bus_goOver_136 rfl ?_
        obtain ⟨a8, ha8, H⟩ := Option.bind_eq_some_iff.mp H
        rw [j_rf ha8]
        obtain ⟨N9, hN9, H⟩ := Option.bind_eq_some_iff.mp H
        obtain ⟨k10, hk10, H⟩ := Option.bind_eq_some_iff.mp H
        refine F_aald k10 hw hG (t := 7) rfl (by decide) d_Bus_goOver_137 (gA_some hN9) (ix_some hk10) ?_
        refine J_iload_n d_Bus_goOver_138 rfl ?_
        refine J_iload_n d_Bus_goOver_139 rfl ?_
        refine J_aload_n d_Bus_goOver_140 rfl ?_
        refine F_getI (ci := 11) (k := 9) hG (cf_Bus hw) (fl_Bus_159 hw) (by decide) (by decide) rfl d_Bus_goOver_141 g1 ?_
        obtain ⟨a11, ha11, H⟩ := Option.bind_eq_some_iff.mp H
        rw [j_rf ha11]
        have g12 : Γ a11 = .inr 10 := by
          apply Classical.byContradiction
          intro q9
          rw [if_neg q9] at H
          cases H
        rw [if_pos g12] at H
        obtain ⟨q13, hq13, H⟩ := Option.bind_eq_some_iff.mp H
        refine J_callV (kc := 0) (ks := 0) (kc' := 0) (ks' := 0) (a := a11) (ci := 10) (as := [va_rf (q7.2.2.2 a8 k10), .int x2, .int x3, .int (q7.2.1 x0 9)]) (st := []) (mf_Switch_passSlave hw) (mv_Bus_330 hw) d_Bus_goOver_144 ln_Switch_passSlave (by decide) (by first | exact Nat.le_of_ble_eq_true rfl | (simp only [List.map_cons, List.map_nil, List.sum_cons, List.sum_nil, va_rf_cat]; exact Nat.le_of_ble_eq_true rfl)) rfl ((hG _).1 _ g12 (by decide)).1 ((hG _).1 _ g12 (by decide)).2 (by unfold pic; rw [g12]; rfl) (jcl_at hw rfl) rfl (p_Switch_passSlave hw hG hq13) ?_ (fun E h' n' x' e1 => by cases e1.1)
        intro v9 h9 n9 x9 e9
        obtain ⟨e91, e92, e93⟩ := e9
        cases e91
        subst e92
        subst e93
        clear x
        rename Bool => x
        show J _ _ _ _ [] _ _ _ _ _ _
        refine J_aload_n d_Bus_goOver_147 rfl ?_
        refine F_getR (ci := 11) (k := 3) hG (cf_Bus hw) (fl_Bus_45 hw) (by decide) (by decide) rfl d_Bus_goOver_148 g1 ?_
        refine J_iload_n d_Bus_goOver_151 rfl ?_
        obtain ⟨a14, ha14, H⟩ := Option.bind_eq_some_iff.mp H
        rw [j_rf ha14]
        obtain ⟨N15, hN15, H⟩ := Option.bind_eq_some_iff.mp H
        obtain ⟨k16, hk16, H⟩ := Option.bind_eq_some_iff.mp H
        refine F_aald k16 hw hG (t := 9) rfl (by decide) d_Bus_goOver_152 (gA_some hN15) (ix_some hk16) ?_
        refine J_aload_n d_Bus_goOver_153 rfl ?_
        refine F_getR (ci := 11) (k := 5) hG (cf_Bus hw) (fl_Bus_49 hw) (by decide) (by decide) rfl d_Bus_goOver_154 g1 ?_
        refine J_iload_n d_Bus_goOver_157 rfl ?_
        obtain ⟨a17, ha17, H⟩ := Option.bind_eq_some_iff.mp H
        rw [j_rf ha17]
        obtain ⟨N18, hN18, H⟩ := Option.bind_eq_some_iff.mp H
        obtain ⟨k19, hk19, H⟩ := Option.bind_eq_some_iff.mp H
        refine F_aald k19 hw hG (t := 7) rfl (by decide) d_Bus_goOver_158 (gA_some hN18) (ix_some hk19) ?_
        refine J_iload_n d_Bus_goOver_159 rfl ?_
        refine J_aload_n d_Bus_goOver_160 rfl ?_
        refine F_getI (ci := 11) (k := 9) hG (cf_Bus hw) (fl_Bus_159 hw) (by decide) (by decide) rfl d_Bus_goOver_161 g1 ?_
        obtain ⟨a20, ha20, H⟩ := Option.bind_eq_some_iff.mp H
        rw [j_rf ha20]
        have g21 : Γ a20 = .inr 8 := by
          apply Classical.byContradiction
          intro q9
          rw [if_neg q9] at H
          cases H
        rw [if_pos g21] at H
        obtain ⟨q22, hq22, H⟩ := Option.bind_eq_some_iff.mp H
        refine J_callV (kc := 0) (ks := 0) (kc' := 0) (ks' := 0) (a := a20) (ci := 8) (as := [va_rf (q13.2.2.2 a17 k19), .int x3, .int (q13.2.1 x0 9)]) (st := []) (mf_Slave_pass hw) (mv_Bus_333 hw) d_Bus_goOver_164 ln_Slave_pass (by decide) (by first | exact Nat.le_of_ble_eq_true rfl | (simp only [List.map_cons, List.map_nil, List.sum_cons, List.sum_nil, va_rf_cat]; exact Nat.le_of_ble_eq_true rfl)) rfl ((hG _).1 _ g21 (by decide)).1 ((hG _).1 _ g21 (by decide)).2 (by unfold pic; rw [g21]; rfl) (jcl_at hw rfl) rfl (p_Slave_pass hw hG hq22) ?_ (fun E h' n' x' e1 => by cases e1.1)
        intro v9 h9 n9 x9 e9
        obtain ⟨e91, e92, e93⟩ := e9
        cases e91
        subst e92
        subst e93
        clear x
        rename Bool => x
        show J _ _ _ _ [] _ _ _ _ _ _
        refine J_iload_n d_Bus_goOver_167 rfl ?_
        refine J_aload_n d_Bus_goOver_168 rfl ?_
        refine F_getR (ci := 11) (k := 5) hG (cf_Bus hw) (fl_Bus_49 hw) (by decide) (by decide) rfl d_Bus_goOver_169 g1 ?_
        refine J_iload_n d_Bus_goOver_172 rfl ?_
        obtain ⟨a23, ha23, H⟩ := Option.bind_eq_some_iff.mp H
        rw [j_rf ha23]
        obtain ⟨N24, hN24, H⟩ := Option.bind_eq_some_iff.mp H
        obtain ⟨k25, hk25, H⟩ := Option.bind_eq_some_iff.mp H
        refine F_aald k25 hw hG (t := 7) rfl (by decide) d_Bus_goOver_173 (gA_some hN24) (ix_some hk25) ?_
        refine J_iload_n d_Bus_goOver_174 rfl ?_
        obtain ⟨a26, ha26, H⟩ := Option.bind_eq_some_iff.mp H
        rw [j_rf ha26]
        have g27 : Γ a26 = .inr 5 := by
          apply Classical.byContradiction
          intro q9
          rw [if_neg q9] at H
          cases H
        rw [if_pos g27] at H
        obtain ⟨q28, hq28, H⟩ := Option.bind_eq_some_iff.mp H
        refine J_callV (kc := 0) (ks := 0) (kc' := 0) (ks' := 0) (a := a26) (ci := 5) (as := [.int x3]) (st := [.int x1]) (mf_Port_count hw) (mv_Bus_327 hw) d_Bus_goOver_175 ln_Port_count (by decide) (by first | exact Nat.le_of_ble_eq_true rfl | (simp only [List.map_cons, List.map_nil, List.sum_cons, List.sum_nil, va_rf_cat]; exact Nat.le_of_ble_eq_true rfl)) rfl ((hG _).1 _ g27 (by decide)).1 ((hG _).1 _ g27 (by decide)).2 (by unfold pic; rw [g27]; rfl) (jcl_at hw rfl) rfl (p_Port_count hw hG hq28) ?_ (fun E h' n' x' e1 => by cases e1.1)
        intro v9 h9 n9 x9 e9
        obtain ⟨e91, e92, e93⟩ := e9
        cases e91
        subst e92
        subst e93
        clear x
        rename Bool => x
        show J _ _ _ _ (_ :: _) _ _ _ _ _ _
        refine J_iadd d_Bus_goOver_178 ?_
        refine J_istore_n d_Bus_goOver_179 (Nat.le_of_ble_eq_true rfl) ?_
        refine J.ls (ls' := [some (.ref x0), some (.int (x1 + q28.1)), some (.int x2), some (.int x3)]) rfl ?_
        refine J.drop [true, true, true, true] rfl ?_
        exact p_Bus_goOver_L180 hw hG hKc99 ih H
def f_Bus_goOver_L99 (Γ : gm_T)  : Nat → ph_T → Nat → Int32 → Int32 → Option (Int32 × ph_T)
  | 0, _, _, _, _ => none
  | fu + 1, φ, x0, x1, x2 =>
    @ite _ (Γ x0 = .inr 11) _ (
    Option.bind (φ.2.2 x0 3) fun a32 =>
    Option.bind (gA Γ a32 9) fun N33 =>
    if (nI N33) ≤ x2 then
      some (x1, φ)
    else
      f_Bus_goOver_L110 Γ (f_Bus_goOver_L99 Γ  fu) jF φ x0 x1 x2 (0 : Int32)
    ) none
set_option maxRecDepth 100000 in
set_option maxHeartbeats 4000000 in
theorem p_Bus_goOver_L99 {w : jw_T} (hw : jok w) {Γ : gm_T} {n : Nat} (hG : gd w Γ n)  : ∀ (fu : Nat) {x : Bool} {φ : ph_T} {x0 : Nat} {x1 : Int32} {x2 : Int32} {q : Int32 × ph_T}, f_Bus_goOver_L99 Γ  fu φ x0 x1 x2 = some q → J w M_Bus_goOver 99 [some (.ref x0), some (.int x1), some (.int x2), none] [] (pic Γ φ) n x 0 0 (fq Γ n (.inl (some (.int q.1))) q.2) := by
  intro fu
  induction fu with
  | zero =>
    intro x φ x0 x1 x2 q H
    cases H
  | succ fu ih =>
    intro x φ x0 x1 x2 q H
    unfold f_Bus_goOver_L99 at H
    refine J_iload_n d_Bus_goOver_99 rfl ?_
    refine J_aload_n d_Bus_goOver_100 rfl ?_
    have g31 : Γ x0 = .inr 11 := by
      apply Classical.byContradiction
      intro q9
      rw [if_neg q9] at H
      cases H
    rw [if_pos g31] at H
    refine F_getR (ci := 11) (k := 3) hG (cf_Bus hw) (fl_Bus_45 hw) (by decide) (by decide) rfl d_Bus_goOver_101 g31 ?_
    obtain ⟨a32, ha32, H⟩ := Option.bind_eq_some_iff.mp H
    rw [j_rf ha32]
    obtain ⟨N33, hN33, H⟩ := Option.bind_eq_some_iff.mp H
    refine F_alen hw hG (t := 9) rfl d_Bus_goOver_104 (gA_some hN33) ?_
    refine J_icmp_ge (tgt := 192) d_Bus_goOver_105 (by decide) ?_ ?_
    · intro c34
      rw [if_pos c34] at H
      refine J_iload_n d_Bus_goOver_192 rfl ?_
      have H := Option.some.inj H
      subst H
      exact J_iret (st := []) d_Bus_goOver_193 rfl rfl ⟨rfl, rfl, rfl⟩
    · intro c34
      rw [if_neg c34] at H
      refine J_iconst (v := 0) d_Bus_goOver_108 (by decide) ?_
      refine J_istore_n d_Bus_goOver_109 (Nat.le_of_ble_eq_true rfl) ?_
      refine J.ls (ls' := [some (.ref x0), some (.int x1), some (.int x2), some (.int (0 : Int32))]) rfl ?_
      refine J.drop [true, true, true, true] rfl ?_
      exact p_Bus_goOver_L110 hw hG ih _ H
def f_Bus_goOver_L85 (Γ : gm_T) (Kc4 : ph_T → Nat → Int32 → Int32 → Option (Int32 × ph_T)) (Kc15 : ph_T → Nat → Int32 → Int32 → Int32 → Option (Int32 × ph_T)) (φ : ph_T) (x0 : Nat) (x1 : Int32) (x2 : Int32) (x3 : Int32) : Option (Int32 × ph_T) :=
  Kc15 φ x0 x1 x2 (x3 + (1 : Int32))
set_option maxRecDepth 100000 in
set_option maxHeartbeats 4000000 in
theorem p_Bus_goOver_L85 {w : jw_T} (hw : jok w) {Γ : gm_T} {n : Nat} (hG : gd w Γ n) {Kc4 : ph_T → Nat → Int32 → Int32 → Option (Int32 × ph_T)} {Kc15 : ph_T → Nat → Int32 → Int32 → Int32 → Option (Int32 × ph_T)} (hKc4 : ∀ {x : Bool} {φ : ph_T} {x0 : Nat} {x1 : Int32} {x2 : Int32} {q : Int32 × ph_T}, Kc4 φ x0 x1 x2 = some q → J w M_Bus_goOver 4 [some (.ref x0), some (.int x1), some (.int x2), none] [] (pic Γ φ) n x 0 0 (fq Γ n (.inl (some (.int q.1))) q.2)) (hKc15 : ∀ {x : Bool} {φ : ph_T} {x0 : Nat} {x1 : Int32} {x2 : Int32} {x3 : Int32} {q : Int32 × ph_T}, Kc15 φ x0 x1 x2 x3 = some q → J w M_Bus_goOver 15 [some (.ref x0), some (.int x1), some (.int x2), some (.int x3)] [] (pic Γ φ) n x 0 0 (fq Γ n (.inl (some (.int q.1))) q.2)) {x : Bool} {φ : ph_T} {x0 : Nat} {x1 : Int32} {x2 : Int32} {x3 : Int32} {q : Int32 × ph_T} (H : f_Bus_goOver_L85 Γ Kc4 Kc15 φ x0 x1 x2 x3 = some q) : J w M_Bus_goOver 85 [some (.ref x0), some (.int x1), some (.int x2), some (.int x3)] [] (pic Γ φ) n x 0 0 (fq Γ n (.inl (some (.int q.1))) q.2) := by
  unfold f_Bus_goOver_L85 at H
  refine J_iinc (v := x3 + 1) d_Bus_goOver_85 rfl (by rw [show Int32.ofInt 1 = (1 : Int32) from by decide]) ?_
  refine J.ls (ls' := [some (.ref x0), some (.int x1), some (.int x2), some (.int (x3 + (1 : Int32)))]) rfl ?_
  refine J_goto (tgt := 15) d_Bus_goOver_88 (by decide) ?_
  refine J.drop [true, true, true, true] rfl ?_
  exact hKc15 H
def f_Bus_goOver_L15 (Γ : gm_T) (Kc4 : ph_T → Nat → Int32 → Int32 → Option (Int32 × ph_T)) : Nat → ph_T → Nat → Int32 → Int32 → Int32 → Option (Int32 × ph_T)
  | 0, _, _, _, _, _ => none
  | fu + 1, φ, x0, x1, x2, x3 =>
    if (5 : Int32) ≤ x3 then
      Kc4 φ x0 x1 (x2 + (1 : Int32))
    else
      @ite _ (Γ x0 = .inr 11) _ (
      Option.bind (φ.2.2 x0 4) fun a36 =>
      Option.bind (gA Γ a36 7) fun N37 =>
      Option.bind (ix x2 N37) fun k38 =>
      Option.bind (φ.2.2 a36 k38) fun a39 =>
      @ite _ (Γ a39 = .inr 5) _ (
      Option.bind (f_Port_moves Γ φ a39 x3) fun q41 =>
      if q41.1 = 0 then
        f_Bus_goOver_L85 Γ Kc4 (f_Bus_goOver_L15 Γ Kc4 fu) q41.2 x0 x1 x2 x3
      else
        Option.bind (q41.2.2.2 x0 4) fun a42 =>
        Option.bind (gA Γ a42 7) fun N43 =>
        Option.bind (ix x2 N43) fun k44 =>
        Option.bind (q41.2.2.2 x0 1) fun a45 =>
        @ite _ (Γ a45 = .inr 10) _ (
        Option.bind (f_Switch_passMaster Γ q41.2 a45 (q41.2.2.2 a42 k44) x2 x3 (q41.2.1 x0 9)) fun q47 =>
        Option.bind (q47.2.2.2 x0 2) fun a48 =>
        Option.bind (gA Γ a48 8) fun N49 =>
        Option.bind (ix x2 N49) fun k50 =>
        Option.bind (q47.2.2.2 x0 4) fun a51 =>
        Option.bind (gA Γ a51 7) fun N52 =>
        Option.bind (ix x2 N52) fun k53 =>
        Option.bind (q47.2.2.2 a48 k50) fun a54 =>
        @ite _ (Γ a54 = .inr 7) _ (
        Option.bind (f_Master_pass Γ q47.2 a54 (q47.2.2.2 a51 k53) x3 (q47.2.1 x0 9)) fun q56 =>
        Option.bind (q56.2.2.2 x0 4) fun a57 =>
        Option.bind (gA Γ a57 7) fun N58 =>
        Option.bind (ix x2 N58) fun k59 =>
        Option.bind (q56.2.2.2 a57 k59) fun a60 =>
        @ite _ (Γ a60 = .inr 5) _ (
        Option.bind (f_Port_count Γ q56.2 a60 x3) fun q62 =>
        f_Bus_goOver_L85 Γ Kc4 (f_Bus_goOver_L15 Γ Kc4 fu) q62.2 x0 (x1 + q62.1) x2 x3
        ) none
        ) none
        ) none
      ) none
      ) none
set_option maxRecDepth 100000 in
set_option maxHeartbeats 4000000 in
theorem p_Bus_goOver_L15 {w : jw_T} (hw : jok w) {Γ : gm_T} {n : Nat} (hG : gd w Γ n) {Kc4 : ph_T → Nat → Int32 → Int32 → Option (Int32 × ph_T)} (hKc4 : ∀ {x : Bool} {φ : ph_T} {x0 : Nat} {x1 : Int32} {x2 : Int32} {q : Int32 × ph_T}, Kc4 φ x0 x1 x2 = some q → J w M_Bus_goOver 4 [some (.ref x0), some (.int x1), some (.int x2), none] [] (pic Γ φ) n x 0 0 (fq Γ n (.inl (some (.int q.1))) q.2)) : ∀ (fu : Nat) {x : Bool} {φ : ph_T} {x0 : Nat} {x1 : Int32} {x2 : Int32} {x3 : Int32} {q : Int32 × ph_T}, f_Bus_goOver_L15 Γ Kc4 fu φ x0 x1 x2 x3 = some q → J w M_Bus_goOver 15 [some (.ref x0), some (.int x1), some (.int x2), some (.int x3)] [] (pic Γ φ) n x 0 0 (fq Γ n (.inl (some (.int q.1))) q.2) := by
  intro fu
  induction fu with
  | zero =>
    intro x φ x0 x1 x2 x3 q H
    cases H
  | succ fu ih =>
    intro x φ x0 x1 x2 x3 q H
    unfold f_Bus_goOver_L15 at H
    refine J_iload_n d_Bus_goOver_15 rfl ?_
    refine J_iconst (v := 5) d_Bus_goOver_16 (by decide) ?_
    refine J_icmp_ge (tgt := 91) d_Bus_goOver_17 (by decide) ?_ ?_
    · intro c64
      rw [if_pos c64] at H
      refine J_iinc (v := x2 + 1) d_Bus_goOver_91 rfl (by rw [show Int32.ofInt 1 = (1 : Int32) from by decide]) ?_
      refine J.ls (ls' := [some (.ref x0), some (.int x1), some (.int (x2 + (1 : Int32))), some (.int x3)]) rfl ?_
      refine J_goto (tgt := 4) d_Bus_goOver_94 (by decide) ?_
      refine J.drop [true, true, true, false] rfl ?_
      exact hKc4 H
    · intro c64
      rw [if_neg c64] at H
      refine J_aload_n d_Bus_goOver_20 rfl ?_
      have g35 : Γ x0 = .inr 11 := by
        apply Classical.byContradiction
        intro q9
        rw [if_neg q9] at H
        cases H
      rw [if_pos g35] at H
      refine F_getR (ci := 11) (k := 4) hG (cf_Bus hw) (fl_Bus_37 hw) (by decide) (by decide) rfl d_Bus_goOver_21 g35 ?_
      refine J_iload_n d_Bus_goOver_24 rfl ?_
      obtain ⟨a36, ha36, H⟩ := Option.bind_eq_some_iff.mp H
      rw [j_rf ha36]
      obtain ⟨N37, hN37, H⟩ := Option.bind_eq_some_iff.mp H
      obtain ⟨k38, hk38, H⟩ := Option.bind_eq_some_iff.mp H
      refine F_aald k38 hw hG (t := 7) rfl (by decide) d_Bus_goOver_25 (gA_some hN37) (ix_some hk38) ?_
      refine J_iload_n d_Bus_goOver_26 rfl ?_
      obtain ⟨a39, ha39, H⟩ := Option.bind_eq_some_iff.mp H
      rw [j_rf ha39]
      have g40 : Γ a39 = .inr 5 := by
        apply Classical.byContradiction
        intro q9
        rw [if_neg q9] at H
        cases H
      rw [if_pos g40] at H
      obtain ⟨q41, hq41, H⟩ := Option.bind_eq_some_iff.mp H
      refine J_callV (kc := 0) (ks := 0) (kc' := 0) (ks' := 0) (a := a39) (ci := 5) (as := [.int x3]) (st := []) (mf_Port_moves hw) (mv_Bus_315 hw) d_Bus_goOver_27 ln_Port_moves (by decide) (by first | exact Nat.le_of_ble_eq_true rfl | (simp only [List.map_cons, List.map_nil, List.sum_cons, List.sum_nil, va_rf_cat]; exact Nat.le_of_ble_eq_true rfl)) rfl ((hG _).1 _ g40 (by decide)).1 ((hG _).1 _ g40 (by decide)).2 (by unfold pic; rw [g40]; rfl) (jcl_at hw rfl) rfl (p_Port_moves hw hG hq41) ?_ (fun E h' n' x' e1 => by cases e1.1)
      intro v9 h9 n9 x9 e9
      obtain ⟨e91, e92, e93⟩ := e9
      cases e91
      subst e92
      subst e93
      clear x
      rename Bool => x
      show J _ _ _ _ (_ :: _) _ _ _ _ _ _
      refine J_if_eq (tgt := 85) d_Bus_goOver_30 (by decide) ?_ ?_
      · intro c63
        rw [if_pos c63] at H
        refine J.drop [true, true, true, true] rfl ?_
        exact p_Bus_goOver_L85 hw hG hKc4 ih H
      · intro c63
        rw [if_neg c63] at H
        refine J_aload_n d_Bus_goOver_33 rfl ?_
        refine F_getR (ci := 11) (k := 1) hG (cf_Bus hw) (fl_Bus_25 hw) (by decide) (by decide) rfl d_Bus_goOver_34 g35 ?_
        refine J_aload_n d_Bus_goOver_37 rfl ?_
        refine F_getR (ci := 11) (k := 4) hG (cf_Bus hw) (fl_Bus_37 hw) (by decide) (by decide) rfl d_Bus_goOver_38 g35 ?_
        refine J_iload_n d_Bus_goOver_41 rfl ?_
        obtain ⟨a42, ha42, H⟩ := Option.bind_eq_some_iff.mp H
        rw [j_rf ha42]
        obtain ⟨N43, hN43, H⟩ := Option.bind_eq_some_iff.mp H
        obtain ⟨k44, hk44, H⟩ := Option.bind_eq_some_iff.mp H
        refine F_aald k44 hw hG (t := 7) rfl (by decide) d_Bus_goOver_42 (gA_some hN43) (ix_some hk44) ?_
        refine J_iload_n d_Bus_goOver_43 rfl ?_
        refine J_iload_n d_Bus_goOver_44 rfl ?_
        refine J_aload_n d_Bus_goOver_45 rfl ?_
        refine F_getI (ci := 11) (k := 9) hG (cf_Bus hw) (fl_Bus_159 hw) (by decide) (by decide) rfl d_Bus_goOver_46 g35 ?_
        obtain ⟨a45, ha45, H⟩ := Option.bind_eq_some_iff.mp H
        rw [j_rf ha45]
        have g46 : Γ a45 = .inr 10 := by
          apply Classical.byContradiction
          intro q9
          rw [if_neg q9] at H
          cases H
        rw [if_pos g46] at H
        obtain ⟨q47, hq47, H⟩ := Option.bind_eq_some_iff.mp H
        refine J_callV (kc := 0) (ks := 0) (kc' := 0) (ks' := 0) (a := a45) (ci := 10) (as := [va_rf (q41.2.2.2 a42 k44), .int x2, .int x3, .int (q41.2.1 x0 9)]) (st := []) (mf_Switch_passMaster hw) (mv_Bus_319 hw) d_Bus_goOver_49 ln_Switch_passMaster (by decide) (by first | exact Nat.le_of_ble_eq_true rfl | (simp only [List.map_cons, List.map_nil, List.sum_cons, List.sum_nil, va_rf_cat]; exact Nat.le_of_ble_eq_true rfl)) rfl ((hG _).1 _ g46 (by decide)).1 ((hG _).1 _ g46 (by decide)).2 (by unfold pic; rw [g46]; rfl) (jcl_at hw rfl) rfl (p_Switch_passMaster hw hG hq47) ?_ (fun E h' n' x' e1 => by cases e1.1)
        intro v9 h9 n9 x9 e9
        obtain ⟨e91, e92, e93⟩ := e9
        cases e91
        subst e92
        subst e93
        clear x
        rename Bool => x
        show J _ _ _ _ [] _ _ _ _ _ _
        refine J_aload_n d_Bus_goOver_52 rfl ?_
        refine F_getR (ci := 11) (k := 2) hG (cf_Bus hw) (fl_Bus_31 hw) (by decide) (by decide) rfl d_Bus_goOver_53 g35 ?_
        refine J_iload_n d_Bus_goOver_56 rfl ?_
        obtain ⟨a48, ha48, H⟩ := Option.bind_eq_some_iff.mp H
        rw [j_rf ha48]
        obtain ⟨N49, hN49, H⟩ := Option.bind_eq_some_iff.mp H
        obtain ⟨k50, hk50, H⟩ := Option.bind_eq_some_iff.mp H
        refine F_aald k50 hw hG (t := 8) rfl (by decide) d_Bus_goOver_57 (gA_some hN49) (ix_some hk50) ?_
        refine J_aload_n d_Bus_goOver_58 rfl ?_
        refine F_getR (ci := 11) (k := 4) hG (cf_Bus hw) (fl_Bus_37 hw) (by decide) (by decide) rfl d_Bus_goOver_59 g35 ?_
        refine J_iload_n d_Bus_goOver_62 rfl ?_
        obtain ⟨a51, ha51, H⟩ := Option.bind_eq_some_iff.mp H
        rw [j_rf ha51]
        obtain ⟨N52, hN52, H⟩ := Option.bind_eq_some_iff.mp H
        obtain ⟨k53, hk53, H⟩ := Option.bind_eq_some_iff.mp H
        refine F_aald k53 hw hG (t := 7) rfl (by decide) d_Bus_goOver_63 (gA_some hN52) (ix_some hk53) ?_
        refine J_iload_n d_Bus_goOver_64 rfl ?_
        refine J_aload_n d_Bus_goOver_65 rfl ?_
        refine F_getI (ci := 11) (k := 9) hG (cf_Bus hw) (fl_Bus_159 hw) (by decide) (by decide) rfl d_Bus_goOver_66 g35 ?_
        obtain ⟨a54, ha54, H⟩ := Option.bind_eq_some_iff.mp H
        rw [j_rf ha54]
        have g55 : Γ a54 = .inr 7 := by
          apply Classical.byContradiction
          intro q9
          rw [if_neg q9] at H
          cases H
        rw [if_pos g55] at H
        obtain ⟨q56, hq56, H⟩ := Option.bind_eq_some_iff.mp H
        refine J_callV (kc := 0) (ks := 0) (kc' := 0) (ks' := 0) (a := a54) (ci := 7) (as := [va_rf (q47.2.2.2 a51 k53), .int x3, .int (q47.2.1 x0 9)]) (st := []) (mf_Master_pass hw) (mv_Bus_323 hw) d_Bus_goOver_69 ln_Master_pass (by decide) (by first | exact Nat.le_of_ble_eq_true rfl | (simp only [List.map_cons, List.map_nil, List.sum_cons, List.sum_nil, va_rf_cat]; exact Nat.le_of_ble_eq_true rfl)) rfl ((hG _).1 _ g55 (by decide)).1 ((hG _).1 _ g55 (by decide)).2 (by unfold pic; rw [g55]; rfl) (jcl_at hw rfl) rfl (p_Master_pass hw hG hq56) ?_ (fun E h' n' x' e1 => by cases e1.1)
        intro v9 h9 n9 x9 e9
        obtain ⟨e91, e92, e93⟩ := e9
        cases e91
        subst e92
        subst e93
        clear x
        rename Bool => x
        show J _ _ _ _ [] _ _ _ _ _ _
        refine J_iload_n d_Bus_goOver_72 rfl ?_
        refine J_aload_n d_Bus_goOver_73 rfl ?_
        refine F_getR (ci := 11) (k := 4) hG (cf_Bus hw) (fl_Bus_37 hw) (by decide) (by decide) rfl d_Bus_goOver_74 g35 ?_
        refine J_iload_n d_Bus_goOver_77 rfl ?_
        obtain ⟨a57, ha57, H⟩ := Option.bind_eq_some_iff.mp H
        rw [j_rf ha57]
        obtain ⟨N58, hN58, H⟩ := Option.bind_eq_some_iff.mp H
        obtain ⟨k59, hk59, H⟩ := Option.bind_eq_some_iff.mp H
        refine F_aald k59 hw hG (t := 7) rfl (by decide) d_Bus_goOver_78 (gA_some hN58) (ix_some hk59) ?_
        refine J_iload_n d_Bus_goOver_79 rfl ?_
        obtain ⟨a60, ha60, H⟩ := Option.bind_eq_some_iff.mp H
        rw [j_rf ha60]
        have g61 : Γ a60 = .inr 5 := by
          apply Classical.byContradiction
          intro q9
          rw [if_neg q9] at H
          cases H
        rw [if_pos g61] at H
        obtain ⟨q62, hq62, H⟩ := Option.bind_eq_some_iff.mp H
        refine J_callV (kc := 0) (ks := 0) (kc' := 0) (ks' := 0) (a := a60) (ci := 5) (as := [.int x3]) (st := [.int x1]) (mf_Port_count hw) (mv_Bus_327 hw) d_Bus_goOver_80 ln_Port_count (by decide) (by first | exact Nat.le_of_ble_eq_true rfl | (simp only [List.map_cons, List.map_nil, List.sum_cons, List.sum_nil, va_rf_cat]; exact Nat.le_of_ble_eq_true rfl)) rfl ((hG _).1 _ g61 (by decide)).1 ((hG _).1 _ g61 (by decide)).2 (by unfold pic; rw [g61]; rfl) (jcl_at hw rfl) rfl (p_Port_count hw hG hq62) ?_ (fun E h' n' x' e1 => by cases e1.1)
        intro v9 h9 n9 x9 e9
        obtain ⟨e91, e92, e93⟩ := e9
        cases e91
        subst e92
        subst e93
        clear x
        rename Bool => x
        show J _ _ _ _ (_ :: _) _ _ _ _ _ _
        refine J_iadd d_Bus_goOver_83 ?_
        refine J_istore_n d_Bus_goOver_84 (Nat.le_of_ble_eq_true rfl) ?_
        refine J.ls (ls' := [some (.ref x0), some (.int (x1 + q62.1)), some (.int x2), some (.int x3)]) rfl ?_
        refine J.drop [true, true, true, true] rfl ?_
        exact p_Bus_goOver_L85 hw hG hKc4 ih H
def f_Bus_goOver_L4 (Γ : gm_T)  : Nat → ph_T → Nat → Int32 → Int32 → Option (Int32 × ph_T)
  | 0, _, _, _, _ => none
  | fu + 1, φ, x0, x1, x2 =>
    @ite _ (Γ x0 = .inr 11) _ (
    Option.bind (φ.2.2 x0 2) fun a66 =>
    Option.bind (gA Γ a66 8) fun N67 =>
    if (nI N67) ≤ x2 then
      f_Bus_goOver_L99 Γ  jF φ x0 x1 (0 : Int32)
    else
      f_Bus_goOver_L15 Γ (f_Bus_goOver_L4 Γ  fu) jF φ x0 x1 x2 (0 : Int32)
    ) none
set_option maxRecDepth 100000 in
set_option maxHeartbeats 4000000 in
theorem p_Bus_goOver_L4 {w : jw_T} (hw : jok w) {Γ : gm_T} {n : Nat} (hG : gd w Γ n)  : ∀ (fu : Nat) {x : Bool} {φ : ph_T} {x0 : Nat} {x1 : Int32} {x2 : Int32} {q : Int32 × ph_T}, f_Bus_goOver_L4 Γ  fu φ x0 x1 x2 = some q → J w M_Bus_goOver 4 [some (.ref x0), some (.int x1), some (.int x2), none] [] (pic Γ φ) n x 0 0 (fq Γ n (.inl (some (.int q.1))) q.2) := by
  intro fu
  induction fu with
  | zero =>
    intro x φ x0 x1 x2 q H
    cases H
  | succ fu ih =>
    intro x φ x0 x1 x2 q H
    unfold f_Bus_goOver_L4 at H
    refine J_iload_n d_Bus_goOver_4 rfl ?_
    refine J_aload_n d_Bus_goOver_5 rfl ?_
    have g65 : Γ x0 = .inr 11 := by
      apply Classical.byContradiction
      intro q9
      rw [if_neg q9] at H
      cases H
    rw [if_pos g65] at H
    refine F_getR (ci := 11) (k := 2) hG (cf_Bus hw) (fl_Bus_31 hw) (by decide) (by decide) rfl d_Bus_goOver_6 g65 ?_
    obtain ⟨a66, ha66, H⟩ := Option.bind_eq_some_iff.mp H
    rw [j_rf ha66]
    obtain ⟨N67, hN67, H⟩ := Option.bind_eq_some_iff.mp H
    refine F_alen hw hG (t := 8) rfl d_Bus_goOver_9 (gA_some hN67) ?_
    refine J_icmp_ge (tgt := 97) d_Bus_goOver_10 (by decide) ?_ ?_
    · intro c68
      rw [if_pos c68] at H
      refine J_iconst (v := 0) d_Bus_goOver_97 (by decide) ?_
      refine J_istore_n d_Bus_goOver_98 (Nat.le_of_ble_eq_true rfl) ?_
      refine J.ls (ls' := [some (.ref x0), some (.int x1), some (.int (0 : Int32)), none]) rfl ?_
      refine J.drop [true, true, true, false] rfl ?_
      exact p_Bus_goOver_L99 hw hG  _ H
    · intro c68
      rw [if_neg c68] at H
      refine J_iconst (v := 0) d_Bus_goOver_13 (by decide) ?_
      refine J_istore_n d_Bus_goOver_14 (Nat.le_of_ble_eq_true rfl) ?_
      refine J.ls (ls' := [some (.ref x0), some (.int x1), some (.int x2), some (.int (0 : Int32))]) rfl ?_
      refine J.drop [true, true, true, true] rfl ?_
      exact p_Bus_goOver_L15 hw hG ih _ H
def f_Bus_goOver (Γ : gm_T) (φ : ph_T) (this : Nat) : Option (Int32 × ph_T) :=
  f_Bus_goOver_L4 Γ  jF φ this (0 : Int32) (0 : Int32)
set_option maxRecDepth 100000 in
set_option maxHeartbeats 4000000 in
theorem p_Bus_goOver {w : jw_T} (hw : jok w) {Γ : gm_T} {n : Nat} (hG : gd w Γ n) {x : Bool} {φ : ph_T} {this : Nat} {q : Int32 × ph_T} (H : f_Bus_goOver Γ φ this = some q) : jc w M_Bus_goOver [.ref this] (pic Γ φ) n x 0 0 (fq Γ n (.inl (some (.int q.1))) q.2) := by
  refine jc.of (by simp only [jent_r, jent_i, jent_l, jent_a, jent_0]; exact Nat.le_of_ble_eq_true rfl) ?_
  have hls : jents [.ref this] (jm_nL M_Bus_goOver) = [some (.ref this), none, none, none] := by simp only [jents, jent_r, jent_i, jent_l, jent_a, jent_0]; rfl
  rw [hls]
  clear hls
  unfold f_Bus_goOver at H
  refine J_iconst (v := 0) d_Bus_goOver_0 (by decide) ?_
  refine J_istore_n d_Bus_goOver_1 (Nat.le_of_ble_eq_true rfl) ?_
  refine J.ls (ls' := [some (.ref this), some (.int (0 : Int32)), none, none]) rfl ?_
  refine J_iconst (v := 0) d_Bus_goOver_2 (by decide) ?_
  refine J_istore_n d_Bus_goOver_3 (Nat.le_of_ble_eq_true rfl) ?_
  refine J.ls (ls' := [some (.ref this), some (.int (0 : Int32)), some (.int (0 : Int32)), none]) rfl ?_
  refine J.drop [true, true, true, false] rfl ?_
  exact p_Bus_goOver_L4 hw hG  _ H
