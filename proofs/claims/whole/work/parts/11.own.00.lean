theorem ln_Math_min : (parseMethodDescriptor y_Math_min.desc).map (fun q => q.parameters.length) = some 2 := by decide +kernel
def f_Math_min_L10 (Γ : gm_T)  (φ : ph_T) (y0 : Int32) : Option (Int32 × ph_T) :=
  some (y0, φ)
set_option maxRecDepth 100000 in
set_option maxHeartbeats 4000000 in
theorem p_Math_min_L10 {w : jw_T} (hw : jok w) {Γ : gm_T} {n : Nat} (hG : gd w Γ n)  {x : Bool} {φ : ph_T} {y0 : Int32} {q : Int32 × ph_T} (H : f_Math_min_L10 Γ  φ y0 = some q) : J w M_Math_min 10 [none, none] [.int y0] (pic Γ φ) n x 0 0 (fq Γ n (.inl (some (.int q.1))) q.2) := by
  unfold f_Math_min_L10 at H
  have H := Option.some.inj H
  subst H
  exact J_iret (st := []) d_Math_min_10 rfl rfl ⟨rfl, rfl, rfl⟩
def f_Math_min (Γ : gm_T) (φ : ph_T) (p0 : Int32) (p1 : Int32) : Option (Int32 × ph_T) :=
  if p1 < p0 then
    f_Math_min_L10 Γ  φ p1
  else
    f_Math_min_L10 Γ  φ p0
set_option maxRecDepth 100000 in
set_option maxHeartbeats 4000000 in
theorem p_Math_min {w : jw_T} (hw : jok w) {Γ : gm_T} {n : Nat} (hG : gd w Γ n) {x : Bool} {φ : ph_T} {p0 : Int32} {p1 : Int32} {q : Int32 × ph_T} (H : f_Math_min Γ φ p0 p1 = some q) : jc w M_Math_min [.int p0, .int p1] (pic Γ φ) n x 0 0 (fq Γ n (.inl (some (.int q.1))) q.2) := by
  refine jc.of (by simp only [jent_r, jent_i, jent_l, jent_a, jent_0]; exact Nat.le_of_ble_eq_true rfl) ?_
  have hls : jents [.int p0, .int p1] (jm_nL M_Math_min) = [some (.int p0), some (.int p1)] := by simp only [jents, jent_r, jent_i, jent_l, jent_a, jent_0]; rfl
  rw [hls]
  clear hls
  unfold f_Math_min at H
  refine J_iload_n d_Math_min_0 rfl ?_
  refine J_iload_n d_Math_min_1 rfl ?_
  refine J_icmp_gt (tgt := 9) d_Math_min_2 (by decide) ?_ ?_
  · intro c1
    rw [if_pos c1] at H
    refine J_iload_n d_Math_min_9 rfl ?_
    refine J.drop [false, false] rfl ?_
    exact p_Math_min_L10 hw hG  H
  · intro c1
    rw [if_neg c1] at H
    refine J_iload_n d_Math_min_5 rfl ?_
    refine J_goto (tgt := 10) d_Math_min_6 (by decide) ?_
    refine J.drop [false, false] rfl ?_
    exact p_Math_min_L10 hw hG  H
theorem ln_Math_max : (parseMethodDescriptor y_Math_max.desc).map (fun q => q.parameters.length) = some 2 := by decide +kernel
def f_Math_max_L10 (Γ : gm_T)  (φ : ph_T) (y0 : Int32) : Option (Int32 × ph_T) :=
  some (y0, φ)
set_option maxRecDepth 100000 in
set_option maxHeartbeats 4000000 in
theorem p_Math_max_L10 {w : jw_T} (hw : jok w) {Γ : gm_T} {n : Nat} (hG : gd w Γ n)  {x : Bool} {φ : ph_T} {y0 : Int32} {q : Int32 × ph_T} (H : f_Math_max_L10 Γ  φ y0 = some q) : J w M_Math_max 10 [none, none] [.int y0] (pic Γ φ) n x 0 0 (fq Γ n (.inl (some (.int q.1))) q.2) := by
  unfold f_Math_max_L10 at H
  have H := Option.some.inj H
  subst H
  exact J_iret (st := []) d_Math_max_10 rfl rfl ⟨rfl, rfl, rfl⟩
def f_Math_max (Γ : gm_T) (φ : ph_T) (p0 : Int32) (p1 : Int32) : Option (Int32 × ph_T) :=
  if p0 < p1 then
    f_Math_max_L10 Γ  φ p1
  else
    f_Math_max_L10 Γ  φ p0
set_option maxRecDepth 100000 in
set_option maxHeartbeats 4000000 in
theorem p_Math_max {w : jw_T} (hw : jok w) {Γ : gm_T} {n : Nat} (hG : gd w Γ n) {x : Bool} {φ : ph_T} {p0 : Int32} {p1 : Int32} {q : Int32 × ph_T} (H : f_Math_max Γ φ p0 p1 = some q) : jc w M_Math_max [.int p0, .int p1] (pic Γ φ) n x 0 0 (fq Γ n (.inl (some (.int q.1))) q.2) := by
  refine jc.of (by simp only [jent_r, jent_i, jent_l, jent_a, jent_0]; exact Nat.le_of_ble_eq_true rfl) ?_
  have hls : jents [.int p0, .int p1] (jm_nL M_Math_max) = [some (.int p0), some (.int p1)] := by simp only [jents, jent_r, jent_i, jent_l, jent_a, jent_0]; rfl
  rw [hls]
  clear hls
  unfold f_Math_max at H
  refine J_iload_n d_Math_max_0 rfl ?_
  refine J_iload_n d_Math_max_1 rfl ?_
  refine J_icmp_lt (tgt := 9) d_Math_max_2 (by decide) ?_ ?_
  · intro c1
    rw [if_pos c1] at H
    refine J_iload_n d_Math_max_9 rfl ?_
    refine J.drop [false, false] rfl ?_
    exact p_Math_max_L10 hw hG  H
  · intro c1
    rw [if_neg c1] at H
    refine J_iload_n d_Math_max_5 rfl ?_
    refine J_goto (tgt := 10) d_Math_max_6 (by decide) ?_
    refine J.drop [false, false] rfl ?_
    exact p_Math_max_L10 hw hG  H
theorem ln_Bus_nearest : (parseMethodDescriptor y_Bus_nearest.desc).map (fun q => q.parameters.length) = some 2 := by decide +kernel
def f_Bus_nearest (Γ : gm_T) (φ : ph_T) (p0 : Int32) (p1 : Int32) : Option (Int32 × ph_T) :=
  Option.bind (f_Math_min Γ φ p0 p1) fun q1 =>
  Option.bind (f_Math_max Γ q1.2 (1 : Int32) q1.1) fun q2 =>
  some (q2.1, q2.2)
set_option maxRecDepth 100000 in
set_option maxHeartbeats 4000000 in
theorem p_Bus_nearest {w : jw_T} (hw : jok w) {Γ : gm_T} {n : Nat} (hG : gd w Γ n) {x : Bool} {φ : ph_T} {p0 : Int32} {p1 : Int32} {q : Int32 × ph_T} (H : f_Bus_nearest Γ φ p0 p1 = some q) : jc w M_Bus_nearest [.int p0, .int p1] (pic Γ φ) n x 0 0 (fq Γ n (.inl (some (.int q.1))) q.2) := by
  refine jc.of (by simp only [jent_r, jent_i, jent_l, jent_a, jent_0]; exact Nat.le_of_ble_eq_true rfl) ?_
  have hls : jents [.int p0, .int p1] (jm_nL M_Bus_nearest) = [some (.int p0), some (.int p1)] := by simp only [jents, jent_r, jent_i, jent_l, jent_a, jent_0]; rfl
  rw [hls]
  clear hls
  unfold f_Bus_nearest at H
  refine J_iconst (v := 1) d_Bus_nearest_0 (by decide) ?_
  refine J_iload_n d_Bus_nearest_1 rfl ?_
  refine J_iload_n d_Bus_nearest_2 rfl ?_
  obtain ⟨q1, hq1, H⟩ := Option.bind_eq_some_iff.mp H
  refine J_callS (kc := 0) (ks := 0) (kc' := 0) (ks' := 0) (as := [.int p0, .int p1]) (st := [.int (1 : Int32)]) (mf_Math_min hw) (ms_Bus_118 hw) d_Bus_nearest_3 ln_Math_min (by decide) (by first | exact Nat.le_of_ble_eq_true rfl | (simp only [List.map_cons, List.map_nil, List.sum_cons, List.sum_nil, va_rf_cat]; exact Nat.le_of_ble_eq_true rfl)) rfl (p_Math_min hw hG hq1) ?_ (fun E h' n' x' e1 => by cases e1.1)
  intro v9 h9 n9 x9 e9
  obtain ⟨e91, e92, e93⟩ := e9
  cases e91
  subst e92
  subst e93
  clear x
  rename Bool => x
  show J _ _ _ _ (_ :: _) _ _ _ _ _ _
  obtain ⟨q2, hq2, H⟩ := Option.bind_eq_some_iff.mp H
  refine J_callS (kc := 0) (ks := 0) (kc' := 0) (ks' := 0) (as := [.int (1 : Int32), .int q1.1]) (st := []) (mf_Math_max hw) (ms_Bus_340 hw) d_Bus_nearest_6 ln_Math_max (by decide) (by first | exact Nat.le_of_ble_eq_true rfl | (simp only [List.map_cons, List.map_nil, List.sum_cons, List.sum_nil, va_rf_cat]; exact Nat.le_of_ble_eq_true rfl)) rfl (p_Math_max hw hG hq2) ?_ (fun E h' n' x' e1 => by cases e1.1)
  intro v9 h9 n9 x9 e9
  obtain ⟨e91, e92, e93⟩ := e9
  cases e91
  subst e92
  subst e93
  clear x
  rename Bool => x
  show J _ _ _ _ (_ :: _) _ _ _ _ _ _
  have H := Option.some.inj H
  subst H
  exact J_iret (st := []) d_Bus_nearest_9 rfl rfl ⟨rfl, rfl, rfl⟩
theorem ln_Arrays_fill1 : (parseMethodDescriptor y_Arrays_fill1.desc).map (fun q => q.parameters.length) = some 2 := by decide +kernel
def f_Arrays_fill1_L5 (Γ : gm_T)  : Nat → ph_T → Option Nat → Int32 → Int32 → Int32 → Option (Unit × ph_T)
  | 0, _, _, _, _, _ => none
  | fu + 1, φ, x0, x1, x2, x3 =>
    if x3 ≤ x2 then
      some ((), φ)
    else
      Option.bind x0 fun a1 =>
      Option.bind (gA Γ a1 0) fun N2 =>
      Option.bind (ix x2 N2) fun k3 =>
      (f_Arrays_fill1_L5 Γ  fu) (uI φ a1 k3 x1) (some a1) x1 (x2 + (1 : Int32)) x3
set_option maxRecDepth 100000 in
set_option maxHeartbeats 4000000 in
theorem p_Arrays_fill1_L5 {w : jw_T} (hw : jok w) {Γ : gm_T} {n : Nat} (hG : gd w Γ n)  : ∀ (fu : Nat) {x : Bool} {φ : ph_T} {x0 : Option Nat} {x1 : Int32} {x2 : Int32} {x3 : Int32} {q : Unit × ph_T}, f_Arrays_fill1_L5 Γ  fu φ x0 x1 x2 x3 = some q → J w M_Arrays_fill1 5 [some (va_rf x0), some (.int x1), some (.int x2), some (.int x3)] [] (pic Γ φ) n x 0 0 (fq Γ n (.inl none) q.2) := by
  intro fu
  induction fu with
  | zero =>
    intro x φ x0 x1 x2 x3 q H
    cases H
  | succ fu ih =>
    intro x φ x0 x1 x2 x3 q H
    unfold f_Arrays_fill1_L5 at H
    refine J_iload_n d_Arrays_fill1_5 rfl ?_
    refine J_iload_n d_Arrays_fill1_6 rfl ?_
    refine J_icmp_ge (tgt := 20) d_Arrays_fill1_7 (by decide) ?_ ?_
    · intro c4
      rw [if_pos c4] at H
      have H := Option.some.inj H
      subst H
      exact J_vret (st := []) d_Arrays_fill1_20 rfl ⟨rfl, rfl, rfl⟩
    · intro c4
      rw [if_neg c4] at H
      refine J_aload_nO d_Arrays_fill1_10 rfl ?_
      refine J_iload_n d_Arrays_fill1_11 rfl ?_
      refine J_iload_n d_Arrays_fill1_12 rfl ?_
      obtain ⟨a1, ha1, H⟩ := Option.bind_eq_some_iff.mp H
      rw [j_rf ha1]
      obtain ⟨N2, hN2, H⟩ := Option.bind_eq_some_iff.mp H
      obtain ⟨k3, hk3, H⟩ := Option.bind_eq_some_iff.mp H
      refine F_iast k3 hw hG d_Arrays_fill1_13 (gA_some hN2) (ix_some hk3) ?_
      refine J_iinc (v := x2 + 1) d_Arrays_fill1_14 rfl (by rw [show Int32.ofInt 1 = (1 : Int32) from by decide]) ?_
      refine J.ls (ls' := [some (.ref a1), some (.int x1), some (.int (x2 + (1 : Int32))), some (.int x3)]) rfl ?_
      refine J_goto (tgt := 5) d_Arrays_fill1_17 (by decide) ?_
      refine J.drop [true, true, true, true] rfl ?_
      exact ih H
def f_Arrays_fill1 (Γ : gm_T) (φ : ph_T) (p0 : Option Nat) (p1 : Int32) : Option (Unit × ph_T) :=
  Option.bind p0 fun a5 =>
  Option.bind (gA Γ a5 0) fun N6 =>
  f_Arrays_fill1_L5 Γ  jF φ (some a5) p1 (0 : Int32) (nI N6)
set_option maxRecDepth 100000 in
set_option maxHeartbeats 4000000 in
theorem p_Arrays_fill1 {w : jw_T} (hw : jok w) {Γ : gm_T} {n : Nat} (hG : gd w Γ n) {x : Bool} {φ : ph_T} {p0 : Option Nat} {p1 : Int32} {q : Unit × ph_T} (H : f_Arrays_fill1 Γ φ p0 p1 = some q) : jc w M_Arrays_fill1 [va_rf p0, .int p1] (pic Γ φ) n x 0 0 (fq Γ n (.inl none) q.2) := by
  refine jc.of (by simp only [jent_r, jent_i, jent_l, jent_a, jent_0]; exact Nat.le_of_ble_eq_true rfl) ?_
  have hls : jents [va_rf p0, .int p1] (jm_nL M_Arrays_fill1) = [some (va_rf p0), some (.int p1), none, none] := by simp only [jents, jent_r, jent_i, jent_l, jent_a, jent_0]; rfl
  rw [hls]
  clear hls
  unfold f_Arrays_fill1 at H
  refine J_iconst (v := 0) d_Arrays_fill1_0 (by decide) ?_
  refine J_istore_n d_Arrays_fill1_1 (Nat.le_of_ble_eq_true rfl) ?_
  refine J.ls (ls' := [some (va_rf p0), some (.int p1), some (.int (0 : Int32)), none]) rfl ?_
  refine J_aload_nO d_Arrays_fill1_2 rfl ?_
  obtain ⟨a5, ha5, H⟩ := Option.bind_eq_some_iff.mp H
  rw [j_rf ha5]
  obtain ⟨N6, hN6, H⟩ := Option.bind_eq_some_iff.mp H
  refine F_alen hw hG (t := 0) rfl d_Arrays_fill1_3 (gA_some hN6) ?_
  refine J_istore_n d_Arrays_fill1_4 (Nat.le_of_ble_eq_true rfl) ?_
  refine J.ls (ls' := [some (.ref a5), some (.int p1), some (.int (0 : Int32)), some (.int (nI N6))]) rfl ?_
  refine J.drop [true, true, true, true] rfl ?_
  exact p_Arrays_fill1_L5 hw hG  _ H
theorem ln_Switch_reset : (parseMethodDescriptor y_Switch_reset.desc).map (fun q => q.parameters.length) = some 0 := by decide +kernel
def f_Switch_reset_L82 (Γ : gm_T)  : Nat → ph_T → Nat → Int32 → Option (Unit × ph_T)
  | 0, _, _, _ => none
  | fu + 1, φ, x0, x1 =>
    @ite _ (Γ x0 = .inr 10) _ (
    if (φ.1 x0 0) ≤ x1 then
      Option.bind (f_Arrays_fill1 Γ φ (φ.2.2 x0 8) (-1 : Int32)) fun q3 =>
      Option.bind (f_Arrays_fill1 Γ q3.2 (q3.2.2.2 x0 9) (-1 : Int32)) fun q4 =>
      Option.bind (f_Arrays_fill1 Γ q4.2 (q4.2.2.2 x0 10) (-1 : Int32)) fun q5 =>
      Option.bind (f_Arrays_fill1 Γ q5.2 (q5.2.2.2 x0 11) (-1 : Int32)) fun q6 =>
      @ite _ ((0 : Int32) = 0 ∨ (0 : Int32) = 1) _ (
      some ((), (uI (uI (uI (uI q6.2 x0 13 (1 : Int32)) x0 14 (0 : Int32)) x0 15 (0 : Int32)) x0 16 (0 : Int32)))
      ) none
    else
      Option.bind (φ.2.2 x0 6) fun a8 =>
      Option.bind (gA Γ a8 4) fun N9 =>
      Option.bind (ix x1 N9) fun k10 =>
      Option.bind (φ.2.2 a8 k10) fun a11 =>
      @ite _ (Γ a11 = .inr 9) _ (
      Option.bind (φ.2.2 x0 7) fun a13 =>
      Option.bind (gA Γ a13 4) fun N14 =>
      Option.bind (ix x1 N14) fun k15 =>
      Option.bind (φ.2.2 a13 k15) fun a16 =>
      @ite _ (Γ a16 = .inr 9) _ (
      Option.bind (φ.2.2 x0 12) fun a18 =>
      Option.bind (gA Γ a18 2) fun N19 =>
      Option.bind (ix x1 N19) fun k20 =>
      @ite _ ((0 : Int32) = 0 ∨ (0 : Int32) = 1) _ (
      (f_Switch_reset_L82 Γ  fu) (uI (uI (uI φ a11 4 (0 : Int32)) a16 4 (0 : Int32)) a18 k20 (0 : Int32)) x0 (x1 + (1 : Int32))
      ) none
      ) none
      ) none
    ) none
set_option maxRecDepth 100000 in
set_option maxHeartbeats 4000000 in
theorem p_Switch_reset_L82 {w : jw_T} (hw : jok w) {Γ : gm_T} {n : Nat} (hG : gd w Γ n)  : ∀ (fu : Nat) {x : Bool} {φ : ph_T} {x0 : Nat} {x1 : Int32} {q : Unit × ph_T}, f_Switch_reset_L82 Γ  fu φ x0 x1 = some q → J w M_Switch_reset 82 [some (.ref x0), some (.int x1)] [] (pic Γ φ) n x 0 0 (fq Γ n (.inl none) q.2) := by
  intro fu
  induction fu with
  | zero =>
    intro x φ x0 x1 q H
    cases H
  | succ fu ih =>
    intro x φ x0 x1 q H
    unfold f_Switch_reset_L82 at H
    refine J_iload_n d_Switch_reset_82 rfl ?_
    refine J_aload_n d_Switch_reset_83 rfl ?_
    have g2 : Γ x0 = .inr 10 := by
      apply Classical.byContradiction
      intro q9
      rw [if_neg q9] at H
      cases H
    rw [if_pos g2] at H
    refine F_getI (ci := 10) (k := 0) hG (cf_Switch hw) (fl_Switch_15 hw) (by decide) (by decide) rfl d_Switch_reset_84 g2 ?_
    refine J_icmp_ge (tgt := 123) d_Switch_reset_87 (by decide) ?_ ?_
    · intro c22
      rw [if_pos c22] at H
      refine J_aload_n d_Switch_reset_123 rfl ?_
      refine F_getR (ci := 10) (k := 8) hG (cf_Switch hw) (fl_Switch_46 hw) (by decide) (by decide) rfl d_Switch_reset_124 g2 ?_
      refine J_iconst (v := -1) d_Switch_reset_127 (by decide) ?_
      obtain ⟨q3, hq3, H⟩ := Option.bind_eq_some_iff.mp H
      refine J_callS (kc := 0) (ks := 0) (kc' := 0) (ks' := 0) (as := [va_rf (φ.2.2 x0 8), .int (-1 : Int32)]) (st := []) (mf_Arrays_fill1 hw) (ms_Switch_74 hw) d_Switch_reset_128 ln_Arrays_fill1 (by decide) (by first | exact Nat.le_of_ble_eq_true rfl | (simp only [List.map_cons, List.map_nil, List.sum_cons, List.sum_nil, va_rf_cat]; exact Nat.le_of_ble_eq_true rfl)) rfl (p_Arrays_fill1 hw hG hq3) ?_ (fun E h' n' x' e1 => by cases e1.1)
      intro v9 h9 n9 x9 e9
      obtain ⟨e91, e92, e93⟩ := e9
      cases e91
      subst e92
      subst e93
      clear x
      rename Bool => x
      show J _ _ _ _ [] _ _ _ _ _ _
      refine J_aload_n d_Switch_reset_131 rfl ?_
      refine F_getR (ci := 10) (k := 9) hG (cf_Switch hw) (fl_Switch_49 hw) (by decide) (by decide) rfl d_Switch_reset_132 g2 ?_
      refine J_iconst (v := -1) d_Switch_reset_135 (by decide) ?_
      obtain ⟨q4, hq4, H⟩ := Option.bind_eq_some_iff.mp H
      refine J_callS (kc := 0) (ks := 0) (kc' := 0) (ks' := 0) (as := [va_rf (q3.2.2.2 x0 9), .int (-1 : Int32)]) (st := []) (mf_Arrays_fill1 hw) (ms_Switch_74 hw) d_Switch_reset_136 ln_Arrays_fill1 (by decide) (by first | exact Nat.le_of_ble_eq_true rfl | (simp only [List.map_cons, List.map_nil, List.sum_cons, List.sum_nil, va_rf_cat]; exact Nat.le_of_ble_eq_true rfl)) rfl (p_Arrays_fill1 hw hG hq4) ?_ (fun E h' n' x' e1 => by cases e1.1)
      intro v9 h9 n9 x9 e9
      obtain ⟨e91, e92, e93⟩ := e9
      cases e91
      subst e92
      subst e93
      clear x
      rename Bool => x
      show J _ _ _ _ [] _ _ _ _ _ _
      refine J_aload_n d_Switch_reset_139 rfl ?_
      refine F_getR (ci := 10) (k := 10) hG (cf_Switch hw) (fl_Switch_52 hw) (by decide) (by decide) rfl d_Switch_reset_140 g2 ?_
      refine J_iconst (v := -1) d_Switch_reset_143 (by decide) ?_
      obtain ⟨q5, hq5, H⟩ := Option.bind_eq_some_iff.mp H
      refine J_callS (kc := 0) (ks := 0) (kc' := 0) (ks' := 0) (as := [va_rf (q4.2.2.2 x0 10), .int (-1 : Int32)]) (st := []) (mf_Arrays_fill1 hw) (ms_Switch_74 hw) d_Switch_reset_144 ln_Arrays_fill1 (by decide) (by first | exact Nat.le_of_ble_eq_true rfl | (simp only [List.map_cons, List.map_nil, List.sum_cons, List.sum_nil, va_rf_cat]; exact Nat.le_of_ble_eq_true rfl)) rfl (p_Arrays_fill1 hw hG hq5) ?_ (fun E h' n' x' e1 => by cases e1.1)
      intro v9 h9 n9 x9 e9
      obtain ⟨e91, e92, e93⟩ := e9
      cases e91
      subst e92
      subst e93
      clear x
      rename Bool => x
      show J _ _ _ _ [] _ _ _ _ _ _
      refine J_aload_n d_Switch_reset_147 rfl ?_
      refine F_getR (ci := 10) (k := 11) hG (cf_Switch hw) (fl_Switch_55 hw) (by decide) (by decide) rfl d_Switch_reset_148 g2 ?_
      refine J_iconst (v := -1) d_Switch_reset_151 (by decide) ?_
      obtain ⟨q6, hq6, H⟩ := Option.bind_eq_some_iff.mp H
      refine J_callS (kc := 0) (ks := 0) (kc' := 0) (ks' := 0) (as := [va_rf (q5.2.2.2 x0 11), .int (-1 : Int32)]) (st := []) (mf_Arrays_fill1 hw) (ms_Switch_74 hw) d_Switch_reset_152 ln_Arrays_fill1 (by decide) (by first | exact Nat.le_of_ble_eq_true rfl | (simp only [List.map_cons, List.map_nil, List.sum_cons, List.sum_nil, va_rf_cat]; exact Nat.le_of_ble_eq_true rfl)) rfl (p_Arrays_fill1 hw hG hq6) ?_ (fun E h' n' x' e1 => by cases e1.1)
      intro v9 h9 n9 x9 e9
      obtain ⟨e91, e92, e93⟩ := e9
      cases e91
      subst e92
      subst e93
      clear x
      rename Bool => x
      show J _ _ _ _ [] _ _ _ _ _ _
      refine J_aload_n d_Switch_reset_155 rfl ?_
      refine J_iconst (v := 1) d_Switch_reset_156 (by decide) ?_
      refine F_putI (ci := 10) (k := 13) hG (cf_Switch hw) (fl_Switch_80 hw) (by decide) (by decide) rfl d_Switch_reset_157 rfl rfl rfl g2 ?_
      refine J_aload_n d_Switch_reset_160 rfl ?_
      refine J_iconst (v := 0) d_Switch_reset_161 (by decide) ?_
      have z7 : (0 : Int32) = 0 ∨ (0 : Int32) = 1 := by
        apply Classical.byContradiction
        intro q9
        rw [if_neg q9] at H
        cases H
      rw [if_pos z7] at H
      refine F_putI (ci := 10) (k := 14) hG (cf_Switch hw) (fl_Switch_83 hw) (by decide) (by decide) rfl d_Switch_reset_162 rfl (narrow_z z7).1 (narrow_z z7).2 g2 ?_
      refine J_aload_n d_Switch_reset_165 rfl ?_
      refine J_iconst (v := 0) d_Switch_reset_166 (by decide) ?_
      refine F_putI (ci := 10) (k := 15) hG (cf_Switch hw) (fl_Switch_87 hw) (by decide) (by decide) rfl d_Switch_reset_167 rfl rfl rfl g2 ?_
      refine J_aload_n d_Switch_reset_170 rfl ?_
      refine J_iconst (v := 0) d_Switch_reset_171 (by decide) ?_
      refine F_putI (ci := 10) (k := 16) hG (cf_Switch hw) (fl_Switch_90 hw) (by decide) (by decide) rfl d_Switch_reset_172 rfl rfl rfl g2 ?_
      have H := Option.some.inj H
      subst H
      exact J_vret (st := []) d_Switch_reset_175 rfl ⟨rfl, rfl, rfl⟩
    · intro c22
      rw [if_neg c22] at H
      refine J_aload_n d_Switch_reset_90 rfl ?_
      refine F_getR (ci := 10) (k := 6) hG (cf_Switch hw) (fl_Switch_38 hw) (by decide) (by decide) rfl d_Switch_reset_91 g2 ?_
      refine J_iload_n d_Switch_reset_94 rfl ?_
      obtain ⟨a8, ha8, H⟩ := Option.bind_eq_some_iff.mp H
      rw [j_rf ha8]
      obtain ⟨N9, hN9, H⟩ := Option.bind_eq_some_iff.mp H
      obtain ⟨k10, hk10, H⟩ := Option.bind_eq_some_iff.mp H
      refine F_aald k10 hw hG (t := 4) rfl (by decide) d_Switch_reset_95 (gA_some hN9) (ix_some hk10) ?_
      refine J_iconst (v := 0) d_Switch_reset_96 (by decide) ?_
      obtain ⟨a11, ha11, H⟩ := Option.bind_eq_some_iff.mp H
      rw [j_rf ha11]
      have g12 : Γ a11 = .inr 9 := by
        apply Classical.byContradiction
        intro q9
        rw [if_neg q9] at H
        cases H
      rw [if_pos g12] at H
      refine F_putI (ci := 9) (k := 4) hG (cf_UnderWay hw) (fl_Switch_73 hw) (by decide) (by decide) rfl d_Switch_reset_97 rfl rfl rfl g12 ?_
      refine J_aload_n d_Switch_reset_100 rfl ?_
      refine F_getR (ci := 10) (k := 7) hG (cf_Switch hw) (fl_Switch_42 hw) (by decide) (by decide) rfl d_Switch_reset_101 g2 ?_
      show J _ _ _ _ (va_rf (φ.2.2 x0 7) :: _) _ _ _ _ _ _
      refine J_iload_n d_Switch_reset_104 rfl ?_
      obtain ⟨a13, ha13, H⟩ := Option.bind_eq_some_iff.mp H
      rw [j_rf ha13]
      obtain ⟨N14, hN14, H⟩ := Option.bind_eq_some_iff.mp H
      obtain ⟨k15, hk15, H⟩ := Option.bind_eq_some_iff.mp H
      refine F_aald k15 hw hG (t := 4) rfl (by decide) d_Switch_reset_105 (gA_some hN14) (ix_some hk15) ?_
      show J _ _ _ _ (va_rf (φ.2.2 a13 k15) :: _) _ _ _ _ _ _
      refine J_iconst (v := 0) d_Switch_reset_106 (by decide) ?_
      obtain ⟨a16, ha16, H⟩ := Option.bind_eq_some_iff.mp H
      rw [j_rf ha16]
      have g17 : Γ a16 = .inr 9 := by
        apply Classical.byContradiction
        intro q9
        rw [if_neg q9] at H
        cases H
      rw [if_pos g17] at H
      refine F_putI (ci := 9) (k := 4) hG (cf_UnderWay hw) (fl_Switch_73 hw) (by decide) (by decide) rfl d_Switch_reset_107 rfl rfl rfl g17 ?_
      refine J_aload_n d_Switch_reset_110 rfl ?_
      refine F_getR (ci := 10) (k := 12) hG (cf_Switch hw) (fl_Switch_58 hw) (by decide) (by decide) rfl d_Switch_reset_111 g2 ?_
      show J _ _ _ _ (va_rf (φ.2.2 x0 12) :: _) _ _ _ _ _ _
      refine J_iload_n d_Switch_reset_114 rfl ?_
      refine J_iconst (v := 0) d_Switch_reset_115 (by decide) ?_
      obtain ⟨a18, ha18, H⟩ := Option.bind_eq_some_iff.mp H
      rw [j_rf ha18]
      obtain ⟨N19, hN19, H⟩ := Option.bind_eq_some_iff.mp H
      obtain ⟨k20, hk20, H⟩ := Option.bind_eq_some_iff.mp H
      have z21 : (0 : Int32) = 0 ∨ (0 : Int32) = 1 := by
        apply Classical.byContradiction
        intro q9
        rw [if_neg q9] at H
        cases H
      rw [if_pos z21] at H
      refine F_zast k20 hw hG d_Switch_reset_116 (gA_some hN19) (ix_some hk20) z21 ?_
      refine J_iinc (v := x1 + 1) d_Switch_reset_117 rfl (by rw [show Int32.ofInt 1 = (1 : Int32) from by decide]) ?_
      refine J.ls (ls' := [some (.ref x0), some (.int (x1 + (1 : Int32)))]) rfl ?_
      refine J_goto (tgt := 82) d_Switch_reset_120 (by decide) ?_
      refine J.drop [true, true] rfl ?_
      exact ih H
def f_Switch_reset_L55 (Γ : gm_T)  : Nat → ph_T → Nat → Int32 → Option (Unit × ph_T)
  | 0, _, _, _ => none
  | fu + 1, φ, x0, x1 =>
    @ite _ (Γ x0 = .inr 10) _ (
    Option.bind (φ.2.2 x0 5) fun a24 =>
    Option.bind (gA Γ a24 3) fun N25 =>
    if (nI N25) ≤ x1 then
      f_Switch_reset_L82 Γ  jF φ x0 (0 : Int32)
    else
      Option.bind (gA Γ a24 3) fun N26 =>
      Option.bind (ix x1 N26) fun k27 =>
      Option.bind (φ.2.2 a24 k27) fun a28 =>
      @ite _ (Γ a28 = .inr 3) _ (
      (f_Switch_reset_L55 Γ  fu) (uI φ a28 3 (0 : Int32)) x0 (x1 + (1 : Int32))
      ) none
    ) none
set_option maxRecDepth 100000 in
set_option maxHeartbeats 4000000 in
theorem p_Switch_reset_L55 {w : jw_T} (hw : jok w) {Γ : gm_T} {n : Nat} (hG : gd w Γ n)  : ∀ (fu : Nat) {x : Bool} {φ : ph_T} {x0 : Nat} {x1 : Int32} {q : Unit × ph_T}, f_Switch_reset_L55 Γ  fu φ x0 x1 = some q → J w M_Switch_reset 55 [some (.ref x0), some (.int x1)] [] (pic Γ φ) n x 0 0 (fq Γ n (.inl none) q.2) := by
  intro fu
  induction fu with
  | zero =>
    intro x φ x0 x1 q H
    cases H
  | succ fu ih =>
    intro x φ x0 x1 q H
    unfold f_Switch_reset_L55 at H
    refine J_iload_n d_Switch_reset_55 rfl ?_
    refine J_aload_n d_Switch_reset_56 rfl ?_
    have g23 : Γ x0 = .inr 10 := by
      apply Classical.byContradiction
      intro q9
      rw [if_neg q9] at H
      cases H
    rw [if_pos g23] at H
    refine F_getR (ci := 10) (k := 5) hG (cf_Switch hw) (fl_Switch_33 hw) (by decide) (by decide) rfl d_Switch_reset_57 g23 ?_
    obtain ⟨a24, ha24, H⟩ := Option.bind_eq_some_iff.mp H
    rw [j_rf ha24]
    obtain ⟨N25, hN25, H⟩ := Option.bind_eq_some_iff.mp H
    refine F_alen hw hG (t := 3) rfl d_Switch_reset_60 (gA_some hN25) ?_
    refine J_icmp_ge (tgt := 80) d_Switch_reset_61 (by decide) ?_ ?_
    · intro c30
      rw [if_pos c30] at H
      refine J_iconst (v := 0) d_Switch_reset_80 (by decide) ?_
      refine J_istore_n d_Switch_reset_81 (Nat.le_of_ble_eq_true rfl) ?_
      refine J.ls (ls' := [some (.ref x0), some (.int (0 : Int32))]) rfl ?_
      refine J.drop [true, true] rfl ?_
      exact p_Switch_reset_L82 hw hG  _ H
    · intro c30
      rw [if_neg c30] at H
      refine J_aload_n d_Switch_reset_64 rfl ?_
      refine F_getR (ci := 10) (k := 5) hG (cf_Switch hw) (fl_Switch_33 hw) (by decide) (by decide) rfl d_Switch_reset_65 g23 ?_
      refine J_iload_n d_Switch_reset_68 rfl ?_
      try rw [j_rf ha24]
      obtain ⟨N26, hN26, H⟩ := Option.bind_eq_some_iff.mp H
      obtain ⟨k27, hk27, H⟩ := Option.bind_eq_some_iff.mp H
      refine F_aald k27 hw hG (t := 3) rfl (by decide) d_Switch_reset_69 (gA_some hN26) (ix_some hk27) ?_
      refine J_iconst (v := 0) d_Switch_reset_70 (by decide) ?_
      obtain ⟨a28, ha28, H⟩ := Option.bind_eq_some_iff.mp H
      rw [j_rf ha28]
      have g29 : Γ a28 = .inr 3 := by
        apply Classical.byContradiction
        intro q9
        rw [if_neg q9] at H
        cases H
      rw [if_pos g29] at H
      refine F_putI (ci := 3) (k := 3) hG (cf_Row hw) (fl_Switch_70 hw) (by decide) (by decide) rfl d_Switch_reset_71 rfl rfl rfl g29 ?_
      refine J_iinc (v := x1 + 1) d_Switch_reset_74 rfl (by rw [show Int32.ofInt 1 = (1 : Int32) from by decide]) ?_
      refine J.ls (ls' := [some (.ref x0), some (.int (x1 + (1 : Int32)))]) rfl ?_
      refine J_goto (tgt := 55) d_Switch_reset_77 (by decide) ?_
      refine J.drop [true, true] rfl ?_
      exact ih H
def f_Switch_reset_L28 (Γ : gm_T)  : Nat → ph_T → Nat → Int32 → Option (Unit × ph_T)
  | 0, _, _, _ => none
  | fu + 1, φ, x0, x1 =>
    @ite _ (Γ x0 = .inr 10) _ (
    Option.bind (φ.2.2 x0 4) fun a32 =>
    Option.bind (gA Γ a32 3) fun N33 =>
    if (nI N33) ≤ x1 then
      f_Switch_reset_L55 Γ  jF φ x0 (0 : Int32)
    else
      Option.bind (gA Γ a32 3) fun N34 =>
      Option.bind (ix x1 N34) fun k35 =>
      Option.bind (φ.2.2 a32 k35) fun a36 =>
      @ite _ (Γ a36 = .inr 3) _ (
      (f_Switch_reset_L28 Γ  fu) (uI φ a36 3 (0 : Int32)) x0 (x1 + (1 : Int32))
      ) none
    ) none
set_option maxRecDepth 100000 in
set_option maxHeartbeats 4000000 in
theorem p_Switch_reset_L28 {w : jw_T} (hw : jok w) {Γ : gm_T} {n : Nat} (hG : gd w Γ n)  : ∀ (fu : Nat) {x : Bool} {φ : ph_T} {x0 : Nat} {x1 : Int32} {q : Unit × ph_T}, f_Switch_reset_L28 Γ  fu φ x0 x1 = some q → J w M_Switch_reset 28 [some (.ref x0), some (.int x1)] [] (pic Γ φ) n x 0 0 (fq Γ n (.inl none) q.2) := by
  intro fu
  induction fu with
  | zero =>
    intro x φ x0 x1 q H
    cases H
  | succ fu ih =>
    intro x φ x0 x1 q H
    unfold f_Switch_reset_L28 at H
    refine J_iload_n d_Switch_reset_28 rfl ?_
    refine J_aload_n d_Switch_reset_29 rfl ?_
    have g31 : Γ x0 = .inr 10 := by
      apply Classical.byContradiction
      intro q9
      rw [if_neg q9] at H
      cases H
    rw [if_pos g31] at H
    refine F_getR (ci := 10) (k := 4) hG (cf_Switch hw) (fl_Switch_29 hw) (by decide) (by decide) rfl d_Switch_reset_30 g31 ?_
    obtain ⟨a32, ha32, H⟩ := Option.bind_eq_some_iff.mp H
    rw [j_rf ha32]
    obtain ⟨N33, hN33, H⟩ := Option.bind_eq_some_iff.mp H
    refine F_alen hw hG (t := 3) rfl d_Switch_reset_33 (gA_some hN33) ?_
    refine J_icmp_ge (tgt := 53) d_Switch_reset_34 (by decide) ?_ ?_
    · intro c38
      rw [if_pos c38] at H
      refine J_iconst (v := 0) d_Switch_reset_53 (by decide) ?_
      refine J_istore_n d_Switch_reset_54 (Nat.le_of_ble_eq_true rfl) ?_
      refine J.ls (ls' := [some (.ref x0), some (.int (0 : Int32))]) rfl ?_
      refine J.drop [true, true] rfl ?_
      exact p_Switch_reset_L55 hw hG  _ H
    · intro c38
      rw [if_neg c38] at H
      refine J_aload_n d_Switch_reset_37 rfl ?_
      refine F_getR (ci := 10) (k := 4) hG (cf_Switch hw) (fl_Switch_29 hw) (by decide) (by decide) rfl d_Switch_reset_38 g31 ?_
      refine J_iload_n d_Switch_reset_41 rfl ?_
      try rw [j_rf ha32]
      obtain ⟨N34, hN34, H⟩ := Option.bind_eq_some_iff.mp H
      obtain ⟨k35, hk35, H⟩ := Option.bind_eq_some_iff.mp H
      refine F_aald k35 hw hG (t := 3) rfl (by decide) d_Switch_reset_42 (gA_some hN34) (ix_some hk35) ?_
      refine J_iconst (v := 0) d_Switch_reset_43 (by decide) ?_
      obtain ⟨a36, ha36, H⟩ := Option.bind_eq_some_iff.mp H
      rw [j_rf ha36]
      have g37 : Γ a36 = .inr 3 := by
        apply Classical.byContradiction
        intro q9
        rw [if_neg q9] at H
        cases H
      rw [if_pos g37] at H
      refine F_putI (ci := 3) (k := 3) hG (cf_Row hw) (fl_Switch_70 hw) (by decide) (by decide) rfl d_Switch_reset_44 rfl rfl rfl g37 ?_
      refine J_iinc (v := x1 + 1) d_Switch_reset_47 rfl (by rw [show Int32.ofInt 1 = (1 : Int32) from by decide]) ?_
      refine J.ls (ls' := [some (.ref x0), some (.int (x1 + (1 : Int32)))]) rfl ?_
      refine J_goto (tgt := 28) d_Switch_reset_50 (by decide) ?_
      refine J.drop [true, true] rfl ?_
      exact ih H
def f_Switch_reset_L2 (Γ : gm_T)  : Nat → ph_T → Nat → Int32 → Option (Unit × ph_T)
  | 0, _, _, _ => none
  | fu + 1, φ, x0, x1 =>
    if (16 : Int32) ≤ x1 then
      f_Switch_reset_L28 Γ  jF φ x0 (0 : Int32)
    else
      @ite _ (Γ x0 = .inr 10) _ (
      @ite _ ((φ.1 x0 1) = 0) _ none (
      Option.bind (φ.2.2 x0 3) fun a41 =>
      Option.bind (gA Γ a41 0) fun N42 =>
      Option.bind (ix x1 N42) fun k43 =>
      (f_Switch_reset_L2 Γ  fu) (uI φ a41 k43 (x1 - x1 / (φ.1 x0 1) * (φ.1 x0 1))) x0 (x1 + (1 : Int32))
      )
      ) none
set_option maxRecDepth 100000 in
set_option maxHeartbeats 4000000 in
theorem p_Switch_reset_L2 {w : jw_T} (hw : jok w) {Γ : gm_T} {n : Nat} (hG : gd w Γ n)  : ∀ (fu : Nat) {x : Bool} {φ : ph_T} {x0 : Nat} {x1 : Int32} {q : Unit × ph_T}, f_Switch_reset_L2 Γ  fu φ x0 x1 = some q → J w M_Switch_reset 2 [some (.ref x0), some (.int x1)] [] (pic Γ φ) n x 0 0 (fq Γ n (.inl none) q.2) := by
  intro fu
  induction fu with
  | zero =>
    intro x φ x0 x1 q H
    cases H
  | succ fu ih =>
    intro x φ x0 x1 q H
    unfold f_Switch_reset_L2 at H
    refine J_iload_n d_Switch_reset_2 rfl ?_
    refine J_bipush (v := 16) d_Switch_reset_3 (by decide) ?_
    refine J_icmp_ge (tgt := 26) d_Switch_reset_5 (by decide) ?_ ?_
    · intro c44
      rw [if_pos c44] at H
      refine J_iconst (v := 0) d_Switch_reset_26 (by decide) ?_
      refine J_istore_n d_Switch_reset_27 (Nat.le_of_ble_eq_true rfl) ?_
      refine J.ls (ls' := [some (.ref x0), some (.int (0 : Int32))]) rfl ?_
      refine J.drop [true, true] rfl ?_
      exact p_Switch_reset_L28 hw hG  _ H
    · intro c44
      rw [if_neg c44] at H
      refine J_aload_n d_Switch_reset_8 rfl ?_
      have g39 : Γ x0 = .inr 10 := by
        apply Classical.byContradiction
        intro q9
        rw [if_neg q9] at H
        cases H
      rw [if_pos g39] at H
      refine F_getR (ci := 10) (k := 3) hG (cf_Switch hw) (fl_Switch_9 hw) (by decide) (by decide) rfl d_Switch_reset_9 g39 ?_
      refine J_iload_n d_Switch_reset_12 rfl ?_
      refine J_iload_n d_Switch_reset_13 rfl ?_
      refine J_aload_n d_Switch_reset_14 rfl ?_
      refine F_getI (ci := 10) (k := 1) hG (cf_Switch hw) (fl_Switch_19 hw) (by decide) (by decide) rfl d_Switch_reset_15 g39 ?_
      have h40 : ¬ (φ.1 x0 1) = 0 := by
        intro q9
        rw [if_pos q9] at H
        cases H
      rw [if_neg h40] at H
      refine J_irem d_Switch_reset_18 h40 ?_
      obtain ⟨a41, ha41, H⟩ := Option.bind_eq_some_iff.mp H
      rw [j_rf ha41]
      obtain ⟨N42, hN42, H⟩ := Option.bind_eq_some_iff.mp H
      obtain ⟨k43, hk43, H⟩ := Option.bind_eq_some_iff.mp H
      refine F_iast k43 hw hG d_Switch_reset_19 (gA_some hN42) (ix_some hk43) ?_
      refine J_iinc (v := x1 + 1) d_Switch_reset_20 rfl (by rw [show Int32.ofInt 1 = (1 : Int32) from by decide]) ?_
      refine J.ls (ls' := [some (.ref x0), some (.int (x1 + (1 : Int32)))]) rfl ?_
      refine J_goto (tgt := 2) d_Switch_reset_23 (by decide) ?_
      refine J.drop [true, true] rfl ?_
      exact ih H
def f_Switch_reset (Γ : gm_T) (φ : ph_T) (this : Nat) : Option (Unit × ph_T) :=
  f_Switch_reset_L2 Γ  jF φ this (0 : Int32)
set_option maxRecDepth 100000 in
set_option maxHeartbeats 4000000 in
theorem p_Switch_reset {w : jw_T} (hw : jok w) {Γ : gm_T} {n : Nat} (hG : gd w Γ n) {x : Bool} {φ : ph_T} {this : Nat} {q : Unit × ph_T} (H : f_Switch_reset Γ φ this = some q) : jc w M_Switch_reset [.ref this] (pic Γ φ) n x 0 0 (fq Γ n (.inl none) q.2) := by
  refine jc.of (by simp only [jent_r, jent_i, jent_l, jent_a, jent_0]; exact Nat.le_of_ble_eq_true rfl) ?_
  have hls : jents [.ref this] (jm_nL M_Switch_reset) = [some (.ref this), none] := by simp only [jents, jent_r, jent_i, jent_l, jent_a, jent_0]; rfl
  rw [hls]
  clear hls
  unfold f_Switch_reset at H
  refine J_iconst (v := 0) d_Switch_reset_0 (by decide) ?_
  refine J_istore_n d_Switch_reset_1 (Nat.le_of_ble_eq_true rfl) ?_
  refine J.ls (ls' := [some (.ref this), some (.int (0 : Int32))]) rfl ?_
  refine J.drop [true, true] rfl ?_
  exact p_Switch_reset_L2 hw hG  _ H
theorem ln_Bus_openRequests : (parseMethodDescriptor y_Bus_openRequests.desc).map (fun q => q.parameters.length) = some 0 := by decide +kernel
def f_Bus_openRequests_L4 (Γ : gm_T)  : Nat → ph_T → Nat → Int32 → Int32 → Option (Int32 × ph_T)
  | 0, _, _, _, _ => none
  | fu + 1, φ, x0, x1, x2 =>
    @ite _ (Γ x0 = .inr 11) _ (
    Option.bind (φ.2.2 x0 2) fun a2 =>
    Option.bind (gA Γ a2 8) fun N3 =>
    if (nI N3) ≤ x2 then
      some (x1, φ)
    else
      Option.bind (gA Γ a2 8) fun N4 =>
      Option.bind (ix x2 N4) fun k5 =>
      Option.bind (φ.2.2 a2 k5) fun a6 =>
      @ite _ (Γ a6 = .inr 7) _ (
      (f_Bus_openRequests_L4 Γ  fu) φ x0 (x1 + (φ.1 a6 9)) (x2 + (1 : Int32))
      ) none
    ) none
set_option maxRecDepth 100000 in
set_option maxHeartbeats 4000000 in
theorem p_Bus_openRequests_L4 {w : jw_T} (hw : jok w) {Γ : gm_T} {n : Nat} (hG : gd w Γ n)  : ∀ (fu : Nat) {x : Bool} {φ : ph_T} {x0 : Nat} {x1 : Int32} {x2 : Int32} {q : Int32 × ph_T}, f_Bus_openRequests_L4 Γ  fu φ x0 x1 x2 = some q → J w M_Bus_openRequests 4 [some (.ref x0), some (.int x1), some (.int x2)] [] (pic Γ φ) n x 0 0 (fq Γ n (.inl (some (.int q.1))) q.2) := by
  intro fu
  induction fu with
  | zero =>
    intro x φ x0 x1 x2 q H
    cases H
  | succ fu ih =>
    intro x φ x0 x1 x2 q H
    unfold f_Bus_openRequests_L4 at H
    refine J_iload_n d_Bus_openRequests_4 rfl ?_
    refine J_aload_n d_Bus_openRequests_5 rfl ?_
    have g1 : Γ x0 = .inr 11 := by
      apply Classical.byContradiction
      intro q9
      rw [if_neg q9] at H
      cases H
    rw [if_pos g1] at H
    refine F_getR (ci := 11) (k := 2) hG (cf_Bus hw) (fl_Bus_31 hw) (by decide) (by decide) rfl d_Bus_openRequests_6 g1 ?_
    obtain ⟨a2, ha2, H⟩ := Option.bind_eq_some_iff.mp H
    rw [j_rf ha2]
    obtain ⟨N3, hN3, H⟩ := Option.bind_eq_some_iff.mp H
    refine F_alen hw hG (t := 8) rfl d_Bus_openRequests_9 (gA_some hN3) ?_
    refine J_icmp_ge (tgt := 31) d_Bus_openRequests_10 (by decide) ?_ ?_
    · intro c8
      rw [if_pos c8] at H
      refine J_iload_n d_Bus_openRequests_31 rfl ?_
      have H := Option.some.inj H
      subst H
      exact J_iret (st := []) d_Bus_openRequests_32 rfl rfl ⟨rfl, rfl, rfl⟩
    · intro c8
      rw [if_neg c8] at H
      refine J_iload_n d_Bus_openRequests_13 rfl ?_
      refine J_aload_n d_Bus_openRequests_14 rfl ?_
      refine F_getR (ci := 11) (k := 2) hG (cf_Bus hw) (fl_Bus_31 hw) (by decide) (by decide) rfl d_Bus_openRequests_15 g1 ?_
      refine J_iload_n d_Bus_openRequests_18 rfl ?_
      try rw [j_rf ha2]
      obtain ⟨N4, hN4, H⟩ := Option.bind_eq_some_iff.mp H
      obtain ⟨k5, hk5, H⟩ := Option.bind_eq_some_iff.mp H
      refine F_aald k5 hw hG (t := 8) rfl (by decide) d_Bus_openRequests_19 (gA_some hN4) (ix_some hk5) ?_
      obtain ⟨a6, ha6, H⟩ := Option.bind_eq_some_iff.mp H
      rw [j_rf ha6]
      have g7 : Γ a6 = .inr 7 := by
        apply Classical.byContradiction
        intro q9
        rw [if_neg q9] at H
        cases H
      rw [if_pos g7] at H
      refine F_getI (ci := 7) (k := 9) hG (cf_Master hw) (fl_Bus_334 hw) (by decide) (by decide) rfl d_Bus_openRequests_20 g7 ?_
      refine J_iadd d_Bus_openRequests_23 ?_
      refine J_istore_n d_Bus_openRequests_24 (Nat.le_of_ble_eq_true rfl) ?_
      refine J.ls (ls' := [some (.ref x0), some (.int (x1 + (φ.1 a6 9))), some (.int x2)]) rfl ?_
      refine J_iinc (v := x2 + 1) d_Bus_openRequests_25 rfl (by rw [show Int32.ofInt 1 = (1 : Int32) from by decide]) ?_
      refine J.ls (ls' := [some (.ref x0), some (.int (x1 + (φ.1 a6 9))), some (.int (x2 + (1 : Int32)))]) rfl ?_
      refine J_goto (tgt := 4) d_Bus_openRequests_28 (by decide) ?_
      refine J.drop [true, true, true] rfl ?_
      exact ih H
def f_Bus_openRequests (Γ : gm_T) (φ : ph_T) (this : Nat) : Option (Int32 × ph_T) :=
  f_Bus_openRequests_L4 Γ  jF φ this (0 : Int32) (0 : Int32)
set_option maxRecDepth 100000 in
set_option maxHeartbeats 4000000 in
theorem p_Bus_openRequests {w : jw_T} (hw : jok w) {Γ : gm_T} {n : Nat} (hG : gd w Γ n) {x : Bool} {φ : ph_T} {this : Nat} {q : Int32 × ph_T} (H : f_Bus_openRequests Γ φ this = some q) : jc w M_Bus_openRequests [.ref this] (pic Γ φ) n x 0 0 (fq Γ n (.inl (some (.int q.1))) q.2) := by
  refine jc.of (by simp only [jent_r, jent_i, jent_l, jent_a, jent_0]; exact Nat.le_of_ble_eq_true rfl) ?_
  have hls : jents [.ref this] (jm_nL M_Bus_openRequests) = [some (.ref this), none, none] := by simp only [jents, jent_r, jent_i, jent_l, jent_a, jent_0]; rfl
  rw [hls]
  clear hls
  unfold f_Bus_openRequests at H
  refine J_iconst (v := 0) d_Bus_openRequests_0 (by decide) ?_
  refine J_istore_n d_Bus_openRequests_1 (Nat.le_of_ble_eq_true rfl) ?_
  refine J.ls (ls' := [some (.ref this), some (.int (0 : Int32)), none]) rfl ?_
  refine J_iconst (v := 0) d_Bus_openRequests_2 (by decide) ?_
  refine J_istore_n d_Bus_openRequests_3 (Nat.le_of_ble_eq_true rfl) ?_
  refine J.ls (ls' := [some (.ref this), some (.int (0 : Int32)), some (.int (0 : Int32))]) rfl ?_
  refine J.drop [true, true, true] rfl ?_
  exact p_Bus_openRequests_L4 hw hG  _ H
theorem ln_Bus_told : (parseMethodDescriptor y_Bus_told.desc).map (fun q => q.parameters.length) = some 1 := by decide +kernel
def f_Bus_told (Γ : gm_T) (φ : ph_T) (this : Nat) (p0 : Int32) : Option (Int32 × ph_T) :=
  if p0 = 0 then
    @ite _ (Γ this = .inr 11) _ (
    some ((φ.1 this 9), φ)
    ) none
  else
    if p0 = 1 then
      @ite _ (Γ this = .inr 11) _ (
      some ((φ.1 this 8), φ)
      ) none
    else
      if p0 = 2 then
        @ite _ (Γ this = .inr 11) _ (
        Option.bind (f_Bus_openRequests Γ φ this) fun q4 =>
        some (q4.1, q4.2)
        ) none
      else
        if p0 = 3 then
          @ite _ (Γ this = .inr 11) _ (
          Option.bind (φ.2.2 this 2) fun a6 =>
          Option.bind (gA Γ a6 8) fun N7 =>
          some ((nI N7), φ)
          ) none
        else
          if p0 = 4 then
            @ite _ (Γ this = .inr 11) _ (
            Option.bind (φ.2.2 this 3) fun a9 =>
            Option.bind (gA Γ a9 9) fun N10 =>
            some ((nI N10), φ)
            ) none
          else
            if p0 = 5 then
              @ite _ (Γ this = .inr 11) _ (
              Option.bind (φ.2.2 this 1) fun a12 =>
              @ite _ (Γ a12 = .inr 10) _ (
              some ((φ.1 a12 2), φ)
              ) none
              ) none
            else
              if p0 = 6 then
                @ite _ (Γ this = .inr 11) _ (
                Option.bind (φ.2.2 this 1) fun a15 =>
                @ite _ (Γ a15 = .inr 10) _ (
                some ((φ.1 a15 13), φ)
                ) none
                ) none
              else
                some ((-1 : Int32), φ)
set_option maxRecDepth 100000 in
set_option maxHeartbeats 4000000 in
theorem p_Bus_told {w : jw_T} (hw : jok w) {Γ : gm_T} {n : Nat} (hG : gd w Γ n) {x : Bool} {φ : ph_T} {this : Nat} {p0 : Int32} {q : Int32 × ph_T} (H : f_Bus_told Γ φ this p0 = some q) : jc w M_Bus_told [.ref this, .int p0] (pic Γ φ) n x 0 0 (fq Γ n (.inl (some (.int q.1))) q.2) := by
  refine jc.of (by simp only [jent_r, jent_i, jent_l, jent_a, jent_0]; exact Nat.le_of_ble_eq_true rfl) ?_
  have hls : jents [.ref this, .int p0] (jm_nL M_Bus_told) = [some (.ref this), some (.int p0)] := by simp only [jents, jent_r, jent_i, jent_l, jent_a, jent_0]; rfl
  rw [hls]
  clear hls
  unfold f_Bus_told at H
  refine J_iload_n d_Bus_told_0 rfl ?_
  by_cases c17 : p0 = 0
  · rw [if_pos c17] at H
    refine J_table (off := 43) (tgt := 44) d_Bus_told_1 (by rw [c17]; decide) (by decide) ?_
    refine J_aload_n d_Bus_told_44 rfl ?_
    have g1 : Γ this = .inr 11 := by
      apply Classical.byContradiction
      intro q9
      rw [if_neg q9] at H
      cases H
    rw [if_pos g1] at H
    refine F_getI (ci := 11) (k := 9) hG (cf_Bus hw) (fl_Bus_159 hw) (by decide) (by decide) rfl d_Bus_told_45 g1 ?_
    have H := Option.some.inj H
    subst H
    exact J_iret (st := []) d_Bus_told_48 rfl rfl ⟨rfl, rfl, rfl⟩
  · rw [if_neg c17] at H
    by_cases c18 : p0 = 1
    · rw [if_pos c18] at H
      refine J_table (off := 48) (tgt := 49) d_Bus_told_1 (by rw [c18]; decide) (by decide) ?_
      refine J_aload_n d_Bus_told_49 rfl ?_
      have g2 : Γ this = .inr 11 := by
        apply Classical.byContradiction
        intro q9
        rw [if_neg q9] at H
        cases H
      rw [if_pos g2] at H
      refine F_getI (ci := 11) (k := 8) hG (cf_Bus hw) (fl_Bus_147 hw) (by decide) (by decide) rfl d_Bus_told_50 g2 ?_
      have H := Option.some.inj H
      subst H
      exact J_iret (st := []) d_Bus_told_53 rfl rfl ⟨rfl, rfl, rfl⟩
    · rw [if_neg c18] at H
      by_cases c19 : p0 = 2
      · rw [if_pos c19] at H
        refine J_table (off := 53) (tgt := 54) d_Bus_told_1 (by rw [c19]; decide) (by decide) ?_
        refine J_aload_n d_Bus_told_54 rfl ?_
        have g3 : Γ this = .inr 11 := by
          apply Classical.byContradiction
          intro q9
          rw [if_neg q9] at H
          cases H
        rw [if_pos g3] at H
        obtain ⟨q4, hq4, H⟩ := Option.bind_eq_some_iff.mp H
        refine J_callV (kc := 0) (ks := 0) (kc' := 0) (ks' := 0) (a := this) (ci := 11) (as := []) (st := []) (mf_Bus_openRequests hw) (mv_Bus_69 hw) d_Bus_told_55 ln_Bus_openRequests (by decide) (by first | exact Nat.le_of_ble_eq_true rfl | (simp only [List.map_cons, List.map_nil, List.sum_cons, List.sum_nil, va_rf_cat]; exact Nat.le_of_ble_eq_true rfl)) rfl ((hG _).1 _ g3 (by decide)).1 ((hG _).1 _ g3 (by decide)).2 (by unfold pic; rw [g3]; rfl) (jcl_at hw rfl) rfl (p_Bus_openRequests hw hG hq4) ?_ (fun E h' n' x' e1 => by cases e1.1)
        intro v9 h9 n9 x9 e9
        obtain ⟨e91, e92, e93⟩ := e9
        cases e91
        subst e92
        subst e93
        clear x
        rename Bool => x
        show J _ _ _ _ (_ :: _) _ _ _ _ _ _
        have H := Option.some.inj H
        subst H
        exact J_iret (st := []) d_Bus_told_58 rfl rfl ⟨rfl, rfl, rfl⟩
      · rw [if_neg c19] at H
        by_cases c20 : p0 = 3
        · rw [if_pos c20] at H
          refine J_table (off := 58) (tgt := 59) d_Bus_told_1 (by rw [c20]; decide) (by decide) ?_
          refine J_aload_n d_Bus_told_59 rfl ?_
          have g5 : Γ this = .inr 11 := by
            apply Classical.byContradiction
            intro q9
            rw [if_neg q9] at H
            cases H
          rw [if_pos g5] at H
          refine F_getR (ci := 11) (k := 2) hG (cf_Bus hw) (fl_Bus_31 hw) (by decide) (by decide) rfl d_Bus_told_60 g5 ?_
          obtain ⟨a6, ha6, H⟩ := Option.bind_eq_some_iff.mp H
          rw [j_rf ha6]
          obtain ⟨N7, hN7, H⟩ := Option.bind_eq_some_iff.mp H
          refine F_alen hw hG (t := 8) rfl d_Bus_told_63 (gA_some hN7) ?_
          have H := Option.some.inj H
          subst H
          exact J_iret (st := []) d_Bus_told_64 rfl rfl ⟨rfl, rfl, rfl⟩
        · rw [if_neg c20] at H
          by_cases c21 : p0 = 4
          · rw [if_pos c21] at H
            refine J_table (off := 64) (tgt := 65) d_Bus_told_1 (by rw [c21]; decide) (by decide) ?_
            refine J_aload_n d_Bus_told_65 rfl ?_
            have g8 : Γ this = .inr 11 := by
              apply Classical.byContradiction
              intro q9
              rw [if_neg q9] at H
              cases H
            rw [if_pos g8] at H
            refine F_getR (ci := 11) (k := 3) hG (cf_Bus hw) (fl_Bus_45 hw) (by decide) (by decide) rfl d_Bus_told_66 g8 ?_
            obtain ⟨a9, ha9, H⟩ := Option.bind_eq_some_iff.mp H
            rw [j_rf ha9]
            obtain ⟨N10, hN10, H⟩ := Option.bind_eq_some_iff.mp H
            refine F_alen hw hG (t := 9) rfl d_Bus_told_69 (gA_some hN10) ?_
            have H := Option.some.inj H
            subst H
            exact J_iret (st := []) d_Bus_told_70 rfl rfl ⟨rfl, rfl, rfl⟩
          · rw [if_neg c21] at H
            by_cases c22 : p0 = 5
            · rw [if_pos c22] at H
              refine J_table (off := 70) (tgt := 71) d_Bus_told_1 (by rw [c22]; decide) (by decide) ?_
              refine J_aload_n d_Bus_told_71 rfl ?_
              have g11 : Γ this = .inr 11 := by
                apply Classical.byContradiction
                intro q9
                rw [if_neg q9] at H
                cases H
              rw [if_pos g11] at H
              refine F_getR (ci := 11) (k := 1) hG (cf_Bus hw) (fl_Bus_25 hw) (by decide) (by decide) rfl d_Bus_told_72 g11 ?_
              obtain ⟨a12, ha12, H⟩ := Option.bind_eq_some_iff.mp H
              rw [j_rf ha12]
              have g13 : Γ a12 = .inr 10 := by
                apply Classical.byContradiction
                intro q9
                rw [if_neg q9] at H
                cases H
              rw [if_pos g13] at H
              refine F_getI (ci := 10) (k := 2) hG (cf_Switch hw) (fl_Bus_261 hw) (by decide) (by decide) rfl d_Bus_told_75 g13 ?_
              have H := Option.some.inj H
              subst H
              exact J_iret (st := []) d_Bus_told_78 rfl rfl ⟨rfl, rfl, rfl⟩
            · rw [if_neg c22] at H
              by_cases c23 : p0 = 6
              · rw [if_pos c23] at H
                refine J_table (off := 78) (tgt := 79) d_Bus_told_1 (by rw [c23]; decide) (by decide) ?_
                refine J_aload_n d_Bus_told_79 rfl ?_
                have g14 : Γ this = .inr 11 := by
                  apply Classical.byContradiction
                  intro q9
                  rw [if_neg q9] at H
                  cases H
                rw [if_pos g14] at H
                refine F_getR (ci := 11) (k := 1) hG (cf_Bus hw) (fl_Bus_25 hw) (by decide) (by decide) rfl d_Bus_told_80 g14 ?_
                obtain ⟨a15, ha15, H⟩ := Option.bind_eq_some_iff.mp H
                rw [j_rf ha15]
                have g16 : Γ a15 = .inr 10 := by
                  apply Classical.byContradiction
                  intro q9
                  rw [if_neg q9] at H
                  cases H
                rw [if_pos g16] at H
                refine F_getI (ci := 10) (k := 13) hG (cf_Switch hw) (fl_Bus_87 hw) (by decide) (by decide) rfl d_Bus_told_83 g16 ?_
                have H := Option.some.inj H
                subst H
                exact J_iret (st := []) d_Bus_told_86 rfl rfl ⟨rfl, rfl, rfl⟩
              · rw [if_neg c23] at H
                refine J_table (off := 86) (tgt := 87) d_Bus_told_1 (by
                    rw [if_pos (by
                      apply Classical.byContradiction
                      intro h9
                      have h8 : (p0).toInt = 0 ∨ (p0).toInt = 1 ∨ (p0).toInt = 2 ∨ (p0).toInt = 3 ∨ (p0).toInt = 4 ∨ (p0).toInt = 5 ∨ (p0).toInt = 6 := by omega
                      rcases h8 with h8 | h8 | h8 | h8 | h8 | h8 | h8
                      · exact c17 (j_inj (by rw [h8]; decide))
                      · exact c18 (j_inj (by rw [h8]; decide))
                      · exact c19 (j_inj (by rw [h8]; decide))
                      · exact c20 (j_inj (by rw [h8]; decide))
                      · exact c21 (j_inj (by rw [h8]; decide))
                      · exact c22 (j_inj (by rw [h8]; decide))
                      · exact c23 (j_inj (by rw [h8]; decide)))]) (by decide) ?_
                refine J_iconst (v := -1) d_Bus_told_87 (by decide) ?_
                have H := Option.some.inj H
                subst H
                exact J_iret (st := []) d_Bus_told_88 rfl rfl ⟨rfl, rfl, rfl⟩
theorem ln_Arrays_fill2 : (parseMethodDescriptor y_Arrays_fill2.desc).map (fun q => q.parameters.length) = some 2 := by decide +kernel
def f_Arrays_fill2_L6 (Γ : gm_T)  : Nat → ph_T → Option Nat → Int64 → Int32 → Int32 → Option (Unit × ph_T)
  | 0, _, _, _, _, _ => none
  | fu + 1, φ, x0, x1, x3, x4 =>
    if x4 ≤ x3 then
      some ((), φ)
    else
      Option.bind x0 fun a1 =>
      Option.bind (gA Γ a1 1) fun N2 =>
      Option.bind (ix x3 N2) fun k3 =>
      (f_Arrays_fill2_L6 Γ  fu) (uL φ a1 k3 x1) (some a1) x1 (x3 + (1 : Int32)) x4
set_option maxRecDepth 100000 in
set_option maxHeartbeats 4000000 in
theorem p_Arrays_fill2_L6 {w : jw_T} (hw : jok w) {Γ : gm_T} {n : Nat} (hG : gd w Γ n)  : ∀ (fu : Nat) {x : Bool} {φ : ph_T} {x0 : Option Nat} {x1 : Int64} {x3 : Int32} {x4 : Int32} {q : Unit × ph_T}, f_Arrays_fill2_L6 Γ  fu φ x0 x1 x3 x4 = some q → J w M_Arrays_fill2 6 [some (va_rf x0), some (.long x1), none, some (.int x3), some (.int x4)] [] (pic Γ φ) n x 0 0 (fq Γ n (.inl none) q.2) := by
  intro fu
  induction fu with
  | zero =>
    intro x φ x0 x1 x3 x4 q H
    cases H
  | succ fu ih =>
    intro x φ x0 x1 x3 x4 q H
    unfold f_Arrays_fill2_L6 at H
    refine J_iload_n d_Arrays_fill2_6 rfl ?_
    refine J_iload d_Arrays_fill2_7 rfl ?_
    refine J_icmp_ge (tgt := 22) d_Arrays_fill2_9 (by decide) ?_ ?_
    · intro c4
      rw [if_pos c4] at H
      have H := Option.some.inj H
      subst H
      exact J_vret (st := []) d_Arrays_fill2_22 rfl ⟨rfl, rfl, rfl⟩
    · intro c4
      rw [if_neg c4] at H
      refine J_aload_nO d_Arrays_fill2_12 rfl ?_
      refine J_iload_n d_Arrays_fill2_13 rfl ?_
      refine J_lload_n d_Arrays_fill2_14 rfl ?_
      obtain ⟨a1, ha1, H⟩ := Option.bind_eq_some_iff.mp H
      rw [j_rf ha1]
      obtain ⟨N2, hN2, H⟩ := Option.bind_eq_some_iff.mp H
      obtain ⟨k3, hk3, H⟩ := Option.bind_eq_some_iff.mp H
      refine F_last k3 hw hG d_Arrays_fill2_15 (gA_some hN2) (ix_some hk3) ?_
      refine J_iinc (v := x3 + 1) d_Arrays_fill2_16 rfl (by rw [show Int32.ofInt 1 = (1 : Int32) from by decide]) ?_
      refine J.ls (ls' := [some (.ref a1), some (.long x1), none, some (.int (x3 + (1 : Int32))), some (.int x4)]) rfl ?_
      refine J_goto (tgt := 6) d_Arrays_fill2_19 (by decide) ?_
      refine J.drop [true, true, false, true, true] rfl ?_
      exact ih H
def f_Arrays_fill2 (Γ : gm_T) (φ : ph_T) (p0 : Option Nat) (p1 : Int64) : Option (Unit × ph_T) :=
  Option.bind p0 fun a5 =>
  Option.bind (gA Γ a5 1) fun N6 =>
  f_Arrays_fill2_L6 Γ  jF φ (some a5) p1 (0 : Int32) (nI N6)
set_option maxRecDepth 100000 in
set_option maxHeartbeats 4000000 in
theorem p_Arrays_fill2 {w : jw_T} (hw : jok w) {Γ : gm_T} {n : Nat} (hG : gd w Γ n) {x : Bool} {φ : ph_T} {p0 : Option Nat} {p1 : Int64} {q : Unit × ph_T} (H : f_Arrays_fill2 Γ φ p0 p1 = some q) : jc w M_Arrays_fill2 [va_rf p0, .long p1] (pic Γ φ) n x 0 0 (fq Γ n (.inl none) q.2) := by
  refine jc.of (by simp only [jent_r, jent_i, jent_l, jent_a, jent_0]; exact Nat.le_of_ble_eq_true rfl) ?_
  have hls : jents [va_rf p0, .long p1] (jm_nL M_Arrays_fill2) = [some (va_rf p0), some (.long p1), none, none, none] := by simp only [jents, jent_r, jent_i, jent_l, jent_a, jent_0]; rfl
  rw [hls]
  clear hls
  unfold f_Arrays_fill2 at H
  refine J_iconst (v := 0) d_Arrays_fill2_0 (by decide) ?_
  refine J_istore_n d_Arrays_fill2_1 (Nat.le_of_ble_eq_true rfl) ?_
  refine J.ls (ls' := [some (va_rf p0), some (.long p1), none, some (.int (0 : Int32)), none]) rfl ?_
  refine J_aload_nO d_Arrays_fill2_2 rfl ?_
  obtain ⟨a5, ha5, H⟩ := Option.bind_eq_some_iff.mp H
  rw [j_rf ha5]
  obtain ⟨N6, hN6, H⟩ := Option.bind_eq_some_iff.mp H
  refine F_alen hw hG (t := 1) rfl d_Arrays_fill2_3 (gA_some hN6) ?_
  refine J_istore d_Arrays_fill2_4 (Nat.le_of_ble_eq_true rfl) ?_
  refine J.ls (ls' := [some (.ref a5), some (.long p1), none, some (.int (0 : Int32)), some (.int (nI N6))]) rfl ?_
  refine J.drop [true, true, false, true, true] rfl ?_
  exact p_Arrays_fill2_L6 hw hG  _ H
theorem ln_Memory_reset : (parseMethodDescriptor y_Memory_reset.desc).map (fun q => q.parameters.length) = some 0 := by decide +kernel
def f_Memory_reset (Γ : gm_T) (φ : ph_T) (this : Nat) : Option (Unit × ph_T) :=
  @ite _ (Γ this = .inr 2) _ (
  Option.bind (f_Arrays_fill2 Γ φ (φ.2.2 this 0) (0 : Int64)) fun q2 =>
  Option.bind (f_Arrays_fill2 Γ q2.2 (q2.2.2.2 this 1) (0 : Int64)) fun q3 =>
  some ((), q3.2)
  ) none
set_option maxRecDepth 100000 in
set_option maxHeartbeats 4000000 in
theorem p_Memory_reset {w : jw_T} (hw : jok w) {Γ : gm_T} {n : Nat} (hG : gd w Γ n) {x : Bool} {φ : ph_T} {this : Nat} {q : Unit × ph_T} (H : f_Memory_reset Γ φ this = some q) : jc w M_Memory_reset [.ref this] (pic Γ φ) n x 0 0 (fq Γ n (.inl none) q.2) := by
  refine jc.of (by simp only [jent_r, jent_i, jent_l, jent_a, jent_0]; exact Nat.le_of_ble_eq_true rfl) ?_
  have hls : jents [.ref this] (jm_nL M_Memory_reset) = [some (.ref this)] := by simp only [jents, jent_r, jent_i, jent_l, jent_a, jent_0]; rfl
  rw [hls]
  clear hls
  unfold f_Memory_reset at H
  refine J_aload_n d_Memory_reset_0 rfl ?_
  have g1 : Γ this = .inr 2 := by
    apply Classical.byContradiction
    intro q9
    rw [if_neg q9] at H
    cases H
  rw [if_pos g1] at H
  refine F_getR (ci := 2) (k := 0) hG (cf_Memory hw) (fl_Memory_9 hw) (by decide) (by decide) rfl d_Memory_reset_1 g1 ?_
  refine J_lconst (v := 0) d_Memory_reset_4 (by decide) ?_
  obtain ⟨q2, hq2, H⟩ := Option.bind_eq_some_iff.mp H
  refine J_callS (kc := 0) (ks := 0) (kc' := 0) (ks' := 0) (as := [va_rf (φ.2.2 this 0), .long (0 : Int64)]) (st := []) (mf_Arrays_fill2 hw) (ms_Memory_18 hw) d_Memory_reset_5 ln_Arrays_fill2 (by decide) (by first | exact Nat.le_of_ble_eq_true rfl | (simp only [List.map_cons, List.map_nil, List.sum_cons, List.sum_nil, va_rf_cat]; exact Nat.le_of_ble_eq_true rfl)) rfl (p_Arrays_fill2 hw hG hq2) ?_ (fun E h' n' x' e1 => by cases e1.1)
  intro v9 h9 n9 x9 e9
  obtain ⟨e91, e92, e93⟩ := e9
  cases e91
  subst e92
  subst e93
  clear x
  rename Bool => x
  show J _ _ _ _ [] _ _ _ _ _ _
  refine J_aload_n d_Memory_reset_8 rfl ?_
  refine F_getR (ci := 2) (k := 1) hG (cf_Memory hw) (fl_Memory_15 hw) (by decide) (by decide) rfl d_Memory_reset_9 g1 ?_
  refine J_lconst (v := 0) d_Memory_reset_12 (by decide) ?_
  obtain ⟨q3, hq3, H⟩ := Option.bind_eq_some_iff.mp H
  refine J_callS (kc := 0) (ks := 0) (kc' := 0) (ks' := 0) (as := [va_rf (q2.2.2.2 this 1), .long (0 : Int64)]) (st := []) (mf_Arrays_fill2 hw) (ms_Memory_18 hw) d_Memory_reset_13 ln_Arrays_fill2 (by decide) (by first | exact Nat.le_of_ble_eq_true rfl | (simp only [List.map_cons, List.map_nil, List.sum_cons, List.sum_nil, va_rf_cat]; exact Nat.le_of_ble_eq_true rfl)) rfl (p_Arrays_fill2 hw hG hq3) ?_ (fun E h' n' x' e1 => by cases e1.1)
  intro v9 h9 n9 x9 e9
  obtain ⟨e91, e92, e93⟩ := e9
  cases e91
  subst e92
  subst e93
  clear x
  rename Bool => x
  show J _ _ _ _ [] _ _ _ _ _ _
  have H := Option.some.inj H
  subst H
  exact J_vret (st := []) d_Memory_reset_16 rfl ⟨rfl, rfl, rfl⟩
theorem ln_Master_resetSettings : (parseMethodDescriptor y_Master_resetSettings.desc).map (fun q => q.parameters.length) = some 0 := by decide +kernel
def f_Master_resetSettings (Γ : gm_T) (φ : ph_T) (this : Nat) : Option (Unit × ph_T) :=
  @ite _ (Γ this = .inr 7) _ (
  Option.bind (f_Arrays_fill1 Γ φ (φ.2.2 this 0) (65535 : Int32)) fun q2 =>
  @ite _ ((0 : Int32) = 0 ∨ (0 : Int32) = 1) _ (
  some ((), (uI q2.2 this 1 (0 : Int32)))
  ) none
  ) none
set_option maxRecDepth 100000 in
set_option maxHeartbeats 4000000 in
theorem p_Master_resetSettings {w : jw_T} (hw : jok w) {Γ : gm_T} {n : Nat} (hG : gd w Γ n) {x : Bool} {φ : ph_T} {this : Nat} {q : Unit × ph_T} (H : f_Master_resetSettings Γ φ this = some q) : jc w M_Master_resetSettings [.ref this] (pic Γ φ) n x 0 0 (fq Γ n (.inl none) q.2) := by
  refine jc.of (by simp only [jent_r, jent_i, jent_l, jent_a, jent_0]; exact Nat.le_of_ble_eq_true rfl) ?_
  have hls : jents [.ref this] (jm_nL M_Master_resetSettings) = [some (.ref this)] := by simp only [jents, jent_r, jent_i, jent_l, jent_a, jent_0]; rfl
  rw [hls]
  clear hls
  unfold f_Master_resetSettings at H
  refine J_aload_n d_Master_resetSettings_0 rfl ?_
  have g1 : Γ this = .inr 7 := by
    apply Classical.byContradiction
    intro q9
    rw [if_neg q9] at H
    cases H
  rw [if_pos g1] at H
  refine F_getR (ci := 7) (k := 0) hG (cf_Master hw) (fl_Master_9 hw) (by decide) (by decide) rfl d_Master_resetSettings_1 g1 ?_
  refine J_ldc (v := 65535) d_Master_resetSettings_4 (kn_Master_24 hw) ?_
  obtain ⟨q2, hq2, H⟩ := Option.bind_eq_some_iff.mp H
  refine J_callS (kc := 0) (ks := 0) (kc' := 0) (ks' := 0) (as := [va_rf (φ.2.2 this 0), .int (65535 : Int32)]) (st := []) (mf_Arrays_fill1 hw) (ms_Master_25 hw) d_Master_resetSettings_6 ln_Arrays_fill1 (by decide) (by first | exact Nat.le_of_ble_eq_true rfl | (simp only [List.map_cons, List.map_nil, List.sum_cons, List.sum_nil, va_rf_cat]; exact Nat.le_of_ble_eq_true rfl)) rfl (p_Arrays_fill1 hw hG hq2) ?_ (fun E h' n' x' e1 => by cases e1.1)
  intro v9 h9 n9 x9 e9
  obtain ⟨e91, e92, e93⟩ := e9
  cases e91
  subst e92
  subst e93
  clear x
  rename Bool => x
  show J _ _ _ _ [] _ _ _ _ _ _
  refine J_aload_n d_Master_resetSettings_9 rfl ?_
  refine J_iconst (v := 0) d_Master_resetSettings_10 (by decide) ?_
  have z3 : (0 : Int32) = 0 ∨ (0 : Int32) = 1 := by
    apply Classical.byContradiction
    intro q9
    rw [if_neg q9] at H
    cases H
  rw [if_pos z3] at H
  refine F_putI (ci := 7) (k := 1) hG (cf_Master hw) (fl_Master_31 hw) (by decide) (by decide) rfl d_Master_resetSettings_11 rfl (narrow_z z3).1 (narrow_z z3).2 g1 ?_
  have H := Option.some.inj H
  subst H
  exact J_vret (st := []) d_Master_resetSettings_14 rfl ⟨rfl, rfl, rfl⟩
theorem ln_Port_silence : (parseMethodDescriptor y_Port_silence.desc).map (fun q => q.parameters.length) = some 1 := by decide +kernel
def f_Port_silence (Γ : gm_T) (φ : ph_T) (this : Nat) (p0 : Int32) : Option (Unit × ph_T) :=
  @ite _ (Γ this = .inr 5) _ (
  Option.bind (φ.2.2 this 0) fun a2 =>
  Option.bind (gA Γ a2 2) fun N3 =>
  Option.bind (ix p0 N3) fun k4 =>
  @ite _ ((0 : Int32) = 0 ∨ (0 : Int32) = 1) _ (
  Option.bind (φ.2.2 this 1) fun a6 =>
  Option.bind (gA Γ a6 2) fun N7 =>
  Option.bind (ix p0 N7) fun k8 =>
  @ite _ ((0 : Int32) = 0 ∨ (0 : Int32) = 1) _ (
  Option.bind (φ.2.2 this 3) fun a10 =>
  Option.bind (gA Γ a10 1) fun N11 =>
  Option.bind (ix p0 N11) fun k12 =>
  Option.bind (φ.2.2 this 4) fun a13 =>
  Option.bind (gA Γ a13 0) fun N14 =>
  Option.bind (ix p0 N14) fun k15 =>
  some ((), (uI (uL (uI (uI φ a2 k4 (0 : Int32)) a6 k8 (0 : Int32)) a10 k12 (0 : Int64)) a13 k15 (0 : Int32)))
  ) none
  ) none
  ) none
set_option maxRecDepth 100000 in
set_option maxHeartbeats 4000000 in
theorem p_Port_silence {w : jw_T} (hw : jok w) {Γ : gm_T} {n : Nat} (hG : gd w Γ n) {x : Bool} {φ : ph_T} {this : Nat} {p0 : Int32} {q : Unit × ph_T} (H : f_Port_silence Γ φ this p0 = some q) : jc w M_Port_silence [.ref this, .int p0] (pic Γ φ) n x 0 0 (fq Γ n (.inl none) q.2) := by
  refine jc.of (by simp only [jent_r, jent_i, jent_l, jent_a, jent_0]; exact Nat.le_of_ble_eq_true rfl) ?_
  have hls : jents [.ref this, .int p0] (jm_nL M_Port_silence) = [some (.ref this), some (.int p0)] := by simp only [jents, jent_r, jent_i, jent_l, jent_a, jent_0]; rfl
  rw [hls]
  clear hls
  unfold f_Port_silence at H
  refine J_aload_n d_Port_silence_0 rfl ?_
  have g1 : Γ this = .inr 5 := by
    apply Classical.byContradiction
    intro q9
    rw [if_neg q9] at H
    cases H
  rw [if_pos g1] at H
  refine F_getR (ci := 5) (k := 0) hG (cf_Port hw) (fl_Port_9 hw) (by decide) (by decide) rfl d_Port_silence_1 g1 ?_
  refine J_iload_n d_Port_silence_4 rfl ?_
  refine J_iconst (v := 0) d_Port_silence_5 (by decide) ?_
  obtain ⟨a2, ha2, H⟩ := Option.bind_eq_some_iff.mp H
  rw [j_rf ha2]
  obtain ⟨N3, hN3, H⟩ := Option.bind_eq_some_iff.mp H
  obtain ⟨k4, hk4, H⟩ := Option.bind_eq_some_iff.mp H
  have z5 : (0 : Int32) = 0 ∨ (0 : Int32) = 1 := by
    apply Classical.byContradiction
    intro q9
    rw [if_neg q9] at H
    cases H
  rw [if_pos z5] at H
  refine F_zast k4 hw hG d_Port_silence_6 (gA_some hN3) (ix_some hk4) z5 ?_
  refine J_aload_n d_Port_silence_7 rfl ?_
  refine F_getR (ci := 5) (k := 1) hG (cf_Port hw) (fl_Port_15 hw) (by decide) (by decide) rfl d_Port_silence_8 g1 ?_
  show J _ _ _ _ (va_rf (φ.2.2 this 1) :: _) _ _ _ _ _ _
  refine J_iload_n d_Port_silence_11 rfl ?_
  refine J_iconst (v := 0) d_Port_silence_12 (by decide) ?_
  obtain ⟨a6, ha6, H⟩ := Option.bind_eq_some_iff.mp H
  rw [j_rf ha6]
  obtain ⟨N7, hN7, H⟩ := Option.bind_eq_some_iff.mp H
  obtain ⟨k8, hk8, H⟩ := Option.bind_eq_some_iff.mp H
  have z9 : (0 : Int32) = 0 ∨ (0 : Int32) = 1 := by
    apply Classical.byContradiction
    intro q9
    rw [if_neg q9] at H
    cases H
  rw [if_pos z9] at H
  refine F_zast k8 hw hG d_Port_silence_13 (gA_some hN7) (ix_some hk8) z9 ?_
  refine J_aload_n d_Port_silence_14 rfl ?_
  refine F_getR (ci := 5) (k := 3) hG (cf_Port hw) (fl_Port_21 hw) (by decide) (by decide) rfl d_Port_silence_15 g1 ?_
  show J _ _ _ _ (va_rf (φ.2.2 this 3) :: _) _ _ _ _ _ _
  refine J_iload_n d_Port_silence_18 rfl ?_
  refine J_lconst (v := 0) d_Port_silence_19 (by decide) ?_
  obtain ⟨a10, ha10, H⟩ := Option.bind_eq_some_iff.mp H
  rw [j_rf ha10]
  obtain ⟨N11, hN11, H⟩ := Option.bind_eq_some_iff.mp H
  obtain ⟨k12, hk12, H⟩ := Option.bind_eq_some_iff.mp H
  refine F_last k12 hw hG d_Port_silence_20 (gA_some hN11) (ix_some hk12) ?_
  refine J_aload_n d_Port_silence_21 rfl ?_
  refine F_getR (ci := 5) (k := 4) hG (cf_Port hw) (fl_Port_25 hw) (by decide) (by decide) rfl d_Port_silence_22 g1 ?_
  show J _ _ _ _ (va_rf (φ.2.2 this 4) :: _) _ _ _ _ _ _
  refine J_iload_n d_Port_silence_25 rfl ?_
  refine J_iconst (v := 0) d_Port_silence_26 (by decide) ?_
  obtain ⟨a13, ha13, H⟩ := Option.bind_eq_some_iff.mp H
  rw [j_rf ha13]
  obtain ⟨N14, hN14, H⟩ := Option.bind_eq_some_iff.mp H
  obtain ⟨k15, hk15, H⟩ := Option.bind_eq_some_iff.mp H
  refine F_iast k15 hw hG d_Port_silence_27 (gA_some hN14) (ix_some hk15) ?_
  have H := Option.some.inj H
  subst H
  exact J_vret (st := []) d_Port_silence_28 rfl ⟨rfl, rfl, rfl⟩
theorem ln_Port_silenceAll : (parseMethodDescriptor y_Port_silenceAll.desc).map (fun q => q.parameters.length) = some 0 := by decide +kernel
def f_Port_silenceAll_L2 (Γ : gm_T)  : Nat → ph_T → Nat → Int32 → Option (Unit × ph_T)
  | 0, _, _, _ => none
  | fu + 1, φ, x0, x1 =>
    if (5 : Int32) ≤ x1 then
      some ((), φ)
    else
      @ite _ (Γ x0 = .inr 5) _ (
      Option.bind (f_Port_silence Γ φ x0 x1) fun q2 =>
      (f_Port_silenceAll_L2 Γ  fu) q2.2 x0 (x1 + (1 : Int32))
      ) none
set_option maxRecDepth 100000 in
set_option maxHeartbeats 4000000 in
theorem p_Port_silenceAll_L2 {w : jw_T} (hw : jok w) {Γ : gm_T} {n : Nat} (hG : gd w Γ n)  : ∀ (fu : Nat) {x : Bool} {φ : ph_T} {x0 : Nat} {x1 : Int32} {q : Unit × ph_T}, f_Port_silenceAll_L2 Γ  fu φ x0 x1 = some q → J w M_Port_silenceAll 2 [some (.ref x0), some (.int x1)] [] (pic Γ φ) n x 0 0 (fq Γ n (.inl none) q.2) := by
  intro fu
  induction fu with
  | zero =>
    intro x φ x0 x1 q H
    cases H
  | succ fu ih =>
    intro x φ x0 x1 q H
    unfold f_Port_silenceAll_L2 at H
    refine J_iload_n d_Port_silenceAll_2 rfl ?_
    refine J_iconst (v := 5) d_Port_silenceAll_3 (by decide) ?_
    refine J_icmp_ge (tgt := 18) d_Port_silenceAll_4 (by decide) ?_ ?_
    · intro c3
      rw [if_pos c3] at H
      have H := Option.some.inj H
      subst H
      exact J_vret (st := []) d_Port_silenceAll_18 rfl ⟨rfl, rfl, rfl⟩
    · intro c3
      rw [if_neg c3] at H
      refine J_aload_n d_Port_silenceAll_7 rfl ?_
      refine J_iload_n d_Port_silenceAll_8 rfl ?_
      have g1 : Γ x0 = .inr 5 := by
        apply Classical.byContradiction
        intro q9
        rw [if_neg q9] at H
        cases H
      rw [if_pos g1] at H
      obtain ⟨q2, hq2, H⟩ := Option.bind_eq_some_iff.mp H
      refine J_callV (kc := 0) (ks := 0) (kc' := 0) (ks' := 0) (a := x0) (ci := 5) (as := [.int x1]) (st := []) (mf_Port_silence hw) (mv_Port_45 hw) d_Port_silenceAll_9 ln_Port_silence (by decide) (by first | exact Nat.le_of_ble_eq_true rfl | (simp only [List.map_cons, List.map_nil, List.sum_cons, List.sum_nil, va_rf_cat]; exact Nat.le_of_ble_eq_true rfl)) rfl ((hG _).1 _ g1 (by decide)).1 ((hG _).1 _ g1 (by decide)).2 (by unfold pic; rw [g1]; rfl) (jcl_at hw rfl) rfl (p_Port_silence hw hG hq2) ?_ (fun E h' n' x' e1 => by cases e1.1)
      intro v9 h9 n9 x9 e9
      obtain ⟨e91, e92, e93⟩ := e9
      cases e91
      subst e92
      subst e93
      clear x
      rename Bool => x
      show J _ _ _ _ [] _ _ _ _ _ _
      refine J_iinc (v := x1 + 1) d_Port_silenceAll_12 rfl (by rw [show Int32.ofInt 1 = (1 : Int32) from by decide]) ?_
      refine J.ls (ls' := [some (.ref x0), some (.int (x1 + (1 : Int32)))]) rfl ?_
      refine J_goto (tgt := 2) d_Port_silenceAll_15 (by decide) ?_
      refine J.drop [true, true] rfl ?_
      exact ih H
def f_Port_silenceAll (Γ : gm_T) (φ : ph_T) (this : Nat) : Option (Unit × ph_T) :=
  f_Port_silenceAll_L2 Γ  jF φ this (0 : Int32)
set_option maxRecDepth 100000 in
set_option maxHeartbeats 4000000 in
theorem p_Port_silenceAll {w : jw_T} (hw : jok w) {Γ : gm_T} {n : Nat} (hG : gd w Γ n) {x : Bool} {φ : ph_T} {this : Nat} {q : Unit × ph_T} (H : f_Port_silenceAll Γ φ this = some q) : jc w M_Port_silenceAll [.ref this] (pic Γ φ) n x 0 0 (fq Γ n (.inl none) q.2) := by
  refine jc.of (by simp only [jent_r, jent_i, jent_l, jent_a, jent_0]; exact Nat.le_of_ble_eq_true rfl) ?_
  have hls : jents [.ref this] (jm_nL M_Port_silenceAll) = [some (.ref this), none] := by simp only [jents, jent_r, jent_i, jent_l, jent_a, jent_0]; rfl
  rw [hls]
  clear hls
  unfold f_Port_silenceAll at H
  refine J_iconst (v := 0) d_Port_silenceAll_0 (by decide) ?_
  refine J_istore_n d_Port_silenceAll_1 (Nat.le_of_ble_eq_true rfl) ?_
  refine J.ls (ls' := [some (.ref this), some (.int (0 : Int32))]) rfl ?_
  refine J.drop [true, true] rfl ?_
  exact p_Port_silenceAll_L2 hw hG  _ H
theorem ln_Monitor_reset : (parseMethodDescriptor y_Monitor_reset.desc).map (fun q => q.parameters.length) = some 0 := by decide +kernel
def f_Monitor_reset_L18 (Γ : gm_T)  : Nat → ph_T → Nat → Int32 → Option (Unit × ph_T)
  | 0, _, _, _ => none
  | fu + 1, φ, x0, x1 =>
    if (5 : Int32) ≤ x1 then
      @ite _ (Γ x0 = .inr 4) _ (
      some ((), (uI (uI (uI (uI φ x0 5 (0 : Int32)) x0 6 (-1 : Int32)) x0 7 (-1 : Int32)) x0 8 (0 : Int32)))
      ) none
    else
      @ite _ (Γ x0 = .inr 4) _ (
      Option.bind (φ.2.2 x0 2) fun a3 =>
      Option.bind (gA Γ a3 2) fun N4 =>
      Option.bind (ix x1 N4) fun k5 =>
      @ite _ ((0 : Int32) = 0 ∨ (0 : Int32) = 1) _ (
      (f_Monitor_reset_L18 Γ  fu) (uI φ a3 k5 (0 : Int32)) x0 (x1 + (1 : Int32))
      ) none
      ) none
set_option maxRecDepth 100000 in
set_option maxHeartbeats 4000000 in
theorem p_Monitor_reset_L18 {w : jw_T} (hw : jok w) {Γ : gm_T} {n : Nat} (hG : gd w Γ n)  : ∀ (fu : Nat) {x : Bool} {φ : ph_T} {x0 : Nat} {x1 : Int32} {q : Unit × ph_T}, f_Monitor_reset_L18 Γ  fu φ x0 x1 = some q → J w M_Monitor_reset 18 [some (.ref x0), some (.int x1)] [] (pic Γ φ) n x 0 0 (fq Γ n (.inl none) q.2) := by
  intro fu
  induction fu with
  | zero =>
    intro x φ x0 x1 q H
    cases H
  | succ fu ih =>
    intro x φ x0 x1 q H
    unfold f_Monitor_reset_L18 at H
    refine J_iload_n d_Monitor_reset_18 rfl ?_
    refine J_iconst (v := 5) d_Monitor_reset_19 (by decide) ?_
    refine J_icmp_ge (tgt := 36) d_Monitor_reset_20 (by decide) ?_ ?_
    · intro c7
      rw [if_pos c7] at H
      refine J_aload_n d_Monitor_reset_36 rfl ?_
      refine J_iconst (v := 0) d_Monitor_reset_37 (by decide) ?_
      have g1 : Γ x0 = .inr 4 := by
        apply Classical.byContradiction
        intro q9
        rw [if_neg q9] at H
        cases H
      rw [if_pos g1] at H
      refine F_putI (ci := 4) (k := 5) hG (cf_Monitor hw) (fl_Monitor_45 hw) (by decide) (by decide) rfl d_Monitor_reset_38 rfl rfl rfl g1 ?_
      refine J_aload_n d_Monitor_reset_41 rfl ?_
      refine J_iconst (v := -1) d_Monitor_reset_42 (by decide) ?_
      refine F_putI (ci := 4) (k := 6) hG (cf_Monitor hw) (fl_Monitor_35 hw) (by decide) (by decide) rfl d_Monitor_reset_43 rfl rfl rfl g1 ?_
      refine J_aload_n d_Monitor_reset_46 rfl ?_
      refine J_iconst (v := -1) d_Monitor_reset_47 (by decide) ?_
      refine F_putI (ci := 4) (k := 7) hG (cf_Monitor hw) (fl_Monitor_39 hw) (by decide) (by decide) rfl d_Monitor_reset_48 rfl rfl rfl g1 ?_
      refine J_aload_n d_Monitor_reset_51 rfl ?_
      refine J_iconst (v := 0) d_Monitor_reset_52 (by decide) ?_
      refine F_putI (ci := 4) (k := 8) hG (cf_Monitor hw) (fl_Monitor_48 hw) (by decide) (by decide) rfl d_Monitor_reset_53 rfl rfl rfl g1 ?_
      have H := Option.some.inj H
      subst H
      exact J_vret (st := []) d_Monitor_reset_56 rfl ⟨rfl, rfl, rfl⟩
    · intro c7
      rw [if_neg c7] at H
      refine J_aload_n d_Monitor_reset_23 rfl ?_
      have g2 : Γ x0 = .inr 4 := by
        apply Classical.byContradiction
        intro q9
        rw [if_neg q9] at H
        cases H
      rw [if_pos g2] at H
      refine F_getR (ci := 4) (k := 2) hG (cf_Monitor hw) (fl_Monitor_23 hw) (by decide) (by decide) rfl d_Monitor_reset_24 g2 ?_
      refine J_iload_n d_Monitor_reset_27 rfl ?_
      refine J_iconst (v := 0) d_Monitor_reset_28 (by decide) ?_
      obtain ⟨a3, ha3, H⟩ := Option.bind_eq_some_iff.mp H
      rw [j_rf ha3]
      obtain ⟨N4, hN4, H⟩ := Option.bind_eq_some_iff.mp H
      obtain ⟨k5, hk5, H⟩ := Option.bind_eq_some_iff.mp H
      have z6 : (0 : Int32) = 0 ∨ (0 : Int32) = 1 := by
        apply Classical.byContradiction
        intro q9
        rw [if_neg q9] at H
        cases H
      rw [if_pos z6] at H
      refine F_zast k5 hw hG d_Monitor_reset_29 (gA_some hN4) (ix_some hk5) z6 ?_
      refine J_iinc (v := x1 + 1) d_Monitor_reset_30 rfl (by rw [show Int32.ofInt 1 = (1 : Int32) from by decide]) ?_
      refine J.ls (ls' := [some (.ref x0), some (.int (x1 + (1 : Int32)))]) rfl ?_
      refine J_goto (tgt := 18) d_Monitor_reset_33 (by decide) ?_
      refine J.drop [true, true] rfl ?_
      exact ih H
def f_Monitor_reset (Γ : gm_T) (φ : ph_T) (this : Nat) : Option (Unit × ph_T) :=
  @ite _ (Γ this = .inr 4) _ (
  Option.bind (φ.2.2 this 0) fun a9 =>
  @ite _ (Γ a9 = .inr 1) _ (
  Option.bind (φ.2.2 this 1) fun a11 =>
  @ite _ (Γ a11 = .inr 1) _ (
  f_Monitor_reset_L18 Γ  jF (uI (uI φ a9 1 (0 : Int32)) a11 1 (0 : Int32)) this (0 : Int32)
  ) none
  ) none
  ) none
set_option maxRecDepth 100000 in
set_option maxHeartbeats 4000000 in
theorem p_Monitor_reset {w : jw_T} (hw : jok w) {Γ : gm_T} {n : Nat} (hG : gd w Γ n) {x : Bool} {φ : ph_T} {this : Nat} {q : Unit × ph_T} (H : f_Monitor_reset Γ φ this = some q) : jc w M_Monitor_reset [.ref this] (pic Γ φ) n x 0 0 (fq Γ n (.inl none) q.2) := by
  refine jc.of (by simp only [jent_r, jent_i, jent_l, jent_a, jent_0]; exact Nat.le_of_ble_eq_true rfl) ?_
  have hls : jents [.ref this] (jm_nL M_Monitor_reset) = [some (.ref this), none] := by simp only [jents, jent_r, jent_i, jent_l, jent_a, jent_0]; rfl
  rw [hls]
  clear hls
  unfold f_Monitor_reset at H
  refine J_aload_n d_Monitor_reset_0 rfl ?_
  have g8 : Γ this = .inr 4 := by
    apply Classical.byContradiction
    intro q9
    rw [if_neg q9] at H
    cases H
  rw [if_pos g8] at H
  refine F_getR (ci := 4) (k := 0) hG (cf_Monitor hw) (fl_Monitor_14 hw) (by decide) (by decide) rfl d_Monitor_reset_1 g8 ?_
  refine J_iconst (v := 0) d_Monitor_reset_4 (by decide) ?_
  obtain ⟨a9, ha9, H⟩ := Option.bind_eq_some_iff.mp H
  rw [j_rf ha9]
  have g10 : Γ a9 = .inr 1 := by
    apply Classical.byContradiction
    intro q9
    rw [if_neg q9] at H
    cases H
  rw [if_pos g10] at H
  refine F_putI (ci := 1) (k := 1) hG (cf_Line hw) (fl_Monitor_42 hw) (by decide) (by decide) rfl d_Monitor_reset_5 rfl rfl rfl g10 ?_
  refine J_aload_n d_Monitor_reset_8 rfl ?_
  refine F_getR (ci := 4) (k := 1) hG (cf_Monitor hw) (fl_Monitor_20 hw) (by decide) (by decide) rfl d_Monitor_reset_9 g8 ?_
  show J _ _ _ _ (va_rf (φ.2.2 this 1) :: _) _ _ _ _ _ _
  refine J_iconst (v := 0) d_Monitor_reset_12 (by decide) ?_
  obtain ⟨a11, ha11, H⟩ := Option.bind_eq_some_iff.mp H
  rw [j_rf ha11]
  have g12 : Γ a11 = .inr 1 := by
    apply Classical.byContradiction
    intro q9
    rw [if_neg q9] at H
    cases H
  rw [if_pos g12] at H
  refine F_putI (ci := 1) (k := 1) hG (cf_Line hw) (fl_Monitor_42 hw) (by decide) (by decide) rfl d_Monitor_reset_13 rfl rfl rfl g12 ?_
  refine J_iconst (v := 0) d_Monitor_reset_16 (by decide) ?_
  refine J_istore_n d_Monitor_reset_17 (Nat.le_of_ble_eq_true rfl) ?_
  refine J.ls (ls' := [some (.ref this), some (.int (0 : Int32))]) rfl ?_
  refine J.drop [true, true] rfl ?_
  exact p_Monitor_reset_L18 hw hG  _ H
theorem ln_Port_reset : (parseMethodDescriptor y_Port_reset.desc).map (fun q => q.parameters.length) = some 0 := by decide +kernel
def f_Port_reset_L6 (Γ : gm_T)  : Nat → ph_T → Nat → Int32 → Option (Unit × ph_T)
  | 0, _, _, _ => none
  | fu + 1, φ, x0, x1 =>
    if (5 : Int32) ≤ x1 then
      @ite _ (Γ x0 = .inr 5) _ (
      Option.bind (φ.2.2 x0 6) fun a2 =>
      @ite _ (Γ a2 = .inr 4) _ (
      Option.bind (f_Monitor_reset Γ φ a2) fun q4 =>
      some ((), q4.2)
      ) none
      ) none
    else
      @ite _ (Γ x0 = .inr 5) _ (
      Option.bind (φ.2.2 x0 2) fun a6 =>
      Option.bind (gA Γ a6 2) fun N7 =>
      Option.bind (ix x1 N7) fun k8 =>
      @ite _ ((0 : Int32) = 0 ∨ (0 : Int32) = 1) _ (
      Option.bind (φ.2.2 x0 5) fun a10 =>
      Option.bind (gA Γ a10 0) fun N11 =>
      Option.bind (ix x1 N11) fun k12 =>
      (f_Port_reset_L6 Γ  fu) (uI (uI φ a6 k8 (0 : Int32)) a10 k12 (0 : Int32)) x0 (x1 + (1 : Int32))
      ) none
      ) none
set_option maxRecDepth 100000 in
set_option maxHeartbeats 4000000 in
theorem p_Port_reset_L6 {w : jw_T} (hw : jok w) {Γ : gm_T} {n : Nat} (hG : gd w Γ n)  : ∀ (fu : Nat) {x : Bool} {φ : ph_T} {x0 : Nat} {x1 : Int32} {q : Unit × ph_T}, f_Port_reset_L6 Γ  fu φ x0 x1 = some q → J w M_Port_reset 6 [some (.ref x0), some (.int x1)] [] (pic Γ φ) n x 0 0 (fq Γ n (.inl none) q.2) := by
  intro fu
  induction fu with
  | zero =>
    intro x φ x0 x1 q H
    cases H
  | succ fu ih =>
    intro x φ x0 x1 q H
    unfold f_Port_reset_L6 at H
    refine J_iload_n d_Port_reset_6 rfl ?_
    refine J_iconst (v := 5) d_Port_reset_7 (by decide) ?_
    refine J_icmp_ge (tgt := 31) d_Port_reset_8 (by decide) ?_ ?_
    · intro c13
      rw [if_pos c13] at H
      refine J_aload_n d_Port_reset_31 rfl ?_
      have g1 : Γ x0 = .inr 5 := by
        apply Classical.byContradiction
        intro q9
        rw [if_neg q9] at H
        cases H
      rw [if_pos g1] at H
      refine F_getR (ci := 5) (k := 6) hG (cf_Port hw) (fl_Port_35 hw) (by decide) (by decide) rfl d_Port_reset_32 g1 ?_
      obtain ⟨a2, ha2, H⟩ := Option.bind_eq_some_iff.mp H
      rw [j_rf ha2]
      have g3 : Γ a2 = .inr 4 := by
        apply Classical.byContradiction
        intro q9
        rw [if_neg q9] at H
        cases H
      rw [if_pos g3] at H
      obtain ⟨q4, hq4, H⟩ := Option.bind_eq_some_iff.mp H
      refine J_callV (kc := 0) (ks := 0) (kc' := 0) (ks' := 0) (a := a2) (ci := 4) (as := []) (st := []) (mf_Monitor_reset hw) (mv_Port_42 hw) d_Port_reset_35 ln_Monitor_reset (by decide) (by first | exact Nat.le_of_ble_eq_true rfl | (simp only [List.map_cons, List.map_nil, List.sum_cons, List.sum_nil, va_rf_cat]; exact Nat.le_of_ble_eq_true rfl)) rfl ((hG _).1 _ g3 (by decide)).1 ((hG _).1 _ g3 (by decide)).2 (by unfold pic; rw [g3]; rfl) (jcl_at hw rfl) rfl (p_Monitor_reset hw hG hq4) ?_ (fun E h' n' x' e1 => by cases e1.1)
      intro v9 h9 n9 x9 e9
      obtain ⟨e91, e92, e93⟩ := e9
      cases e91
      subst e92
      subst e93
      clear x
      rename Bool => x
      show J _ _ _ _ [] _ _ _ _ _ _
      have H := Option.some.inj H
      subst H
      exact J_vret (st := []) d_Port_reset_38 rfl ⟨rfl, rfl, rfl⟩
    · intro c13
      rw [if_neg c13] at H
      refine J_aload_n d_Port_reset_11 rfl ?_
      have g5 : Γ x0 = .inr 5 := by
        apply Classical.byContradiction
        intro q9
        rw [if_neg q9] at H
        cases H
      rw [if_pos g5] at H
      refine F_getR (ci := 5) (k := 2) hG (cf_Port hw) (fl_Port_18 hw) (by decide) (by decide) rfl d_Port_reset_12 g5 ?_
      refine J_iload_n d_Port_reset_15 rfl ?_
      refine J_iconst (v := 0) d_Port_reset_16 (by decide) ?_
      obtain ⟨a6, ha6, H⟩ := Option.bind_eq_some_iff.mp H
      rw [j_rf ha6]
      obtain ⟨N7, hN7, H⟩ := Option.bind_eq_some_iff.mp H
      obtain ⟨k8, hk8, H⟩ := Option.bind_eq_some_iff.mp H
      have z9 : (0 : Int32) = 0 ∨ (0 : Int32) = 1 := by
        apply Classical.byContradiction
        intro q9
        rw [if_neg q9] at H
        cases H
      rw [if_pos z9] at H
      refine F_zast k8 hw hG d_Port_reset_17 (gA_some hN7) (ix_some hk8) z9 ?_
      refine J_aload_n d_Port_reset_18 rfl ?_
      refine F_getR (ci := 5) (k := 5) hG (cf_Port hw) (fl_Port_29 hw) (by decide) (by decide) rfl d_Port_reset_19 g5 ?_
      show J _ _ _ _ (va_rf (φ.2.2 x0 5) :: _) _ _ _ _ _ _
      refine J_iload_n d_Port_reset_22 rfl ?_
      refine J_iconst (v := 0) d_Port_reset_23 (by decide) ?_
      obtain ⟨a10, ha10, H⟩ := Option.bind_eq_some_iff.mp H
      rw [j_rf ha10]
      obtain ⟨N11, hN11, H⟩ := Option.bind_eq_some_iff.mp H
      obtain ⟨k12, hk12, H⟩ := Option.bind_eq_some_iff.mp H
      refine F_iast k12 hw hG d_Port_reset_24 (gA_some hN11) (ix_some hk12) ?_
      refine J_iinc (v := x1 + 1) d_Port_reset_25 rfl (by rw [show Int32.ofInt 1 = (1 : Int32) from by decide]) ?_
      refine J.ls (ls' := [some (.ref x0), some (.int (x1 + (1 : Int32)))]) rfl ?_
      refine J_goto (tgt := 6) d_Port_reset_28 (by decide) ?_
      refine J.drop [true, true] rfl ?_
      exact ih H
def f_Port_reset (Γ : gm_T) (φ : ph_T) (this : Nat) : Option (Unit × ph_T) :=
  @ite _ (Γ this = .inr 5) _ (
  Option.bind (f_Port_silenceAll Γ φ this) fun q15 =>
  f_Port_reset_L6 Γ  jF q15.2 this (0 : Int32)
  ) none
set_option maxRecDepth 100000 in
set_option maxHeartbeats 4000000 in
theorem p_Port_reset {w : jw_T} (hw : jok w) {Γ : gm_T} {n : Nat} (hG : gd w Γ n) {x : Bool} {φ : ph_T} {this : Nat} {q : Unit × ph_T} (H : f_Port_reset Γ φ this = some q) : jc w M_Port_reset [.ref this] (pic Γ φ) n x 0 0 (fq Γ n (.inl none) q.2) := by
  refine jc.of (by simp only [jent_r, jent_i, jent_l, jent_a, jent_0]; exact Nat.le_of_ble_eq_true rfl) ?_
  have hls : jents [.ref this] (jm_nL M_Port_reset) = [some (.ref this), none] := by simp only [jents, jent_r, jent_i, jent_l, jent_a, jent_0]; rfl
  rw [hls]
  clear hls
  unfold f_Port_reset at H
  refine J_aload_n d_Port_reset_0 rfl ?_
  have g14 : Γ this = .inr 5 := by
    apply Classical.byContradiction
    intro q9
    rw [if_neg q9] at H
    cases H
  rw [if_pos g14] at H
  obtain ⟨q15, hq15, H⟩ := Option.bind_eq_some_iff.mp H
  refine J_callV (kc := 0) (ks := 0) (kc' := 0) (ks' := 0) (a := this) (ci := 5) (as := []) (st := []) (mf_Port_silenceAll hw) (mv_Port_39 hw) d_Port_reset_1 ln_Port_silenceAll (by decide) (by first | exact Nat.le_of_ble_eq_true rfl | (simp only [List.map_cons, List.map_nil, List.sum_cons, List.sum_nil, va_rf_cat]; exact Nat.le_of_ble_eq_true rfl)) rfl ((hG _).1 _ g14 (by decide)).1 ((hG _).1 _ g14 (by decide)).2 (by unfold pic; rw [g14]; rfl) (jcl_at hw rfl) rfl (p_Port_silenceAll hw hG hq15) ?_ (fun E h' n' x' e1 => by cases e1.1)
  intro v9 h9 n9 x9 e9
  obtain ⟨e91, e92, e93⟩ := e9
  cases e91
  subst e92
  subst e93
  clear x
  rename Bool => x
  show J _ _ _ _ [] _ _ _ _ _ _
  refine J_iconst (v := 0) d_Port_reset_4 (by decide) ?_
  refine J_istore_n d_Port_reset_5 (Nat.le_of_ble_eq_true rfl) ?_
  refine J.ls (ls' := [some (.ref this), some (.int (0 : Int32))]) rfl ?_
  refine J.drop [true, true] rfl ?_
  exact p_Port_reset_L6 hw hG  _ H
theorem ln_Slave_reset : (parseMethodDescriptor y_Slave_reset.desc).map (fun q => q.parameters.length) = some 0 := by decide +kernel
def f_Slave_reset (Γ : gm_T) (φ : ph_T) (this : Nat) : Option (Unit × ph_T) :=
  @ite _ (Γ this = .inr 8) _ (
  Option.bind (f_Arrays_fill1 Γ φ (φ.2.2 this 1) (65535 : Int32)) fun q2 =>
  Option.bind (f_Arrays_fill1 Γ q2.2 (q2.2.2.2 this 4) (-1 : Int32)) fun q3 =>
  Option.bind (q3.2.2.2 this 2) fun a4 =>
  @ite _ (Γ a4 = .inr 1) _ (
  Option.bind (q3.2.2.2 this 3) fun a6 =>
  @ite _ (Γ a6 = .inr 1) _ (
  some ((), (uI (uI (uI (uI (uI (uI (uI q3.2 a4 1 (0 : Int32)) a6 1 (0 : Int32)) this 6 (0 : Int32)) this 7 (0 : Int32)) this 8 (-1 : Int32)) this 9 (-1 : Int32)) this 10 (-1 : Int32)))
  ) none
  ) none
  ) none
set_option maxRecDepth 100000 in
set_option maxHeartbeats 4000000 in
theorem p_Slave_reset {w : jw_T} (hw : jok w) {Γ : gm_T} {n : Nat} (hG : gd w Γ n) {x : Bool} {φ : ph_T} {this : Nat} {q : Unit × ph_T} (H : f_Slave_reset Γ φ this = some q) : jc w M_Slave_reset [.ref this] (pic Γ φ) n x 0 0 (fq Γ n (.inl none) q.2) := by
  refine jc.of (by simp only [jent_r, jent_i, jent_l, jent_a, jent_0]; exact Nat.le_of_ble_eq_true rfl) ?_
  have hls : jents [.ref this] (jm_nL M_Slave_reset) = [some (.ref this)] := by simp only [jents, jent_r, jent_i, jent_l, jent_a, jent_0]; rfl
  rw [hls]
  clear hls
  unfold f_Slave_reset at H
  refine J_aload_n d_Slave_reset_0 rfl ?_
  have g1 : Γ this = .inr 8 := by
    apply Classical.byContradiction
    intro q9
    rw [if_neg q9] at H
    cases H
  rw [if_pos g1] at H
  refine F_getR (ci := 8) (k := 1) hG (cf_Slave hw) (fl_Slave_9 hw) (by decide) (by decide) rfl d_Slave_reset_1 g1 ?_
  refine J_ldc (v := 65535) d_Slave_reset_4 (kn_Slave_47 hw) ?_
  obtain ⟨q2, hq2, H⟩ := Option.bind_eq_some_iff.mp H
  refine J_callS (kc := 0) (ks := 0) (kc' := 0) (ks' := 0) (as := [va_rf (φ.2.2 this 1), .int (65535 : Int32)]) (st := []) (mf_Arrays_fill1 hw) (ms_Slave_48 hw) d_Slave_reset_6 ln_Arrays_fill1 (by decide) (by first | exact Nat.le_of_ble_eq_true rfl | (simp only [List.map_cons, List.map_nil, List.sum_cons, List.sum_nil, va_rf_cat]; exact Nat.le_of_ble_eq_true rfl)) rfl (p_Arrays_fill1 hw hG hq2) ?_ (fun E h' n' x' e1 => by cases e1.1)
  intro v9 h9 n9 x9 e9
  obtain ⟨e91, e92, e93⟩ := e9
  cases e91
  subst e92
  subst e93
  clear x
  rename Bool => x
  show J _ _ _ _ [] _ _ _ _ _ _
  refine J_aload_n d_Slave_reset_9 rfl ?_
  refine F_getR (ci := 8) (k := 4) hG (cf_Slave hw) (fl_Slave_27 hw) (by decide) (by decide) rfl d_Slave_reset_10 g1 ?_
  refine J_iconst (v := -1) d_Slave_reset_13 (by decide) ?_
  obtain ⟨q3, hq3, H⟩ := Option.bind_eq_some_iff.mp H
  refine J_callS (kc := 0) (ks := 0) (kc' := 0) (ks' := 0) (as := [va_rf (q2.2.2.2 this 4), .int (-1 : Int32)]) (st := []) (mf_Arrays_fill1 hw) (ms_Slave_48 hw) d_Slave_reset_14 ln_Arrays_fill1 (by decide) (by first | exact Nat.le_of_ble_eq_true rfl | (simp only [List.map_cons, List.map_nil, List.sum_cons, List.sum_nil, va_rf_cat]; exact Nat.le_of_ble_eq_true rfl)) rfl (p_Arrays_fill1 hw hG hq3) ?_ (fun E h' n' x' e1 => by cases e1.1)
  intro v9 h9 n9 x9 e9
  obtain ⟨e91, e92, e93⟩ := e9
  cases e91
  subst e92
  subst e93
  clear x
  rename Bool => x
  show J _ _ _ _ [] _ _ _ _ _ _
  refine J_aload_n d_Slave_reset_17 rfl ?_
  refine F_getR (ci := 8) (k := 2) hG (cf_Slave hw) (fl_Slave_20 hw) (by decide) (by decide) rfl d_Slave_reset_18 g1 ?_
  refine J_iconst (v := 0) d_Slave_reset_21 (by decide) ?_
  obtain ⟨a4, ha4, H⟩ := Option.bind_eq_some_iff.mp H
  rw [j_rf ha4]
  have g5 : Γ a4 = .inr 1 := by
    apply Classical.byContradiction
    intro q9
    rw [if_neg q9] at H
    cases H
  rw [if_pos g5] at H
  refine F_putI (ci := 1) (k := 1) hG (cf_Line hw) (fl_Slave_54 hw) (by decide) (by decide) rfl d_Slave_reset_22 rfl rfl rfl g5 ?_
  refine J_aload_n d_Slave_reset_25 rfl ?_
  refine F_getR (ci := 8) (k := 3) hG (cf_Slave hw) (fl_Slave_24 hw) (by decide) (by decide) rfl d_Slave_reset_26 g1 ?_
  show J _ _ _ _ (va_rf (q3.2.2.2 this 3) :: _) _ _ _ _ _ _
  refine J_iconst (v := 0) d_Slave_reset_29 (by decide) ?_
  obtain ⟨a6, ha6, H⟩ := Option.bind_eq_some_iff.mp H
  rw [j_rf ha6]
  have g7 : Γ a6 = .inr 1 := by
    apply Classical.byContradiction
    intro q9
    rw [if_neg q9] at H
    cases H
  rw [if_pos g7] at H
  refine F_putI (ci := 1) (k := 1) hG (cf_Line hw) (fl_Slave_54 hw) (by decide) (by decide) rfl d_Slave_reset_30 rfl rfl rfl g7 ?_
  refine J_aload_n d_Slave_reset_33 rfl ?_
  refine J_iconst (v := 0) d_Slave_reset_34 (by decide) ?_
  refine F_putI (ci := 8) (k := 6) hG (cf_Slave hw) (fl_Slave_57 hw) (by decide) (by decide) rfl d_Slave_reset_35 rfl rfl rfl g1 ?_
  refine J_aload_n d_Slave_reset_38 rfl ?_
  refine J_iconst (v := 0) d_Slave_reset_39 (by decide) ?_
  refine F_putI (ci := 8) (k := 7) hG (cf_Slave hw) (fl_Slave_60 hw) (by decide) (by decide) rfl d_Slave_reset_40 rfl rfl rfl g1 ?_
  refine J_aload_n d_Slave_reset_43 rfl ?_
  refine J_iconst (v := -1) d_Slave_reset_44 (by decide) ?_
  refine F_putI (ci := 8) (k := 8) hG (cf_Slave hw) (fl_Slave_33 hw) (by decide) (by decide) rfl d_Slave_reset_45 rfl rfl rfl g1 ?_
  refine J_aload_n d_Slave_reset_48 rfl ?_
  refine J_iconst (v := -1) d_Slave_reset_49 (by decide) ?_
  refine F_putI (ci := 8) (k := 9) hG (cf_Slave hw) (fl_Slave_37 hw) (by decide) (by decide) rfl d_Slave_reset_50 rfl rfl rfl g1 ?_
  refine J_aload_n d_Slave_reset_53 rfl ?_
  refine J_iconst (v := -1) d_Slave_reset_54 (by decide) ?_
  refine F_putI (ci := 8) (k := 10) hG (cf_Slave hw) (fl_Slave_40 hw) (by decide) (by decide) rfl d_Slave_reset_55 rfl rfl rfl g1 ?_
  have H := Option.some.inj H
  subst H
  exact J_vret (st := []) d_Slave_reset_58 rfl ⟨rfl, rfl, rfl⟩
theorem ln_Master_dropRequests : (parseMethodDescriptor y_Master_dropRequests.desc).map (fun q => q.parameters.length) = some 0 := by decide +kernel
def f_Master_dropRequests (Γ : gm_T) (φ : ph_T) (this : Nat) : Option (Unit × ph_T) :=
  @ite _ (Γ this = .inr 7) _ (
  some ((), (uI (uI (uI (uI (uI (uI φ this 4 (0 : Int32)) this 5 (0 : Int32)) this 6 (0 : Int32)) this 7 (0 : Int32)) this 8 (0 : Int32)) this 9 (0 : Int32)))
  ) none
set_option maxRecDepth 100000 in
set_option maxHeartbeats 4000000 in
theorem p_Master_dropRequests {w : jw_T} (hw : jok w) {Γ : gm_T} {n : Nat} (hG : gd w Γ n) {x : Bool} {φ : ph_T} {this : Nat} {q : Unit × ph_T} (H : f_Master_dropRequests Γ φ this = some q) : jc w M_Master_dropRequests [.ref this] (pic Γ φ) n x 0 0 (fq Γ n (.inl none) q.2) := by
  refine jc.of (by simp only [jent_r, jent_i, jent_l, jent_a, jent_0]; exact Nat.le_of_ble_eq_true rfl) ?_
  have hls : jents [.ref this] (jm_nL M_Master_dropRequests) = [some (.ref this)] := by simp only [jents, jent_r, jent_i, jent_l, jent_a, jent_0]; rfl
  rw [hls]
  clear hls
  unfold f_Master_dropRequests at H
  refine J_aload_n d_Master_dropRequests_0 rfl ?_
  refine J_iconst (v := 0) d_Master_dropRequests_1 (by decide) ?_
  have g1 : Γ this = .inr 7 := by
    apply Classical.byContradiction
    intro q9
    rw [if_neg q9] at H
    cases H
  rw [if_pos g1] at H
  refine F_putI (ci := 7) (k := 4) hG (cf_Master hw) (fl_Master_35 hw) (by decide) (by decide) rfl d_Master_dropRequests_2 rfl rfl rfl g1 ?_
  refine J_aload_n d_Master_dropRequests_5 rfl ?_
  refine J_iconst (v := 0) d_Master_dropRequests_6 (by decide) ?_
  refine F_putI (ci := 7) (k := 5) hG (cf_Master hw) (fl_Master_39 hw) (by decide) (by decide) rfl d_Master_dropRequests_7 rfl rfl rfl g1 ?_
  refine J_aload_n d_Master_dropRequests_10 rfl ?_
  refine J_iconst (v := 0) d_Master_dropRequests_11 (by decide) ?_
  refine F_putI (ci := 7) (k := 6) hG (cf_Master hw) (fl_Master_42 hw) (by decide) (by decide) rfl d_Master_dropRequests_12 rfl rfl rfl g1 ?_
  refine J_aload_n d_Master_dropRequests_15 rfl ?_
  refine J_iconst (v := 0) d_Master_dropRequests_16 (by decide) ?_
  refine F_putI (ci := 7) (k := 7) hG (cf_Master hw) (fl_Master_45 hw) (by decide) (by decide) rfl d_Master_dropRequests_17 rfl rfl rfl g1 ?_
  refine J_aload_n d_Master_dropRequests_20 rfl ?_
  refine J_iconst (v := 0) d_Master_dropRequests_21 (by decide) ?_
  refine F_putI (ci := 7) (k := 8) hG (cf_Master hw) (fl_Master_48 hw) (by decide) (by decide) rfl d_Master_dropRequests_22 rfl rfl rfl g1 ?_
  refine J_aload_n d_Master_dropRequests_25 rfl ?_
  refine J_iconst (v := 0) d_Master_dropRequests_26 (by decide) ?_
  refine F_putI (ci := 7) (k := 9) hG (cf_Master hw) (fl_Master_51 hw) (by decide) (by decide) rfl d_Master_dropRequests_27 rfl rfl rfl g1 ?_
  have H := Option.some.inj H
  subst H
  exact J_vret (st := []) d_Master_dropRequests_30 rfl ⟨rfl, rfl, rfl⟩
theorem ln_Bus_dropTickets : (parseMethodDescriptor y_Bus_dropTickets.desc).map (fun q => q.parameters.length) = some 0 := by decide +kernel
def f_Bus_dropTickets_L2 (Γ : gm_T)  : Nat → ph_T → Nat → Int32 → Option (Unit × ph_T)
  | 0, _, _, _ => none
  | fu + 1, φ, x0, x1 =>
    @ite _ (Γ x0 = .inr 11) _ (
    Option.bind (φ.2.2 x0 2) fun a2 =>
    Option.bind (gA Γ a2 8) fun N3 =>
    if (nI N3) ≤ x1 then
      some ((), (uI φ x0 8 (0 : Int32)))
    else
      Option.bind (gA Γ a2 8) fun N4 =>
      Option.bind (ix x1 N4) fun k5 =>
      Option.bind (φ.2.2 a2 k5) fun a6 =>
      @ite _ (Γ a6 = .inr 7) _ (
      Option.bind (f_Master_dropRequests Γ φ a6) fun q8 =>
      (f_Bus_dropTickets_L2 Γ  fu) q8.2 x0 (x1 + (1 : Int32))
      ) none
    ) none
set_option maxRecDepth 100000 in
set_option maxHeartbeats 4000000 in
theorem p_Bus_dropTickets_L2 {w : jw_T} (hw : jok w) {Γ : gm_T} {n : Nat} (hG : gd w Γ n)  : ∀ (fu : Nat) {x : Bool} {φ : ph_T} {x0 : Nat} {x1 : Int32} {q : Unit × ph_T}, f_Bus_dropTickets_L2 Γ  fu φ x0 x1 = some q → J w M_Bus_dropTickets 2 [some (.ref x0), some (.int x1)] [] (pic Γ φ) n x 0 0 (fq Γ n (.inl none) q.2) := by
  intro fu
  induction fu with
  | zero =>
    intro x φ x0 x1 q H
    cases H
  | succ fu ih =>
    intro x φ x0 x1 q H
    unfold f_Bus_dropTickets_L2 at H
    refine J_iload_n d_Bus_dropTickets_2 rfl ?_
    refine J_aload_n d_Bus_dropTickets_3 rfl ?_
    have g1 : Γ x0 = .inr 11 := by
      apply Classical.byContradiction
      intro q9
      rw [if_neg q9] at H
      cases H
    rw [if_pos g1] at H
    refine F_getR (ci := 11) (k := 2) hG (cf_Bus hw) (fl_Bus_31 hw) (by decide) (by decide) rfl d_Bus_dropTickets_4 g1 ?_
    obtain ⟨a2, ha2, H⟩ := Option.bind_eq_some_iff.mp H
    rw [j_rf ha2]
    obtain ⟨N3, hN3, H⟩ := Option.bind_eq_some_iff.mp H
    refine F_alen hw hG (t := 8) rfl d_Bus_dropTickets_7 (gA_some hN3) ?_
    refine J_icmp_ge (tgt := 26) d_Bus_dropTickets_8 (by decide) ?_ ?_
    · intro c9
      rw [if_pos c9] at H
      refine J_aload_n d_Bus_dropTickets_26 rfl ?_
      refine J_iconst (v := 0) d_Bus_dropTickets_27 (by decide) ?_
      refine F_putI (ci := 11) (k := 8) hG (cf_Bus hw) (fl_Bus_147 hw) (by decide) (by decide) rfl d_Bus_dropTickets_28 rfl rfl rfl g1 ?_
      have H := Option.some.inj H
      subst H
      exact J_vret (st := []) d_Bus_dropTickets_31 rfl ⟨rfl, rfl, rfl⟩
    · intro c9
      rw [if_neg c9] at H
      refine J_aload_n d_Bus_dropTickets_11 rfl ?_
      refine F_getR (ci := 11) (k := 2) hG (cf_Bus hw) (fl_Bus_31 hw) (by decide) (by decide) rfl d_Bus_dropTickets_12 g1 ?_
      refine J_iload_n d_Bus_dropTickets_15 rfl ?_
      try rw [j_rf ha2]
      obtain ⟨N4, hN4, H⟩ := Option.bind_eq_some_iff.mp H
      obtain ⟨k5, hk5, H⟩ := Option.bind_eq_some_iff.mp H
      refine F_aald k5 hw hG (t := 8) rfl (by decide) d_Bus_dropTickets_16 (gA_some hN4) (ix_some hk5) ?_
      obtain ⟨a6, ha6, H⟩ := Option.bind_eq_some_iff.mp H
      rw [j_rf ha6]
      have g7 : Γ a6 = .inr 7 := by
        apply Classical.byContradiction
        intro q9
        rw [if_neg q9] at H
        cases H
      rw [if_pos g7] at H
      obtain ⟨q8, hq8, H⟩ := Option.bind_eq_some_iff.mp H
      refine J_callV (kc := 0) (ks := 0) (kc' := 0) (ks' := 0) (a := a6) (ci := 7) (as := []) (st := []) (mf_Master_dropRequests hw) (mv_Bus_337 hw) d_Bus_dropTickets_17 ln_Master_dropRequests (by decide) (by first | exact Nat.le_of_ble_eq_true rfl | (simp only [List.map_cons, List.map_nil, List.sum_cons, List.sum_nil, va_rf_cat]; exact Nat.le_of_ble_eq_true rfl)) rfl ((hG _).1 _ g7 (by decide)).1 ((hG _).1 _ g7 (by decide)).2 (by unfold pic; rw [g7]; rfl) (jcl_at hw rfl) rfl (p_Master_dropRequests hw hG hq8) ?_ (fun E h' n' x' e1 => by cases e1.1)
      intro v9 h9 n9 x9 e9
      obtain ⟨e91, e92, e93⟩ := e9
      cases e91
      subst e92
      subst e93
      clear x
      rename Bool => x
      show J _ _ _ _ [] _ _ _ _ _ _
      refine J_iinc (v := x1 + 1) d_Bus_dropTickets_20 rfl (by rw [show Int32.ofInt 1 = (1 : Int32) from by decide]) ?_
      refine J.ls (ls' := [some (.ref x0), some (.int (x1 + (1 : Int32)))]) rfl ?_
      refine J_goto (tgt := 2) d_Bus_dropTickets_23 (by decide) ?_
      refine J.drop [true, true] rfl ?_
      exact ih H
def f_Bus_dropTickets (Γ : gm_T) (φ : ph_T) (this : Nat) : Option (Unit × ph_T) :=
  f_Bus_dropTickets_L2 Γ  jF φ this (0 : Int32)
set_option maxRecDepth 100000 in
set_option maxHeartbeats 4000000 in
theorem p_Bus_dropTickets {w : jw_T} (hw : jok w) {Γ : gm_T} {n : Nat} (hG : gd w Γ n) {x : Bool} {φ : ph_T} {this : Nat} {q : Unit × ph_T} (H : f_Bus_dropTickets Γ φ this = some q) : jc w M_Bus_dropTickets [.ref this] (pic Γ φ) n x 0 0 (fq Γ n (.inl none) q.2) := by
  refine jc.of (by simp only [jent_r, jent_i, jent_l, jent_a, jent_0]; exact Nat.le_of_ble_eq_true rfl) ?_
  have hls : jents [.ref this] (jm_nL M_Bus_dropTickets) = [some (.ref this), none] := by simp only [jents, jent_r, jent_i, jent_l, jent_a, jent_0]; rfl
  rw [hls]
  clear hls
  unfold f_Bus_dropTickets at H
  refine J_iconst (v := 0) d_Bus_dropTickets_0 (by decide) ?_
  refine J_istore_n d_Bus_dropTickets_1 (Nat.le_of_ble_eq_true rfl) ?_
  refine J.ls (ls' := [some (.ref this), some (.int (0 : Int32))]) rfl ?_
  refine J.drop [true, true] rfl ?_
  exact p_Bus_dropTickets_L2 hw hG  _ H
theorem ln_Bus_clear : (parseMethodDescriptor y_Bus_clear.desc).map (fun q => q.parameters.length) = some 0 := by decide +kernel
def f_Bus_clear_L86 (Γ : gm_T)  : Nat → ph_T → Nat → Int32 → Option (Unit × ph_T)
  | 0, _, _, _ => none
  | fu + 1, φ, x0, x1 =>
    if (2 : Int32) ≤ x1 then
      @ite _ (Γ x0 = .inr 11) _ (
      Option.bind (f_Bus_dropTickets Γ φ x0) fun q2 =>
      some ((), (uI q2.2 x0 9 (0 : Int32)))
      ) none
    else
      @ite _ (Γ x0 = .inr 11) _ (
      Option.bind (φ.2.2 x0 6) fun a4 =>
      Option.bind (gA Γ a4 7) fun N5 =>
      Option.bind (ix x1 N5) fun k6 =>
      Option.bind (φ.2.2 a4 k6) fun a7 =>
      @ite _ (Γ a7 = .inr 5) _ (
      Option.bind (f_Port_reset Γ φ a7) fun q9 =>
      (f_Bus_clear_L86 Γ  fu) q9.2 x0 (x1 + (1 : Int32))
      ) none
      ) none
set_option maxRecDepth 100000 in
set_option maxHeartbeats 4000000 in
theorem p_Bus_clear_L86 {w : jw_T} (hw : jok w) {Γ : gm_T} {n : Nat} (hG : gd w Γ n)  : ∀ (fu : Nat) {x : Bool} {φ : ph_T} {x0 : Nat} {x1 : Int32} {q : Unit × ph_T}, f_Bus_clear_L86 Γ  fu φ x0 x1 = some q → J w M_Bus_clear 86 [some (.ref x0), some (.int x1)] [] (pic Γ φ) n x 0 0 (fq Γ n (.inl none) q.2) := by
  intro fu
  induction fu with
  | zero =>
    intro x φ x0 x1 q H
    cases H
  | succ fu ih =>
    intro x φ x0 x1 q H
    unfold f_Bus_clear_L86 at H
    refine J_iload_n d_Bus_clear_86 rfl ?_
    refine J_iconst (v := 2) d_Bus_clear_87 (by decide) ?_
    refine J_icmp_ge (tgt := 106) d_Bus_clear_88 (by decide) ?_ ?_
    · intro c10
      rw [if_pos c10] at H
      refine J_aload_n d_Bus_clear_106 rfl ?_
      have g1 : Γ x0 = .inr 11 := by
        apply Classical.byContradiction
        intro q9
        rw [if_neg q9] at H
        cases H
      rw [if_pos g1] at H
      obtain ⟨q2, hq2, H⟩ := Option.bind_eq_some_iff.mp H
      refine J_callV (kc := 0) (ks := 0) (kc' := 0) (ks' := 0) (a := x0) (ci := 11) (as := []) (st := []) (mf_Bus_dropTickets hw) (mv_Bus_211 hw) d_Bus_clear_107 ln_Bus_dropTickets (by decide) (by first | exact Nat.le_of_ble_eq_true rfl | (simp only [List.map_cons, List.map_nil, List.sum_cons, List.sum_nil, va_rf_cat]; exact Nat.le_of_ble_eq_true rfl)) rfl ((hG _).1 _ g1 (by decide)).1 ((hG _).1 _ g1 (by decide)).2 (by unfold pic; rw [g1]; rfl) (jcl_at hw rfl) rfl (p_Bus_dropTickets hw hG hq2) ?_ (fun E h' n' x' e1 => by cases e1.1)
      intro v9 h9 n9 x9 e9
      obtain ⟨e91, e92, e93⟩ := e9
      cases e91
      subst e92
      subst e93
      clear x
      rename Bool => x
      show J _ _ _ _ [] _ _ _ _ _ _
      refine J_aload_n d_Bus_clear_110 rfl ?_
      refine J_iconst (v := 0) d_Bus_clear_111 (by decide) ?_
      refine F_putI (ci := 11) (k := 9) hG (cf_Bus hw) (fl_Bus_159 hw) (by decide) (by decide) rfl d_Bus_clear_112 rfl rfl rfl g1 ?_
      have H := Option.some.inj H
      subst H
      exact J_vret (st := []) d_Bus_clear_115 rfl ⟨rfl, rfl, rfl⟩
    · intro c10
      rw [if_neg c10] at H
      refine J_aload_n d_Bus_clear_91 rfl ?_
      have g3 : Γ x0 = .inr 11 := by
        apply Classical.byContradiction
        intro q9
        rw [if_neg q9] at H
        cases H
      rw [if_pos g3] at H
      refine F_getR (ci := 11) (k := 6) hG (cf_Bus hw) (fl_Bus_55 hw) (by decide) (by decide) rfl d_Bus_clear_92 g3 ?_
      refine J_iload_n d_Bus_clear_95 rfl ?_
      obtain ⟨a4, ha4, H⟩ := Option.bind_eq_some_iff.mp H
      rw [j_rf ha4]
      obtain ⟨N5, hN5, H⟩ := Option.bind_eq_some_iff.mp H
      obtain ⟨k6, hk6, H⟩ := Option.bind_eq_some_iff.mp H
      refine F_aald k6 hw hG (t := 7) rfl (by decide) d_Bus_clear_96 (gA_some hN5) (ix_some hk6) ?_
      obtain ⟨a7, ha7, H⟩ := Option.bind_eq_some_iff.mp H
      rw [j_rf ha7]
      have g8 : Γ a7 = .inr 5 := by
        apply Classical.byContradiction
        intro q9
        rw [if_neg q9] at H
        cases H
      rw [if_pos g8] at H
      obtain ⟨q9, hq9, H⟩ := Option.bind_eq_some_iff.mp H
      refine J_callV (kc := 0) (ks := 0) (kc' := 0) (ks' := 0) (a := a7) (ci := 5) (as := []) (st := []) (mf_Port_reset hw) (mv_Bus_286 hw) d_Bus_clear_97 ln_Port_reset (by decide) (by first | exact Nat.le_of_ble_eq_true rfl | (simp only [List.map_cons, List.map_nil, List.sum_cons, List.sum_nil, va_rf_cat]; exact Nat.le_of_ble_eq_true rfl)) rfl ((hG _).1 _ g8 (by decide)).1 ((hG _).1 _ g8 (by decide)).2 (by unfold pic; rw [g8]; rfl) (jcl_at hw rfl) rfl (p_Port_reset hw hG hq9) ?_ (fun E h' n' x' e1 => by cases e1.1)
      intro v9 h9 n9 x9 e9
      obtain ⟨e91, e92, e93⟩ := e9
      cases e91
      subst e92
      subst e93
      clear x
      rename Bool => x
      show J _ _ _ _ [] _ _ _ _ _ _
      refine J_iinc (v := x1 + 1) d_Bus_clear_100 rfl (by rw [show Int32.ofInt 1 = (1 : Int32) from by decide]) ?_
      refine J.ls (ls' := [some (.ref x0), some (.int (x1 + (1 : Int32)))]) rfl ?_
      refine J_goto (tgt := 86) d_Bus_clear_103 (by decide) ?_
      refine J.drop [true, true] rfl ?_
      exact ih H
def f_Bus_clear_L51 (Γ : gm_T)  : Nat → ph_T → Nat → Int32 → Option (Unit × ph_T)
  | 0, _, _, _ => none
  | fu + 1, φ, x0, x1 =>
    @ite _ (Γ x0 = .inr 11) _ (
    Option.bind (φ.2.2 x0 3) fun a12 =>
    Option.bind (gA Γ a12 9) fun N13 =>
    if (nI N13) ≤ x1 then
      f_Bus_clear_L86 Γ  jF φ x0 (0 : Int32)
    else
      Option.bind (gA Γ a12 9) fun N14 =>
      Option.bind (ix x1 N14) fun k15 =>
      Option.bind (φ.2.2 a12 k15) fun a16 =>
      @ite _ (Γ a16 = .inr 8) _ (
      Option.bind (f_Slave_reset Γ φ a16) fun q18 =>
      Option.bind (q18.2.2.2 x0 5) fun a19 =>
      Option.bind (gA Γ a19 7) fun N20 =>
      Option.bind (ix x1 N20) fun k21 =>
      Option.bind (q18.2.2.2 a19 k21) fun a22 =>
      @ite _ (Γ a22 = .inr 5) _ (
      Option.bind (f_Port_reset Γ q18.2 a22) fun q24 =>
      (f_Bus_clear_L51 Γ  fu) q24.2 x0 (x1 + (1 : Int32))
      ) none
      ) none
    ) none
set_option maxRecDepth 100000 in
set_option maxHeartbeats 4000000 in
theorem p_Bus_clear_L51 {w : jw_T} (hw : jok w) {Γ : gm_T} {n : Nat} (hG : gd w Γ n)  : ∀ (fu : Nat) {x : Bool} {φ : ph_T} {x0 : Nat} {x1 : Int32} {q : Unit × ph_T}, f_Bus_clear_L51 Γ  fu φ x0 x1 = some q → J w M_Bus_clear 51 [some (.ref x0), some (.int x1)] [] (pic Γ φ) n x 0 0 (fq Γ n (.inl none) q.2) := by
  intro fu
  induction fu with
  | zero =>
    intro x φ x0 x1 q H
    cases H
  | succ fu ih =>
    intro x φ x0 x1 q H
    unfold f_Bus_clear_L51 at H
    refine J_iload_n d_Bus_clear_51 rfl ?_
    refine J_aload_n d_Bus_clear_52 rfl ?_
    have g11 : Γ x0 = .inr 11 := by
      apply Classical.byContradiction
      intro q9
      rw [if_neg q9] at H
      cases H
    rw [if_pos g11] at H
    refine F_getR (ci := 11) (k := 3) hG (cf_Bus hw) (fl_Bus_45 hw) (by decide) (by decide) rfl d_Bus_clear_53 g11 ?_
    obtain ⟨a12, ha12, H⟩ := Option.bind_eq_some_iff.mp H
    rw [j_rf ha12]
    obtain ⟨N13, hN13, H⟩ := Option.bind_eq_some_iff.mp H
    refine F_alen hw hG (t := 9) rfl d_Bus_clear_56 (gA_some hN13) ?_
    refine J_icmp_ge (tgt := 84) d_Bus_clear_57 (by decide) ?_ ?_
    · intro c25
      rw [if_pos c25] at H
      refine J_iconst (v := 0) d_Bus_clear_84 (by decide) ?_
      refine J_istore_n d_Bus_clear_85 (Nat.le_of_ble_eq_true rfl) ?_
      refine J.ls (ls' := [some (.ref x0), some (.int (0 : Int32))]) rfl ?_
      refine J.drop [true, true] rfl ?_
      exact p_Bus_clear_L86 hw hG  _ H
    · intro c25
      rw [if_neg c25] at H
      refine J_aload_n d_Bus_clear_60 rfl ?_
      refine F_getR (ci := 11) (k := 3) hG (cf_Bus hw) (fl_Bus_45 hw) (by decide) (by decide) rfl d_Bus_clear_61 g11 ?_
      refine J_iload_n d_Bus_clear_64 rfl ?_
      try rw [j_rf ha12]
      obtain ⟨N14, hN14, H⟩ := Option.bind_eq_some_iff.mp H
      obtain ⟨k15, hk15, H⟩ := Option.bind_eq_some_iff.mp H
      refine F_aald k15 hw hG (t := 9) rfl (by decide) d_Bus_clear_65 (gA_some hN14) (ix_some hk15) ?_
      obtain ⟨a16, ha16, H⟩ := Option.bind_eq_some_iff.mp H
      rw [j_rf ha16]
      have g17 : Γ a16 = .inr 8 := by
        apply Classical.byContradiction
        intro q9
        rw [if_neg q9] at H
        cases H
      rw [if_pos g17] at H
      obtain ⟨q18, hq18, H⟩ := Option.bind_eq_some_iff.mp H
      refine J_callV (kc := 0) (ks := 0) (kc' := 0) (ks' := 0) (a := a16) (ci := 8) (as := []) (st := []) (mf_Slave_reset hw) (mv_Bus_294 hw) d_Bus_clear_66 ln_Slave_reset (by decide) (by first | exact Nat.le_of_ble_eq_true rfl | (simp only [List.map_cons, List.map_nil, List.sum_cons, List.sum_nil, va_rf_cat]; exact Nat.le_of_ble_eq_true rfl)) rfl ((hG _).1 _ g17 (by decide)).1 ((hG _).1 _ g17 (by decide)).2 (by unfold pic; rw [g17]; rfl) (jcl_at hw rfl) rfl (p_Slave_reset hw hG hq18) ?_ (fun E h' n' x' e1 => by cases e1.1)
      intro v9 h9 n9 x9 e9
      obtain ⟨e91, e92, e93⟩ := e9
      cases e91
      subst e92
      subst e93
      clear x
      rename Bool => x
      show J _ _ _ _ [] _ _ _ _ _ _
      refine J_aload_n d_Bus_clear_69 rfl ?_
      refine F_getR (ci := 11) (k := 5) hG (cf_Bus hw) (fl_Bus_49 hw) (by decide) (by decide) rfl d_Bus_clear_70 g11 ?_
      refine J_iload_n d_Bus_clear_73 rfl ?_
      obtain ⟨a19, ha19, H⟩ := Option.bind_eq_some_iff.mp H
      rw [j_rf ha19]
      obtain ⟨N20, hN20, H⟩ := Option.bind_eq_some_iff.mp H
      obtain ⟨k21, hk21, H⟩ := Option.bind_eq_some_iff.mp H
      refine F_aald k21 hw hG (t := 7) rfl (by decide) d_Bus_clear_74 (gA_some hN20) (ix_some hk21) ?_
      obtain ⟨a22, ha22, H⟩ := Option.bind_eq_some_iff.mp H
      rw [j_rf ha22]
      have g23 : Γ a22 = .inr 5 := by
        apply Classical.byContradiction
        intro q9
        rw [if_neg q9] at H
        cases H
      rw [if_pos g23] at H
      obtain ⟨q24, hq24, H⟩ := Option.bind_eq_some_iff.mp H
      refine J_callV (kc := 0) (ks := 0) (kc' := 0) (ks' := 0) (a := a22) (ci := 5) (as := []) (st := []) (mf_Port_reset hw) (mv_Bus_286 hw) d_Bus_clear_75 ln_Port_reset (by decide) (by first | exact Nat.le_of_ble_eq_true rfl | (simp only [List.map_cons, List.map_nil, List.sum_cons, List.sum_nil, va_rf_cat]; exact Nat.le_of_ble_eq_true rfl)) rfl ((hG _).1 _ g23 (by decide)).1 ((hG _).1 _ g23 (by decide)).2 (by unfold pic; rw [g23]; rfl) (jcl_at hw rfl) rfl (p_Port_reset hw hG hq24) ?_ (fun E h' n' x' e1 => by cases e1.1)
      intro v9 h9 n9 x9 e9
      obtain ⟨e91, e92, e93⟩ := e9
      cases e91
      subst e92
      subst e93
      clear x
      rename Bool => x
      show J _ _ _ _ [] _ _ _ _ _ _
      refine J_iinc (v := x1 + 1) d_Bus_clear_78 rfl (by rw [show Int32.ofInt 1 = (1 : Int32) from by decide]) ?_
      refine J.ls (ls' := [some (.ref x0), some (.int (x1 + (1 : Int32)))]) rfl ?_
      refine J_goto (tgt := 51) d_Bus_clear_81 (by decide) ?_
      refine J.drop [true, true] rfl ?_
      exact ih H
def f_Bus_clear_L16 (Γ : gm_T)  : Nat → ph_T → Nat → Int32 → Option (Unit × ph_T)
  | 0, _, _, _ => none
  | fu + 1, φ, x0, x1 =>
    @ite _ (Γ x0 = .inr 11) _ (
    Option.bind (φ.2.2 x0 2) fun a27 =>
    Option.bind (gA Γ a27 8) fun N28 =>
    if (nI N28) ≤ x1 then
      f_Bus_clear_L51 Γ  jF φ x0 (0 : Int32)
    else
      Option.bind (gA Γ a27 8) fun N29 =>
      Option.bind (ix x1 N29) fun k30 =>
      Option.bind (φ.2.2 a27 k30) fun a31 =>
      @ite _ (Γ a31 = .inr 7) _ (
      Option.bind (f_Master_resetSettings Γ φ a31) fun q33 =>
      Option.bind (q33.2.2.2 x0 4) fun a34 =>
      Option.bind (gA Γ a34 7) fun N35 =>
      Option.bind (ix x1 N35) fun k36 =>
      Option.bind (q33.2.2.2 a34 k36) fun a37 =>
      @ite _ (Γ a37 = .inr 5) _ (
      Option.bind (f_Port_reset Γ q33.2 a37) fun q39 =>
      (f_Bus_clear_L16 Γ  fu) q39.2 x0 (x1 + (1 : Int32))
      ) none
      ) none
    ) none
set_option maxRecDepth 100000 in
set_option maxHeartbeats 4000000 in
theorem p_Bus_clear_L16 {w : jw_T} (hw : jok w) {Γ : gm_T} {n : Nat} (hG : gd w Γ n)  : ∀ (fu : Nat) {x : Bool} {φ : ph_T} {x0 : Nat} {x1 : Int32} {q : Unit × ph_T}, f_Bus_clear_L16 Γ  fu φ x0 x1 = some q → J w M_Bus_clear 16 [some (.ref x0), some (.int x1)] [] (pic Γ φ) n x 0 0 (fq Γ n (.inl none) q.2) := by
  intro fu
  induction fu with
  | zero =>
    intro x φ x0 x1 q H
    cases H
  | succ fu ih =>
    intro x φ x0 x1 q H
    unfold f_Bus_clear_L16 at H
    refine J_iload_n d_Bus_clear_16 rfl ?_
    refine J_aload_n d_Bus_clear_17 rfl ?_
    have g26 : Γ x0 = .inr 11 := by
      apply Classical.byContradiction
      intro q9
      rw [if_neg q9] at H
      cases H
    rw [if_pos g26] at H
    refine F_getR (ci := 11) (k := 2) hG (cf_Bus hw) (fl_Bus_31 hw) (by decide) (by decide) rfl d_Bus_clear_18 g26 ?_
    obtain ⟨a27, ha27, H⟩ := Option.bind_eq_some_iff.mp H
    rw [j_rf ha27]
    obtain ⟨N28, hN28, H⟩ := Option.bind_eq_some_iff.mp H
    refine F_alen hw hG (t := 8) rfl d_Bus_clear_21 (gA_some hN28) ?_
    refine J_icmp_ge (tgt := 49) d_Bus_clear_22 (by decide) ?_ ?_
    · intro c40
      rw [if_pos c40] at H
      refine J_iconst (v := 0) d_Bus_clear_49 (by decide) ?_
      refine J_istore_n d_Bus_clear_50 (Nat.le_of_ble_eq_true rfl) ?_
      refine J.ls (ls' := [some (.ref x0), some (.int (0 : Int32))]) rfl ?_
      refine J.drop [true, true] rfl ?_
      exact p_Bus_clear_L51 hw hG  _ H
    · intro c40
      rw [if_neg c40] at H
      refine J_aload_n d_Bus_clear_25 rfl ?_
      refine F_getR (ci := 11) (k := 2) hG (cf_Bus hw) (fl_Bus_31 hw) (by decide) (by decide) rfl d_Bus_clear_26 g26 ?_
      refine J_iload_n d_Bus_clear_29 rfl ?_
      try rw [j_rf ha27]
      obtain ⟨N29, hN29, H⟩ := Option.bind_eq_some_iff.mp H
      obtain ⟨k30, hk30, H⟩ := Option.bind_eq_some_iff.mp H
      refine F_aald k30 hw hG (t := 8) rfl (by decide) d_Bus_clear_30 (gA_some hN29) (ix_some hk30) ?_
      obtain ⟨a31, ha31, H⟩ := Option.bind_eq_some_iff.mp H
      rw [j_rf ha31]
      have g32 : Γ a31 = .inr 7 := by
        apply Classical.byContradiction
        intro q9
        rw [if_neg q9] at H
        cases H
      rw [if_pos g32] at H
      obtain ⟨q33, hq33, H⟩ := Option.bind_eq_some_iff.mp H
      refine J_callV (kc := 0) (ks := 0) (kc' := 0) (ks' := 0) (a := a31) (ci := 7) (as := []) (st := []) (mf_Master_resetSettings hw) (mv_Bus_291 hw) d_Bus_clear_31 ln_Master_resetSettings (by decide) (by first | exact Nat.le_of_ble_eq_true rfl | (simp only [List.map_cons, List.map_nil, List.sum_cons, List.sum_nil, va_rf_cat]; exact Nat.le_of_ble_eq_true rfl)) rfl ((hG _).1 _ g32 (by decide)).1 ((hG _).1 _ g32 (by decide)).2 (by unfold pic; rw [g32]; rfl) (jcl_at hw rfl) rfl (p_Master_resetSettings hw hG hq33) ?_ (fun E h' n' x' e1 => by cases e1.1)
      intro v9 h9 n9 x9 e9
      obtain ⟨e91, e92, e93⟩ := e9
      cases e91
      subst e92
      subst e93
      clear x
      rename Bool => x
      show J _ _ _ _ [] _ _ _ _ _ _
      refine J_aload_n d_Bus_clear_34 rfl ?_
      refine F_getR (ci := 11) (k := 4) hG (cf_Bus hw) (fl_Bus_37 hw) (by decide) (by decide) rfl d_Bus_clear_35 g26 ?_
      refine J_iload_n d_Bus_clear_38 rfl ?_
      obtain ⟨a34, ha34, H⟩ := Option.bind_eq_some_iff.mp H
      rw [j_rf ha34]
      obtain ⟨N35, hN35, H⟩ := Option.bind_eq_some_iff.mp H
      obtain ⟨k36, hk36, H⟩ := Option.bind_eq_some_iff.mp H
      refine F_aald k36 hw hG (t := 7) rfl (by decide) d_Bus_clear_39 (gA_some hN35) (ix_some hk36) ?_
      obtain ⟨a37, ha37, H⟩ := Option.bind_eq_some_iff.mp H
      rw [j_rf ha37]
      have g38 : Γ a37 = .inr 5 := by
        apply Classical.byContradiction
        intro q9
        rw [if_neg q9] at H
        cases H
      rw [if_pos g38] at H
      obtain ⟨q39, hq39, H⟩ := Option.bind_eq_some_iff.mp H
      refine J_callV (kc := 0) (ks := 0) (kc' := 0) (ks' := 0) (a := a37) (ci := 5) (as := []) (st := []) (mf_Port_reset hw) (mv_Bus_286 hw) d_Bus_clear_40 ln_Port_reset (by decide) (by first | exact Nat.le_of_ble_eq_true rfl | (simp only [List.map_cons, List.map_nil, List.sum_cons, List.sum_nil, va_rf_cat]; exact Nat.le_of_ble_eq_true rfl)) rfl ((hG _).1 _ g38 (by decide)).1 ((hG _).1 _ g38 (by decide)).2 (by unfold pic; rw [g38]; rfl) (jcl_at hw rfl) rfl (p_Port_reset hw hG hq39) ?_ (fun E h' n' x' e1 => by cases e1.1)
      intro v9 h9 n9 x9 e9
      obtain ⟨e91, e92, e93⟩ := e9
      cases e91
      subst e92
      subst e93
      clear x
      rename Bool => x
      show J _ _ _ _ [] _ _ _ _ _ _
      refine J_iinc (v := x1 + 1) d_Bus_clear_43 rfl (by rw [show Int32.ofInt 1 = (1 : Int32) from by decide]) ?_
      refine J.ls (ls' := [some (.ref x0), some (.int (x1 + (1 : Int32)))]) rfl ?_
      refine J_goto (tgt := 16) d_Bus_clear_46 (by decide) ?_
      refine J.drop [true, true] rfl ?_
      exact ih H
def f_Bus_clear (Γ : gm_T) (φ : ph_T) (this : Nat) : Option (Unit × ph_T) :=
  @ite _ (Γ this = .inr 11) _ (
  Option.bind (φ.2.2 this 0) fun a42 =>
  @ite _ (Γ a42 = .inr 2) _ (
  Option.bind (f_Memory_reset Γ φ a42) fun q44 =>
  Option.bind (q44.2.2.2 this 1) fun a45 =>
  @ite _ (Γ a45 = .inr 10) _ (
  Option.bind (f_Switch_reset Γ q44.2 a45) fun q47 =>
  f_Bus_clear_L16 Γ  jF q47.2 this (0 : Int32)
  ) none
  ) none
  ) none
set_option maxRecDepth 100000 in
set_option maxHeartbeats 4000000 in
theorem p_Bus_clear {w : jw_T} (hw : jok w) {Γ : gm_T} {n : Nat} (hG : gd w Γ n) {x : Bool} {φ : ph_T} {this : Nat} {q : Unit × ph_T} (H : f_Bus_clear Γ φ this = some q) : jc w M_Bus_clear [.ref this] (pic Γ φ) n x 0 0 (fq Γ n (.inl none) q.2) := by
  refine jc.of (by simp only [jent_r, jent_i, jent_l, jent_a, jent_0]; exact Nat.le_of_ble_eq_true rfl) ?_
  have hls : jents [.ref this] (jm_nL M_Bus_clear) = [some (.ref this), none] := by simp only [jents, jent_r, jent_i, jent_l, jent_a, jent_0]; rfl
  rw [hls]
  clear hls
  unfold f_Bus_clear at H
  refine J_aload_n d_Bus_clear_0 rfl ?_
  have g41 : Γ this = .inr 11 := by
    apply Classical.byContradiction
    intro q9
    rw [if_neg q9] at H
    cases H
  rw [if_pos g41] at H
  refine F_getR (ci := 11) (k := 0) hG (cf_Bus hw) (fl_Bus_16 hw) (by decide) (by decide) rfl d_Bus_clear_1 g41 ?_
  obtain ⟨a42, ha42, H⟩ := Option.bind_eq_some_iff.mp H
  rw [j_rf ha42]
  have g43 : Γ a42 = .inr 2 := by
    apply Classical.byContradiction
    intro q9
    rw [if_neg q9] at H
    cases H
  rw [if_pos g43] at H
  obtain ⟨q44, hq44, H⟩ := Option.bind_eq_some_iff.mp H
  refine J_callV (kc := 0) (ks := 0) (kc' := 0) (ks' := 0) (a := a42) (ci := 2) (as := []) (st := []) (mf_Memory_reset hw) (mv_Bus_289 hw) d_Bus_clear_4 ln_Memory_reset (by decide) (by first | exact Nat.le_of_ble_eq_true rfl | (simp only [List.map_cons, List.map_nil, List.sum_cons, List.sum_nil, va_rf_cat]; exact Nat.le_of_ble_eq_true rfl)) rfl ((hG _).1 _ g43 (by decide)).1 ((hG _).1 _ g43 (by decide)).2 (by unfold pic; rw [g43]; rfl) (jcl_at hw rfl) rfl (p_Memory_reset hw hG hq44) ?_ (fun E h' n' x' e1 => by cases e1.1)
  intro v9 h9 n9 x9 e9
  obtain ⟨e91, e92, e93⟩ := e9
  cases e91
  subst e92
  subst e93
  clear x
  rename Bool => x
  show J _ _ _ _ [] _ _ _ _ _ _
  refine J_aload_n d_Bus_clear_7 rfl ?_
  refine F_getR (ci := 11) (k := 1) hG (cf_Bus hw) (fl_Bus_25 hw) (by decide) (by decide) rfl d_Bus_clear_8 g41 ?_
  obtain ⟨a45, ha45, H⟩ := Option.bind_eq_some_iff.mp H
  rw [j_rf ha45]
  have g46 : Γ a45 = .inr 10 := by
    apply Classical.byContradiction
    intro q9
    rw [if_neg q9] at H
    cases H
  rw [if_pos g46] at H
  obtain ⟨q47, hq47, H⟩ := Option.bind_eq_some_iff.mp H
  refine J_callV (kc := 0) (ks := 0) (kc' := 0) (ks' := 0) (a := a45) (ci := 10) (as := []) (st := []) (mf_Switch_reset hw) (mv_Bus_290 hw) d_Bus_clear_11 ln_Switch_reset (by decide) (by first | exact Nat.le_of_ble_eq_true rfl | (simp only [List.map_cons, List.map_nil, List.sum_cons, List.sum_nil, va_rf_cat]; exact Nat.le_of_ble_eq_true rfl)) rfl ((hG _).1 _ g46 (by decide)).1 ((hG _).1 _ g46 (by decide)).2 (by unfold pic; rw [g46]; rfl) (jcl_at hw rfl) rfl (p_Switch_reset hw hG hq47) ?_ (fun E h' n' x' e1 => by cases e1.1)
  intro v9 h9 n9 x9 e9
  obtain ⟨e91, e92, e93⟩ := e9
  cases e91
  subst e92
  subst e93
  clear x
  rename Bool => x
  show J _ _ _ _ [] _ _ _ _ _ _
  refine J_iconst (v := 0) d_Bus_clear_14 (by decide) ?_
  refine J_istore_n d_Bus_clear_15 (Nat.le_of_ble_eq_true rfl) ?_
  refine J.ls (ls' := [some (.ref this), some (.int (0 : Int32))]) rfl ?_
  refine J.drop [true, true] rfl ?_
  exact p_Bus_clear_L16 hw hG  _ H
theorem ln_Law_cell : (parseMethodDescriptor y_Law_cell.desc).map (fun q => q.parameters.length) = some 2 := by decide +kernel
def f_Law_cell_L13 (Γ : gm_T)  (φ : ph_T) (y0 : Int32) : Option (Int32 × ph_T) :=
  some (y0, φ)
set_option maxRecDepth 100000 in
set_option maxHeartbeats 4000000 in
theorem p_Law_cell_L13 {w : jw_T} (hw : jok w) {Γ : gm_T} {n : Nat} (hG : gd w Γ n)  {x : Bool} {φ : ph_T} {y0 : Int32} {q : Int32 × ph_T} (H : f_Law_cell_L13 Γ  φ y0 = some q) : J w M_Law_cell 13 [none, none] [.int y0] (pic Γ φ) n x 0 0 (fq Γ n (.inl (some (.int q.1))) q.2) := by
  unfold f_Law_cell_L13 at H
  have H := Option.some.inj H
  subst H
  exact J_iret (st := []) d_Law_cell_13 rfl rfl ⟨rfl, rfl, rfl⟩
def f_Law_cell (Γ : gm_T) (φ : ph_T) (p0 : Option Nat) (p1 : Int32) : Option (Int32 × ph_T) :=
  Option.bind p0 fun a1 =>
  Option.bind (gA Γ a1 0) fun N2 =>
  if (nI N2) ≤ p1 then
    f_Law_cell_L13 Γ  φ (0 : Int32)
  else
    Option.bind (gA Γ a1 0) fun N3 =>
    Option.bind (ix p1 N3) fun k4 =>
    f_Law_cell_L13 Γ  φ (φ.1 a1 k4)
set_option maxRecDepth 100000 in
set_option maxHeartbeats 4000000 in
theorem p_Law_cell {w : jw_T} (hw : jok w) {Γ : gm_T} {n : Nat} (hG : gd w Γ n) {x : Bool} {φ : ph_T} {p0 : Option Nat} {p1 : Int32} {q : Int32 × ph_T} (H : f_Law_cell Γ φ p0 p1 = some q) : jc w M_Law_cell [va_rf p0, .int p1] (pic Γ φ) n x 0 0 (fq Γ n (.inl (some (.int q.1))) q.2) := by
  refine jc.of (by simp only [jent_r, jent_i, jent_l, jent_a, jent_0]; exact Nat.le_of_ble_eq_true rfl) ?_
  have hls : jents [va_rf p0, .int p1] (jm_nL M_Law_cell) = [some (va_rf p0), some (.int p1)] := by simp only [jents, jent_r, jent_i, jent_l, jent_a, jent_0]; rfl
  rw [hls]
  clear hls
  unfold f_Law_cell at H
  refine J_iload_n d_Law_cell_0 rfl ?_
  refine J_aload_nO d_Law_cell_1 rfl ?_
  obtain ⟨a1, ha1, H⟩ := Option.bind_eq_some_iff.mp H
  rw [j_rf ha1]
  obtain ⟨N2, hN2, H⟩ := Option.bind_eq_some_iff.mp H
  refine F_alen hw hG (t := 0) rfl d_Law_cell_2 (gA_some hN2) ?_
  refine J_icmp_ge (tgt := 12) d_Law_cell_3 (by decide) ?_ ?_
  · intro c5
    rw [if_pos c5] at H
    refine J_iconst (v := 0) d_Law_cell_12 (by decide) ?_
    refine J.drop [false, false] rfl ?_
    exact p_Law_cell_L13 hw hG  H
  · intro c5
    rw [if_neg c5] at H
    refine J_aload_n d_Law_cell_6 rfl ?_
    refine J_iload_n d_Law_cell_7 rfl ?_
    obtain ⟨N3, hN3, H⟩ := Option.bind_eq_some_iff.mp H
    obtain ⟨k4, hk4, H⟩ := Option.bind_eq_some_iff.mp H
    refine F_iald k4 hw hG d_Law_cell_8 (gA_some hN3) (ix_some hk4) ?_
    refine J_goto (tgt := 13) d_Law_cell_9 (by decide) ?_
    refine J.drop [false, false] rfl ?_
    exact p_Law_cell_L13 hw hG  H
theorem ln_Bus_exchange : (parseMethodDescriptor y_Bus_exchange.desc).map (fun q => q.parameters.length) = some 3 := by decide +kernel
def f_Bus_exchange (Γ : gm_T) (φ : ph_T) (p0 : Option Nat) (p1 : Int32) (p2 : Int32) : Option (Int32 × ph_T) :=
  Option.bind p0 fun a1 =>
  Option.bind (gA Γ a1 0) fun N2 =>
  Option.bind (ix p1 N2) fun k3 =>
  Option.bind (gA Γ a1 0) fun N4 =>
  Option.bind (ix p1 N4) fun k5 =>
  some ((φ.1 a1 k3), (uI φ a1 k5 (p2 &&& (65535 : Int32))))
set_option maxRecDepth 100000 in
set_option maxHeartbeats 4000000 in
theorem p_Bus_exchange {w : jw_T} (hw : jok w) {Γ : gm_T} {n : Nat} (hG : gd w Γ n) {x : Bool} {φ : ph_T} {p0 : Option Nat} {p1 : Int32} {p2 : Int32} {q : Int32 × ph_T} (H : f_Bus_exchange Γ φ p0 p1 p2 = some q) : jc w M_Bus_exchange [va_rf p0, .int p1, .int p2] (pic Γ φ) n x 0 0 (fq Γ n (.inl (some (.int q.1))) q.2) := by
  refine jc.of (by simp only [jent_r, jent_i, jent_l, jent_a, jent_0]; exact Nat.le_of_ble_eq_true rfl) ?_
  have hls : jents [va_rf p0, .int p1, .int p2] (jm_nL M_Bus_exchange) = [some (va_rf p0), some (.int p1), some (.int p2), none] := by simp only [jents, jent_r, jent_i, jent_l, jent_a, jent_0]; rfl
  rw [hls]
  clear hls
  unfold f_Bus_exchange at H
  refine J_aload_nO d_Bus_exchange_0 rfl ?_
  refine J_iload_n d_Bus_exchange_1 rfl ?_
  obtain ⟨a1, ha1, H⟩ := Option.bind_eq_some_iff.mp H
  rw [j_rf ha1]
  obtain ⟨N2, hN2, H⟩ := Option.bind_eq_some_iff.mp H
  obtain ⟨k3, hk3, H⟩ := Option.bind_eq_some_iff.mp H
  refine F_iald k3 hw hG d_Bus_exchange_2 (gA_some hN2) (ix_some hk3) ?_
  refine J_istore_n d_Bus_exchange_3 (Nat.le_of_ble_eq_true rfl) ?_
  refine J.ls (ls' := [some (.ref a1), some (.int p1), some (.int p2), some (.int (φ.1 a1 k3))]) rfl ?_
  refine J_aload_n d_Bus_exchange_4 rfl ?_
  refine J_iload_n d_Bus_exchange_5 rfl ?_
  refine J_iload_n d_Bus_exchange_6 rfl ?_
  refine J_ldcw (v := 65535) d_Bus_exchange_7 (kn_Bus_343 hw) ?_
  refine J_iand d_Bus_exchange_10 ?_
  obtain ⟨N4, hN4, H⟩ := Option.bind_eq_some_iff.mp H
  obtain ⟨k5, hk5, H⟩ := Option.bind_eq_some_iff.mp H
  refine F_iast k5 hw hG d_Bus_exchange_11 (gA_some hN4) (ix_some hk5) ?_
  refine J_iload_n d_Bus_exchange_12 rfl ?_
  have H := Option.some.inj H
  subst H
  exact J_iret (st := []) d_Bus_exchange_13 rfl rfl ⟨rfl, rfl, rfl⟩
theorem ln_Memory_spoiltWordOf : (parseMethodDescriptor y_Memory_spoiltWordOf.desc).map (fun q => q.parameters.length) = some 1 := by decide +kernel
def f_Memory_spoiltWordOf (Γ : gm_T) (φ : ph_T) (p0 : Int32) : Option (Int32 × ph_T) :=
  some (((p0 >>> ((6 : Int32) &&& 31)) &&& (1023 : Int32)), φ)
set_option maxRecDepth 100000 in
set_option maxHeartbeats 4000000 in
theorem p_Memory_spoiltWordOf {w : jw_T} (hw : jok w) {Γ : gm_T} {n : Nat} (hG : gd w Γ n) {x : Bool} {φ : ph_T} {p0 : Int32} {q : Int32 × ph_T} (H : f_Memory_spoiltWordOf Γ φ p0 = some q) : jc w M_Memory_spoiltWordOf [.int p0] (pic Γ φ) n x 0 0 (fq Γ n (.inl (some (.int q.1))) q.2) := by
  refine jc.of (by simp only [jent_r, jent_i, jent_l, jent_a, jent_0]; exact Nat.le_of_ble_eq_true rfl) ?_
  have hls : jents [.int p0] (jm_nL M_Memory_spoiltWordOf) = [some (.int p0)] := by simp only [jents, jent_r, jent_i, jent_l, jent_a, jent_0]; rfl
  rw [hls]
  clear hls
  unfold f_Memory_spoiltWordOf at H
  refine J_iload_n d_Memory_spoiltWordOf_0 rfl ?_
  refine J_bipush (v := 6) d_Memory_spoiltWordOf_1 (by decide) ?_
  refine J_ishr d_Memory_spoiltWordOf_3 ?_
  refine J_sipush (v := 1023) d_Memory_spoiltWordOf_4 (by decide) ?_
  refine J_iand d_Memory_spoiltWordOf_7 ?_
  have H := Option.some.inj H
  subst H
  exact J_iret (st := []) d_Memory_spoiltWordOf_8 rfl rfl ⟨rfl, rfl, rfl⟩
theorem ln_Long_bitCount : (parseMethodDescriptor y_Long_bitCount.desc).map (fun q => q.parameters.length) = some 1 := by decide +kernel
def f_Long_bitCount (Γ : gm_T) (φ : ph_T) (p0 : Int64) : Option (Int32 × ph_T) :=
  some (((Int64.toInt32 ((((((((p0 - (((Int64.toUInt64 p0 >>> (Int64.toUInt64 (Int32.toInt64 (1 : Int32)) &&& Int64.toUInt64 63)).toInt64) &&& (6148914691236517205 : Int64))) &&& (3689348814741910323 : Int64)) + (((Int64.toUInt64 (p0 - (((Int64.toUInt64 p0 >>> (Int64.toUInt64 (Int32.toInt64 (1 : Int32)) &&& Int64.toUInt64 63)).toInt64) &&& (6148914691236517205 : Int64))) >>> (Int64.toUInt64 (Int32.toInt64 (2 : Int32)) &&& Int64.toUInt64 63)).toInt64) &&& (3689348814741910323 : Int64))) + ((Int64.toUInt64 (((p0 - (((Int64.toUInt64 p0 >>> (Int64.toUInt64 (Int32.toInt64 (1 : Int32)) &&& Int64.toUInt64 63)).toInt64) &&& (6148914691236517205 : Int64))) &&& (3689348814741910323 : Int64)) + (((Int64.toUInt64 (p0 - (((Int64.toUInt64 p0 >>> (Int64.toUInt64 (Int32.toInt64 (1 : Int32)) &&& Int64.toUInt64 63)).toInt64) &&& (6148914691236517205 : Int64))) >>> (Int64.toUInt64 (Int32.toInt64 (2 : Int32)) &&& Int64.toUInt64 63)).toInt64) &&& (3689348814741910323 : Int64))) >>> (Int64.toUInt64 (Int32.toInt64 (4 : Int32)) &&& Int64.toUInt64 63)).toInt64)) &&& (1085102592571150095 : Int64)) + ((Int64.toUInt64 (((((p0 - (((Int64.toUInt64 p0 >>> (Int64.toUInt64 (Int32.toInt64 (1 : Int32)) &&& Int64.toUInt64 63)).toInt64) &&& (6148914691236517205 : Int64))) &&& (3689348814741910323 : Int64)) + (((Int64.toUInt64 (p0 - (((Int64.toUInt64 p0 >>> (Int64.toUInt64 (Int32.toInt64 (1 : Int32)) &&& Int64.toUInt64 63)).toInt64) &&& (6148914691236517205 : Int64))) >>> (Int64.toUInt64 (Int32.toInt64 (2 : Int32)) &&& Int64.toUInt64 63)).toInt64) &&& (3689348814741910323 : Int64))) + ((Int64.toUInt64 (((p0 - (((Int64.toUInt64 p0 >>> (Int64.toUInt64 (Int32.toInt64 (1 : Int32)) &&& Int64.toUInt64 63)).toInt64) &&& (6148914691236517205 : Int64))) &&& (3689348814741910323 : Int64)) + (((Int64.toUInt64 (p0 - (((Int64.toUInt64 p0 >>> (Int64.toUInt64 (Int32.toInt64 (1 : Int32)) &&& Int64.toUInt64 63)).toInt64) &&& (6148914691236517205 : Int64))) >>> (Int64.toUInt64 (Int32.toInt64 (2 : Int32)) &&& Int64.toUInt64 63)).toInt64) &&& (3689348814741910323 : Int64))) >>> (Int64.toUInt64 (Int32.toInt64 (4 : Int32)) &&& Int64.toUInt64 63)).toInt64)) &&& (1085102592571150095 : Int64)) >>> (Int64.toUInt64 (Int32.toInt64 (8 : Int32)) &&& Int64.toUInt64 63)).toInt64)) + ((Int64.toUInt64 ((((((p0 - (((Int64.toUInt64 p0 >>> (Int64.toUInt64 (Int32.toInt64 (1 : Int32)) &&& Int64.toUInt64 63)).toInt64) &&& (6148914691236517205 : Int64))) &&& (3689348814741910323 : Int64)) + (((Int64.toUInt64 (p0 - (((Int64.toUInt64 p0 >>> (Int64.toUInt64 (Int32.toInt64 (1 : Int32)) &&& Int64.toUInt64 63)).toInt64) &&& (6148914691236517205 : Int64))) >>> (Int64.toUInt64 (Int32.toInt64 (2 : Int32)) &&& Int64.toUInt64 63)).toInt64) &&& (3689348814741910323 : Int64))) + ((Int64.toUInt64 (((p0 - (((Int64.toUInt64 p0 >>> (Int64.toUInt64 (Int32.toInt64 (1 : Int32)) &&& Int64.toUInt64 63)).toInt64) &&& (6148914691236517205 : Int64))) &&& (3689348814741910323 : Int64)) + (((Int64.toUInt64 (p0 - (((Int64.toUInt64 p0 >>> (Int64.toUInt64 (Int32.toInt64 (1 : Int32)) &&& Int64.toUInt64 63)).toInt64) &&& (6148914691236517205 : Int64))) >>> (Int64.toUInt64 (Int32.toInt64 (2 : Int32)) &&& Int64.toUInt64 63)).toInt64) &&& (3689348814741910323 : Int64))) >>> (Int64.toUInt64 (Int32.toInt64 (4 : Int32)) &&& Int64.toUInt64 63)).toInt64)) &&& (1085102592571150095 : Int64)) + ((Int64.toUInt64 (((((p0 - (((Int64.toUInt64 p0 >>> (Int64.toUInt64 (Int32.toInt64 (1 : Int32)) &&& Int64.toUInt64 63)).toInt64) &&& (6148914691236517205 : Int64))) &&& (3689348814741910323 : Int64)) + (((Int64.toUInt64 (p0 - (((Int64.toUInt64 p0 >>> (Int64.toUInt64 (Int32.toInt64 (1 : Int32)) &&& Int64.toUInt64 63)).toInt64) &&& (6148914691236517205 : Int64))) >>> (Int64.toUInt64 (Int32.toInt64 (2 : Int32)) &&& Int64.toUInt64 63)).toInt64) &&& (3689348814741910323 : Int64))) + ((Int64.toUInt64 (((p0 - (((Int64.toUInt64 p0 >>> (Int64.toUInt64 (Int32.toInt64 (1 : Int32)) &&& Int64.toUInt64 63)).toInt64) &&& (6148914691236517205 : Int64))) &&& (3689348814741910323 : Int64)) + (((Int64.toUInt64 (p0 - (((Int64.toUInt64 p0 >>> (Int64.toUInt64 (Int32.toInt64 (1 : Int32)) &&& Int64.toUInt64 63)).toInt64) &&& (6148914691236517205 : Int64))) >>> (Int64.toUInt64 (Int32.toInt64 (2 : Int32)) &&& Int64.toUInt64 63)).toInt64) &&& (3689348814741910323 : Int64))) >>> (Int64.toUInt64 (Int32.toInt64 (4 : Int32)) &&& Int64.toUInt64 63)).toInt64)) &&& (1085102592571150095 : Int64)) >>> (Int64.toUInt64 (Int32.toInt64 (8 : Int32)) &&& Int64.toUInt64 63)).toInt64)) >>> (Int64.toUInt64 (Int32.toInt64 (16 : Int32)) &&& Int64.toUInt64 63)).toInt64)) + ((Int64.toUInt64 (((((((p0 - (((Int64.toUInt64 p0 >>> (Int64.toUInt64 (Int32.toInt64 (1 : Int32)) &&& Int64.toUInt64 63)).toInt64) &&& (6148914691236517205 : Int64))) &&& (3689348814741910323 : Int64)) + (((Int64.toUInt64 (p0 - (((Int64.toUInt64 p0 >>> (Int64.toUInt64 (Int32.toInt64 (1 : Int32)) &&& Int64.toUInt64 63)).toInt64) &&& (6148914691236517205 : Int64))) >>> (Int64.toUInt64 (Int32.toInt64 (2 : Int32)) &&& Int64.toUInt64 63)).toInt64) &&& (3689348814741910323 : Int64))) + ((Int64.toUInt64 (((p0 - (((Int64.toUInt64 p0 >>> (Int64.toUInt64 (Int32.toInt64 (1 : Int32)) &&& Int64.toUInt64 63)).toInt64) &&& (6148914691236517205 : Int64))) &&& (3689348814741910323 : Int64)) + (((Int64.toUInt64 (p0 - (((Int64.toUInt64 p0 >>> (Int64.toUInt64 (Int32.toInt64 (1 : Int32)) &&& Int64.toUInt64 63)).toInt64) &&& (6148914691236517205 : Int64))) >>> (Int64.toUInt64 (Int32.toInt64 (2 : Int32)) &&& Int64.toUInt64 63)).toInt64) &&& (3689348814741910323 : Int64))) >>> (Int64.toUInt64 (Int32.toInt64 (4 : Int32)) &&& Int64.toUInt64 63)).toInt64)) &&& (1085102592571150095 : Int64)) + ((Int64.toUInt64 (((((p0 - (((Int64.toUInt64 p0 >>> (Int64.toUInt64 (Int32.toInt64 (1 : Int32)) &&& Int64.toUInt64 63)).toInt64) &&& (6148914691236517205 : Int64))) &&& (3689348814741910323 : Int64)) + (((Int64.toUInt64 (p0 - (((Int64.toUInt64 p0 >>> (Int64.toUInt64 (Int32.toInt64 (1 : Int32)) &&& Int64.toUInt64 63)).toInt64) &&& (6148914691236517205 : Int64))) >>> (Int64.toUInt64 (Int32.toInt64 (2 : Int32)) &&& Int64.toUInt64 63)).toInt64) &&& (3689348814741910323 : Int64))) + ((Int64.toUInt64 (((p0 - (((Int64.toUInt64 p0 >>> (Int64.toUInt64 (Int32.toInt64 (1 : Int32)) &&& Int64.toUInt64 63)).toInt64) &&& (6148914691236517205 : Int64))) &&& (3689348814741910323 : Int64)) + (((Int64.toUInt64 (p0 - (((Int64.toUInt64 p0 >>> (Int64.toUInt64 (Int32.toInt64 (1 : Int32)) &&& Int64.toUInt64 63)).toInt64) &&& (6148914691236517205 : Int64))) >>> (Int64.toUInt64 (Int32.toInt64 (2 : Int32)) &&& Int64.toUInt64 63)).toInt64) &&& (3689348814741910323 : Int64))) >>> (Int64.toUInt64 (Int32.toInt64 (4 : Int32)) &&& Int64.toUInt64 63)).toInt64)) &&& (1085102592571150095 : Int64)) >>> (Int64.toUInt64 (Int32.toInt64 (8 : Int32)) &&& Int64.toUInt64 63)).toInt64)) + ((Int64.toUInt64 ((((((p0 - (((Int64.toUInt64 p0 >>> (Int64.toUInt64 (Int32.toInt64 (1 : Int32)) &&& Int64.toUInt64 63)).toInt64) &&& (6148914691236517205 : Int64))) &&& (3689348814741910323 : Int64)) + (((Int64.toUInt64 (p0 - (((Int64.toUInt64 p0 >>> (Int64.toUInt64 (Int32.toInt64 (1 : Int32)) &&& Int64.toUInt64 63)).toInt64) &&& (6148914691236517205 : Int64))) >>> (Int64.toUInt64 (Int32.toInt64 (2 : Int32)) &&& Int64.toUInt64 63)).toInt64) &&& (3689348814741910323 : Int64))) + ((Int64.toUInt64 (((p0 - (((Int64.toUInt64 p0 >>> (Int64.toUInt64 (Int32.toInt64 (1 : Int32)) &&& Int64.toUInt64 63)).toInt64) &&& (6148914691236517205 : Int64))) &&& (3689348814741910323 : Int64)) + (((Int64.toUInt64 (p0 - (((Int64.toUInt64 p0 >>> (Int64.toUInt64 (Int32.toInt64 (1 : Int32)) &&& Int64.toUInt64 63)).toInt64) &&& (6148914691236517205 : Int64))) >>> (Int64.toUInt64 (Int32.toInt64 (2 : Int32)) &&& Int64.toUInt64 63)).toInt64) &&& (3689348814741910323 : Int64))) >>> (Int64.toUInt64 (Int32.toInt64 (4 : Int32)) &&& Int64.toUInt64 63)).toInt64)) &&& (1085102592571150095 : Int64)) + ((Int64.toUInt64 (((((p0 - (((Int64.toUInt64 p0 >>> (Int64.toUInt64 (Int32.toInt64 (1 : Int32)) &&& Int64.toUInt64 63)).toInt64) &&& (6148914691236517205 : Int64))) &&& (3689348814741910323 : Int64)) + (((Int64.toUInt64 (p0 - (((Int64.toUInt64 p0 >>> (Int64.toUInt64 (Int32.toInt64 (1 : Int32)) &&& Int64.toUInt64 63)).toInt64) &&& (6148914691236517205 : Int64))) >>> (Int64.toUInt64 (Int32.toInt64 (2 : Int32)) &&& Int64.toUInt64 63)).toInt64) &&& (3689348814741910323 : Int64))) + ((Int64.toUInt64 (((p0 - (((Int64.toUInt64 p0 >>> (Int64.toUInt64 (Int32.toInt64 (1 : Int32)) &&& Int64.toUInt64 63)).toInt64) &&& (6148914691236517205 : Int64))) &&& (3689348814741910323 : Int64)) + (((Int64.toUInt64 (p0 - (((Int64.toUInt64 p0 >>> (Int64.toUInt64 (Int32.toInt64 (1 : Int32)) &&& Int64.toUInt64 63)).toInt64) &&& (6148914691236517205 : Int64))) >>> (Int64.toUInt64 (Int32.toInt64 (2 : Int32)) &&& Int64.toUInt64 63)).toInt64) &&& (3689348814741910323 : Int64))) >>> (Int64.toUInt64 (Int32.toInt64 (4 : Int32)) &&& Int64.toUInt64 63)).toInt64)) &&& (1085102592571150095 : Int64)) >>> (Int64.toUInt64 (Int32.toInt64 (8 : Int32)) &&& Int64.toUInt64 63)).toInt64)) >>> (Int64.toUInt64 (Int32.toInt64 (16 : Int32)) &&& Int64.toUInt64 63)).toInt64)) >>> (Int64.toUInt64 (Int32.toInt64 (32 : Int32)) &&& Int64.toUInt64 63)).toInt64))) &&& (127 : Int32)), φ)
set_option maxRecDepth 100000 in
set_option maxHeartbeats 4000000 in
theorem p_Long_bitCount {w : jw_T} (hw : jok w) {Γ : gm_T} {n : Nat} (hG : gd w Γ n) {x : Bool} {φ : ph_T} {p0 : Int64} {q : Int32 × ph_T} (H : f_Long_bitCount Γ φ p0 = some q) : jc w M_Long_bitCount [.long p0] (pic Γ φ) n x 0 0 (fq Γ n (.inl (some (.int q.1))) q.2) := by
  refine jc.of (by simp only [jent_r, jent_i, jent_l, jent_a, jent_0]; exact Nat.le_of_ble_eq_true rfl) ?_
  have hls : jents [.long p0] (jm_nL M_Long_bitCount) = [some (.long p0), none] := by simp only [jents, jent_r, jent_i, jent_l, jent_a, jent_0]; rfl
  rw [hls]
  clear hls
  unfold f_Long_bitCount at H
  refine J_lload_n d_Long_bitCount_0 rfl ?_
  refine J_lload_n d_Long_bitCount_1 rfl ?_
  refine J_iconst (v := 1) d_Long_bitCount_2 (by decide) ?_
  refine J_lushr d_Long_bitCount_3 ?_
  refine J_ldc2 (v := 6148914691236517205) d_Long_bitCount_4 (kn_Long_314 hw) ?_
  refine J_land d_Long_bitCount_7 ?_
  refine J_lsub d_Long_bitCount_8 ?_
  refine J_lstore_n d_Long_bitCount_9 (Nat.le_of_ble_eq_true rfl) ?_
  refine J.ls (ls' := [some (.long (p0 - (((Int64.toUInt64 p0 >>> (Int64.toUInt64 (Int32.toInt64 (1 : Int32)) &&& Int64.toUInt64 63)).toInt64) &&& (6148914691236517205 : Int64)))), none]) rfl ?_
  refine J_lload_n d_Long_bitCount_10 rfl ?_
  refine J_ldc2 (v := 3689348814741910323) d_Long_bitCount_11 (kn_Long_316 hw) ?_
  refine J_land d_Long_bitCount_14 ?_
  refine J_lload_n d_Long_bitCount_15 rfl ?_
  refine J_iconst (v := 2) d_Long_bitCount_16 (by decide) ?_
  refine J_lushr d_Long_bitCount_17 ?_
  refine J_ldc2 (v := 3689348814741910323) d_Long_bitCount_18 (kn_Long_316 hw) ?_
  refine J_land d_Long_bitCount_21 ?_
  refine J_ladd d_Long_bitCount_22 ?_
  refine J_lstore_n d_Long_bitCount_23 (Nat.le_of_ble_eq_true rfl) ?_
  refine J.ls (ls' := [some (.long (((p0 - (((Int64.toUInt64 p0 >>> (Int64.toUInt64 (Int32.toInt64 (1 : Int32)) &&& Int64.toUInt64 63)).toInt64) &&& (6148914691236517205 : Int64))) &&& (3689348814741910323 : Int64)) + (((Int64.toUInt64 (p0 - (((Int64.toUInt64 p0 >>> (Int64.toUInt64 (Int32.toInt64 (1 : Int32)) &&& Int64.toUInt64 63)).toInt64) &&& (6148914691236517205 : Int64))) >>> (Int64.toUInt64 (Int32.toInt64 (2 : Int32)) &&& Int64.toUInt64 63)).toInt64) &&& (3689348814741910323 : Int64)))), none]) rfl ?_
  refine J_lload_n d_Long_bitCount_24 rfl ?_
  refine J_lload_n d_Long_bitCount_25 rfl ?_
  refine J_iconst (v := 4) d_Long_bitCount_26 (by decide) ?_
  refine J_lushr d_Long_bitCount_27 ?_
  refine J_ladd d_Long_bitCount_28 ?_
  refine J_ldc2 (v := 1085102592571150095) d_Long_bitCount_29 (kn_Long_318 hw) ?_
  refine J_land d_Long_bitCount_32 ?_
  refine J_lstore_n d_Long_bitCount_33 (Nat.le_of_ble_eq_true rfl) ?_
  refine J.ls (ls' := [some (.long (((((p0 - (((Int64.toUInt64 p0 >>> (Int64.toUInt64 (Int32.toInt64 (1 : Int32)) &&& Int64.toUInt64 63)).toInt64) &&& (6148914691236517205 : Int64))) &&& (3689348814741910323 : Int64)) + (((Int64.toUInt64 (p0 - (((Int64.toUInt64 p0 >>> (Int64.toUInt64 (Int32.toInt64 (1 : Int32)) &&& Int64.toUInt64 63)).toInt64) &&& (6148914691236517205 : Int64))) >>> (Int64.toUInt64 (Int32.toInt64 (2 : Int32)) &&& Int64.toUInt64 63)).toInt64) &&& (3689348814741910323 : Int64))) + ((Int64.toUInt64 (((p0 - (((Int64.toUInt64 p0 >>> (Int64.toUInt64 (Int32.toInt64 (1 : Int32)) &&& Int64.toUInt64 63)).toInt64) &&& (6148914691236517205 : Int64))) &&& (3689348814741910323 : Int64)) + (((Int64.toUInt64 (p0 - (((Int64.toUInt64 p0 >>> (Int64.toUInt64 (Int32.toInt64 (1 : Int32)) &&& Int64.toUInt64 63)).toInt64) &&& (6148914691236517205 : Int64))) >>> (Int64.toUInt64 (Int32.toInt64 (2 : Int32)) &&& Int64.toUInt64 63)).toInt64) &&& (3689348814741910323 : Int64))) >>> (Int64.toUInt64 (Int32.toInt64 (4 : Int32)) &&& Int64.toUInt64 63)).toInt64)) &&& (1085102592571150095 : Int64))), none]) rfl ?_
  refine J_lload_n d_Long_bitCount_34 rfl ?_
  refine J_lload_n d_Long_bitCount_35 rfl ?_
  refine J_bipush (v := 8) d_Long_bitCount_36 (by decide) ?_
  refine J_lushr d_Long_bitCount_38 ?_
  refine J_ladd d_Long_bitCount_39 ?_
  refine J_lstore_n d_Long_bitCount_40 (Nat.le_of_ble_eq_true rfl) ?_
  refine J.ls (ls' := [some (.long ((((((p0 - (((Int64.toUInt64 p0 >>> (Int64.toUInt64 (Int32.toInt64 (1 : Int32)) &&& Int64.toUInt64 63)).toInt64) &&& (6148914691236517205 : Int64))) &&& (3689348814741910323 : Int64)) + (((Int64.toUInt64 (p0 - (((Int64.toUInt64 p0 >>> (Int64.toUInt64 (Int32.toInt64 (1 : Int32)) &&& Int64.toUInt64 63)).toInt64) &&& (6148914691236517205 : Int64))) >>> (Int64.toUInt64 (Int32.toInt64 (2 : Int32)) &&& Int64.toUInt64 63)).toInt64) &&& (3689348814741910323 : Int64))) + ((Int64.toUInt64 (((p0 - (((Int64.toUInt64 p0 >>> (Int64.toUInt64 (Int32.toInt64 (1 : Int32)) &&& Int64.toUInt64 63)).toInt64) &&& (6148914691236517205 : Int64))) &&& (3689348814741910323 : Int64)) + (((Int64.toUInt64 (p0 - (((Int64.toUInt64 p0 >>> (Int64.toUInt64 (Int32.toInt64 (1 : Int32)) &&& Int64.toUInt64 63)).toInt64) &&& (6148914691236517205 : Int64))) >>> (Int64.toUInt64 (Int32.toInt64 (2 : Int32)) &&& Int64.toUInt64 63)).toInt64) &&& (3689348814741910323 : Int64))) >>> (Int64.toUInt64 (Int32.toInt64 (4 : Int32)) &&& Int64.toUInt64 63)).toInt64)) &&& (1085102592571150095 : Int64)) + ((Int64.toUInt64 (((((p0 - (((Int64.toUInt64 p0 >>> (Int64.toUInt64 (Int32.toInt64 (1 : Int32)) &&& Int64.toUInt64 63)).toInt64) &&& (6148914691236517205 : Int64))) &&& (3689348814741910323 : Int64)) + (((Int64.toUInt64 (p0 - (((Int64.toUInt64 p0 >>> (Int64.toUInt64 (Int32.toInt64 (1 : Int32)) &&& Int64.toUInt64 63)).toInt64) &&& (6148914691236517205 : Int64))) >>> (Int64.toUInt64 (Int32.toInt64 (2 : Int32)) &&& Int64.toUInt64 63)).toInt64) &&& (3689348814741910323 : Int64))) + ((Int64.toUInt64 (((p0 - (((Int64.toUInt64 p0 >>> (Int64.toUInt64 (Int32.toInt64 (1 : Int32)) &&& Int64.toUInt64 63)).toInt64) &&& (6148914691236517205 : Int64))) &&& (3689348814741910323 : Int64)) + (((Int64.toUInt64 (p0 - (((Int64.toUInt64 p0 >>> (Int64.toUInt64 (Int32.toInt64 (1 : Int32)) &&& Int64.toUInt64 63)).toInt64) &&& (6148914691236517205 : Int64))) >>> (Int64.toUInt64 (Int32.toInt64 (2 : Int32)) &&& Int64.toUInt64 63)).toInt64) &&& (3689348814741910323 : Int64))) >>> (Int64.toUInt64 (Int32.toInt64 (4 : Int32)) &&& Int64.toUInt64 63)).toInt64)) &&& (1085102592571150095 : Int64)) >>> (Int64.toUInt64 (Int32.toInt64 (8 : Int32)) &&& Int64.toUInt64 63)).toInt64))), none]) rfl ?_
  refine J_lload_n d_Long_bitCount_41 rfl ?_
  refine J_lload_n d_Long_bitCount_42 rfl ?_
  refine J_bipush (v := 16) d_Long_bitCount_43 (by decide) ?_
  refine J_lushr d_Long_bitCount_45 ?_
  refine J_ladd d_Long_bitCount_46 ?_
  refine J_lstore_n d_Long_bitCount_47 (Nat.le_of_ble_eq_true rfl) ?_
  refine J.ls (ls' := [some (.long (((((((p0 - (((Int64.toUInt64 p0 >>> (Int64.toUInt64 (Int32.toInt64 (1 : Int32)) &&& Int64.toUInt64 63)).toInt64) &&& (6148914691236517205 : Int64))) &&& (3689348814741910323 : Int64)) + (((Int64.toUInt64 (p0 - (((Int64.toUInt64 p0 >>> (Int64.toUInt64 (Int32.toInt64 (1 : Int32)) &&& Int64.toUInt64 63)).toInt64) &&& (6148914691236517205 : Int64))) >>> (Int64.toUInt64 (Int32.toInt64 (2 : Int32)) &&& Int64.toUInt64 63)).toInt64) &&& (3689348814741910323 : Int64))) + ((Int64.toUInt64 (((p0 - (((Int64.toUInt64 p0 >>> (Int64.toUInt64 (Int32.toInt64 (1 : Int32)) &&& Int64.toUInt64 63)).toInt64) &&& (6148914691236517205 : Int64))) &&& (3689348814741910323 : Int64)) + (((Int64.toUInt64 (p0 - (((Int64.toUInt64 p0 >>> (Int64.toUInt64 (Int32.toInt64 (1 : Int32)) &&& Int64.toUInt64 63)).toInt64) &&& (6148914691236517205 : Int64))) >>> (Int64.toUInt64 (Int32.toInt64 (2 : Int32)) &&& Int64.toUInt64 63)).toInt64) &&& (3689348814741910323 : Int64))) >>> (Int64.toUInt64 (Int32.toInt64 (4 : Int32)) &&& Int64.toUInt64 63)).toInt64)) &&& (1085102592571150095 : Int64)) + ((Int64.toUInt64 (((((p0 - (((Int64.toUInt64 p0 >>> (Int64.toUInt64 (Int32.toInt64 (1 : Int32)) &&& Int64.toUInt64 63)).toInt64) &&& (6148914691236517205 : Int64))) &&& (3689348814741910323 : Int64)) + (((Int64.toUInt64 (p0 - (((Int64.toUInt64 p0 >>> (Int64.toUInt64 (Int32.toInt64 (1 : Int32)) &&& Int64.toUInt64 63)).toInt64) &&& (6148914691236517205 : Int64))) >>> (Int64.toUInt64 (Int32.toInt64 (2 : Int32)) &&& Int64.toUInt64 63)).toInt64) &&& (3689348814741910323 : Int64))) + ((Int64.toUInt64 (((p0 - (((Int64.toUInt64 p0 >>> (Int64.toUInt64 (Int32.toInt64 (1 : Int32)) &&& Int64.toUInt64 63)).toInt64) &&& (6148914691236517205 : Int64))) &&& (3689348814741910323 : Int64)) + (((Int64.toUInt64 (p0 - (((Int64.toUInt64 p0 >>> (Int64.toUInt64 (Int32.toInt64 (1 : Int32)) &&& Int64.toUInt64 63)).toInt64) &&& (6148914691236517205 : Int64))) >>> (Int64.toUInt64 (Int32.toInt64 (2 : Int32)) &&& Int64.toUInt64 63)).toInt64) &&& (3689348814741910323 : Int64))) >>> (Int64.toUInt64 (Int32.toInt64 (4 : Int32)) &&& Int64.toUInt64 63)).toInt64)) &&& (1085102592571150095 : Int64)) >>> (Int64.toUInt64 (Int32.toInt64 (8 : Int32)) &&& Int64.toUInt64 63)).toInt64)) + ((Int64.toUInt64 ((((((p0 - (((Int64.toUInt64 p0 >>> (Int64.toUInt64 (Int32.toInt64 (1 : Int32)) &&& Int64.toUInt64 63)).toInt64) &&& (6148914691236517205 : Int64))) &&& (3689348814741910323 : Int64)) + (((Int64.toUInt64 (p0 - (((Int64.toUInt64 p0 >>> (Int64.toUInt64 (Int32.toInt64 (1 : Int32)) &&& Int64.toUInt64 63)).toInt64) &&& (6148914691236517205 : Int64))) >>> (Int64.toUInt64 (Int32.toInt64 (2 : Int32)) &&& Int64.toUInt64 63)).toInt64) &&& (3689348814741910323 : Int64))) + ((Int64.toUInt64 (((p0 - (((Int64.toUInt64 p0 >>> (Int64.toUInt64 (Int32.toInt64 (1 : Int32)) &&& Int64.toUInt64 63)).toInt64) &&& (6148914691236517205 : Int64))) &&& (3689348814741910323 : Int64)) + (((Int64.toUInt64 (p0 - (((Int64.toUInt64 p0 >>> (Int64.toUInt64 (Int32.toInt64 (1 : Int32)) &&& Int64.toUInt64 63)).toInt64) &&& (6148914691236517205 : Int64))) >>> (Int64.toUInt64 (Int32.toInt64 (2 : Int32)) &&& Int64.toUInt64 63)).toInt64) &&& (3689348814741910323 : Int64))) >>> (Int64.toUInt64 (Int32.toInt64 (4 : Int32)) &&& Int64.toUInt64 63)).toInt64)) &&& (1085102592571150095 : Int64)) + ((Int64.toUInt64 (((((p0 - (((Int64.toUInt64 p0 >>> (Int64.toUInt64 (Int32.toInt64 (1 : Int32)) &&& Int64.toUInt64 63)).toInt64) &&& (6148914691236517205 : Int64))) &&& (3689348814741910323 : Int64)) + (((Int64.toUInt64 (p0 - (((Int64.toUInt64 p0 >>> (Int64.toUInt64 (Int32.toInt64 (1 : Int32)) &&& Int64.toUInt64 63)).toInt64) &&& (6148914691236517205 : Int64))) >>> (Int64.toUInt64 (Int32.toInt64 (2 : Int32)) &&& Int64.toUInt64 63)).toInt64) &&& (3689348814741910323 : Int64))) + ((Int64.toUInt64 (((p0 - (((Int64.toUInt64 p0 >>> (Int64.toUInt64 (Int32.toInt64 (1 : Int32)) &&& Int64.toUInt64 63)).toInt64) &&& (6148914691236517205 : Int64))) &&& (3689348814741910323 : Int64)) + (((Int64.toUInt64 (p0 - (((Int64.toUInt64 p0 >>> (Int64.toUInt64 (Int32.toInt64 (1 : Int32)) &&& Int64.toUInt64 63)).toInt64) &&& (6148914691236517205 : Int64))) >>> (Int64.toUInt64 (Int32.toInt64 (2 : Int32)) &&& Int64.toUInt64 63)).toInt64) &&& (3689348814741910323 : Int64))) >>> (Int64.toUInt64 (Int32.toInt64 (4 : Int32)) &&& Int64.toUInt64 63)).toInt64)) &&& (1085102592571150095 : Int64)) >>> (Int64.toUInt64 (Int32.toInt64 (8 : Int32)) &&& Int64.toUInt64 63)).toInt64)) >>> (Int64.toUInt64 (Int32.toInt64 (16 : Int32)) &&& Int64.toUInt64 63)).toInt64))), none]) rfl ?_
  refine J_lload_n d_Long_bitCount_48 rfl ?_
  refine J_lload_n d_Long_bitCount_49 rfl ?_
  refine J_bipush (v := 32) d_Long_bitCount_50 (by decide) ?_
  refine J_lushr d_Long_bitCount_52 ?_
  refine J_ladd d_Long_bitCount_53 ?_
  refine J_lstore_n d_Long_bitCount_54 (Nat.le_of_ble_eq_true rfl) ?_
  refine J.ls (ls' := [some (.long ((((((((p0 - (((Int64.toUInt64 p0 >>> (Int64.toUInt64 (Int32.toInt64 (1 : Int32)) &&& Int64.toUInt64 63)).toInt64) &&& (6148914691236517205 : Int64))) &&& (3689348814741910323 : Int64)) + (((Int64.toUInt64 (p0 - (((Int64.toUInt64 p0 >>> (Int64.toUInt64 (Int32.toInt64 (1 : Int32)) &&& Int64.toUInt64 63)).toInt64) &&& (6148914691236517205 : Int64))) >>> (Int64.toUInt64 (Int32.toInt64 (2 : Int32)) &&& Int64.toUInt64 63)).toInt64) &&& (3689348814741910323 : Int64))) + ((Int64.toUInt64 (((p0 - (((Int64.toUInt64 p0 >>> (Int64.toUInt64 (Int32.toInt64 (1 : Int32)) &&& Int64.toUInt64 63)).toInt64) &&& (6148914691236517205 : Int64))) &&& (3689348814741910323 : Int64)) + (((Int64.toUInt64 (p0 - (((Int64.toUInt64 p0 >>> (Int64.toUInt64 (Int32.toInt64 (1 : Int32)) &&& Int64.toUInt64 63)).toInt64) &&& (6148914691236517205 : Int64))) >>> (Int64.toUInt64 (Int32.toInt64 (2 : Int32)) &&& Int64.toUInt64 63)).toInt64) &&& (3689348814741910323 : Int64))) >>> (Int64.toUInt64 (Int32.toInt64 (4 : Int32)) &&& Int64.toUInt64 63)).toInt64)) &&& (1085102592571150095 : Int64)) + ((Int64.toUInt64 (((((p0 - (((Int64.toUInt64 p0 >>> (Int64.toUInt64 (Int32.toInt64 (1 : Int32)) &&& Int64.toUInt64 63)).toInt64) &&& (6148914691236517205 : Int64))) &&& (3689348814741910323 : Int64)) + (((Int64.toUInt64 (p0 - (((Int64.toUInt64 p0 >>> (Int64.toUInt64 (Int32.toInt64 (1 : Int32)) &&& Int64.toUInt64 63)).toInt64) &&& (6148914691236517205 : Int64))) >>> (Int64.toUInt64 (Int32.toInt64 (2 : Int32)) &&& Int64.toUInt64 63)).toInt64) &&& (3689348814741910323 : Int64))) + ((Int64.toUInt64 (((p0 - (((Int64.toUInt64 p0 >>> (Int64.toUInt64 (Int32.toInt64 (1 : Int32)) &&& Int64.toUInt64 63)).toInt64) &&& (6148914691236517205 : Int64))) &&& (3689348814741910323 : Int64)) + (((Int64.toUInt64 (p0 - (((Int64.toUInt64 p0 >>> (Int64.toUInt64 (Int32.toInt64 (1 : Int32)) &&& Int64.toUInt64 63)).toInt64) &&& (6148914691236517205 : Int64))) >>> (Int64.toUInt64 (Int32.toInt64 (2 : Int32)) &&& Int64.toUInt64 63)).toInt64) &&& (3689348814741910323 : Int64))) >>> (Int64.toUInt64 (Int32.toInt64 (4 : Int32)) &&& Int64.toUInt64 63)).toInt64)) &&& (1085102592571150095 : Int64)) >>> (Int64.toUInt64 (Int32.toInt64 (8 : Int32)) &&& Int64.toUInt64 63)).toInt64)) + ((Int64.toUInt64 ((((((p0 - (((Int64.toUInt64 p0 >>> (Int64.toUInt64 (Int32.toInt64 (1 : Int32)) &&& Int64.toUInt64 63)).toInt64) &&& (6148914691236517205 : Int64))) &&& (3689348814741910323 : Int64)) + (((Int64.toUInt64 (p0 - (((Int64.toUInt64 p0 >>> (Int64.toUInt64 (Int32.toInt64 (1 : Int32)) &&& Int64.toUInt64 63)).toInt64) &&& (6148914691236517205 : Int64))) >>> (Int64.toUInt64 (Int32.toInt64 (2 : Int32)) &&& Int64.toUInt64 63)).toInt64) &&& (3689348814741910323 : Int64))) + ((Int64.toUInt64 (((p0 - (((Int64.toUInt64 p0 >>> (Int64.toUInt64 (Int32.toInt64 (1 : Int32)) &&& Int64.toUInt64 63)).toInt64) &&& (6148914691236517205 : Int64))) &&& (3689348814741910323 : Int64)) + (((Int64.toUInt64 (p0 - (((Int64.toUInt64 p0 >>> (Int64.toUInt64 (Int32.toInt64 (1 : Int32)) &&& Int64.toUInt64 63)).toInt64) &&& (6148914691236517205 : Int64))) >>> (Int64.toUInt64 (Int32.toInt64 (2 : Int32)) &&& Int64.toUInt64 63)).toInt64) &&& (3689348814741910323 : Int64))) >>> (Int64.toUInt64 (Int32.toInt64 (4 : Int32)) &&& Int64.toUInt64 63)).toInt64)) &&& (1085102592571150095 : Int64)) + ((Int64.toUInt64 (((((p0 - (((Int64.toUInt64 p0 >>> (Int64.toUInt64 (Int32.toInt64 (1 : Int32)) &&& Int64.toUInt64 63)).toInt64) &&& (6148914691236517205 : Int64))) &&& (3689348814741910323 : Int64)) + (((Int64.toUInt64 (p0 - (((Int64.toUInt64 p0 >>> (Int64.toUInt64 (Int32.toInt64 (1 : Int32)) &&& Int64.toUInt64 63)).toInt64) &&& (6148914691236517205 : Int64))) >>> (Int64.toUInt64 (Int32.toInt64 (2 : Int32)) &&& Int64.toUInt64 63)).toInt64) &&& (3689348814741910323 : Int64))) + ((Int64.toUInt64 (((p0 - (((Int64.toUInt64 p0 >>> (Int64.toUInt64 (Int32.toInt64 (1 : Int32)) &&& Int64.toUInt64 63)).toInt64) &&& (6148914691236517205 : Int64))) &&& (3689348814741910323 : Int64)) + (((Int64.toUInt64 (p0 - (((Int64.toUInt64 p0 >>> (Int64.toUInt64 (Int32.toInt64 (1 : Int32)) &&& Int64.toUInt64 63)).toInt64) &&& (6148914691236517205 : Int64))) >>> (Int64.toUInt64 (Int32.toInt64 (2 : Int32)) &&& Int64.toUInt64 63)).toInt64) &&& (3689348814741910323 : Int64))) >>> (Int64.toUInt64 (Int32.toInt64 (4 : Int32)) &&& Int64.toUInt64 63)).toInt64)) &&& (1085102592571150095 : Int64)) >>> (Int64.toUInt64 (Int32.toInt64 (8 : Int32)) &&& Int64.toUInt64 63)).toInt64)) >>> (Int64.toUInt64 (Int32.toInt64 (16 : Int32)) &&& Int64.toUInt64 63)).toInt64)) + ((Int64.toUInt64 (((((((p0 - (((Int64.toUInt64 p0 >>> (Int64.toUInt64 (Int32.toInt64 (1 : Int32)) &&& Int64.toUInt64 63)).toInt64) &&& (6148914691236517205 : Int64))) &&& (3689348814741910323 : Int64)) + (((Int64.toUInt64 (p0 - (((Int64.toUInt64 p0 >>> (Int64.toUInt64 (Int32.toInt64 (1 : Int32)) &&& Int64.toUInt64 63)).toInt64) &&& (6148914691236517205 : Int64))) >>> (Int64.toUInt64 (Int32.toInt64 (2 : Int32)) &&& Int64.toUInt64 63)).toInt64) &&& (3689348814741910323 : Int64))) + ((Int64.toUInt64 (((p0 - (((Int64.toUInt64 p0 >>> (Int64.toUInt64 (Int32.toInt64 (1 : Int32)) &&& Int64.toUInt64 63)).toInt64) &&& (6148914691236517205 : Int64))) &&& (3689348814741910323 : Int64)) + (((Int64.toUInt64 (p0 - (((Int64.toUInt64 p0 >>> (Int64.toUInt64 (Int32.toInt64 (1 : Int32)) &&& Int64.toUInt64 63)).toInt64) &&& (6148914691236517205 : Int64))) >>> (Int64.toUInt64 (Int32.toInt64 (2 : Int32)) &&& Int64.toUInt64 63)).toInt64) &&& (3689348814741910323 : Int64))) >>> (Int64.toUInt64 (Int32.toInt64 (4 : Int32)) &&& Int64.toUInt64 63)).toInt64)) &&& (1085102592571150095 : Int64)) + ((Int64.toUInt64 (((((p0 - (((Int64.toUInt64 p0 >>> (Int64.toUInt64 (Int32.toInt64 (1 : Int32)) &&& Int64.toUInt64 63)).toInt64) &&& (6148914691236517205 : Int64))) &&& (3689348814741910323 : Int64)) + (((Int64.toUInt64 (p0 - (((Int64.toUInt64 p0 >>> (Int64.toUInt64 (Int32.toInt64 (1 : Int32)) &&& Int64.toUInt64 63)).toInt64) &&& (6148914691236517205 : Int64))) >>> (Int64.toUInt64 (Int32.toInt64 (2 : Int32)) &&& Int64.toUInt64 63)).toInt64) &&& (3689348814741910323 : Int64))) + ((Int64.toUInt64 (((p0 - (((Int64.toUInt64 p0 >>> (Int64.toUInt64 (Int32.toInt64 (1 : Int32)) &&& Int64.toUInt64 63)).toInt64) &&& (6148914691236517205 : Int64))) &&& (3689348814741910323 : Int64)) + (((Int64.toUInt64 (p0 - (((Int64.toUInt64 p0 >>> (Int64.toUInt64 (Int32.toInt64 (1 : Int32)) &&& Int64.toUInt64 63)).toInt64) &&& (6148914691236517205 : Int64))) >>> (Int64.toUInt64 (Int32.toInt64 (2 : Int32)) &&& Int64.toUInt64 63)).toInt64) &&& (3689348814741910323 : Int64))) >>> (Int64.toUInt64 (Int32.toInt64 (4 : Int32)) &&& Int64.toUInt64 63)).toInt64)) &&& (1085102592571150095 : Int64)) >>> (Int64.toUInt64 (Int32.toInt64 (8 : Int32)) &&& Int64.toUInt64 63)).toInt64)) + ((Int64.toUInt64 ((((((p0 - (((Int64.toUInt64 p0 >>> (Int64.toUInt64 (Int32.toInt64 (1 : Int32)) &&& Int64.toUInt64 63)).toInt64) &&& (6148914691236517205 : Int64))) &&& (3689348814741910323 : Int64)) + (((Int64.toUInt64 (p0 - (((Int64.toUInt64 p0 >>> (Int64.toUInt64 (Int32.toInt64 (1 : Int32)) &&& Int64.toUInt64 63)).toInt64) &&& (6148914691236517205 : Int64))) >>> (Int64.toUInt64 (Int32.toInt64 (2 : Int32)) &&& Int64.toUInt64 63)).toInt64) &&& (3689348814741910323 : Int64))) + ((Int64.toUInt64 (((p0 - (((Int64.toUInt64 p0 >>> (Int64.toUInt64 (Int32.toInt64 (1 : Int32)) &&& Int64.toUInt64 63)).toInt64) &&& (6148914691236517205 : Int64))) &&& (3689348814741910323 : Int64)) + (((Int64.toUInt64 (p0 - (((Int64.toUInt64 p0 >>> (Int64.toUInt64 (Int32.toInt64 (1 : Int32)) &&& Int64.toUInt64 63)).toInt64) &&& (6148914691236517205 : Int64))) >>> (Int64.toUInt64 (Int32.toInt64 (2 : Int32)) &&& Int64.toUInt64 63)).toInt64) &&& (3689348814741910323 : Int64))) >>> (Int64.toUInt64 (Int32.toInt64 (4 : Int32)) &&& Int64.toUInt64 63)).toInt64)) &&& (1085102592571150095 : Int64)) + ((Int64.toUInt64 (((((p0 - (((Int64.toUInt64 p0 >>> (Int64.toUInt64 (Int32.toInt64 (1 : Int32)) &&& Int64.toUInt64 63)).toInt64) &&& (6148914691236517205 : Int64))) &&& (3689348814741910323 : Int64)) + (((Int64.toUInt64 (p0 - (((Int64.toUInt64 p0 >>> (Int64.toUInt64 (Int32.toInt64 (1 : Int32)) &&& Int64.toUInt64 63)).toInt64) &&& (6148914691236517205 : Int64))) >>> (Int64.toUInt64 (Int32.toInt64 (2 : Int32)) &&& Int64.toUInt64 63)).toInt64) &&& (3689348814741910323 : Int64))) + ((Int64.toUInt64 (((p0 - (((Int64.toUInt64 p0 >>> (Int64.toUInt64 (Int32.toInt64 (1 : Int32)) &&& Int64.toUInt64 63)).toInt64) &&& (6148914691236517205 : Int64))) &&& (3689348814741910323 : Int64)) + (((Int64.toUInt64 (p0 - (((Int64.toUInt64 p0 >>> (Int64.toUInt64 (Int32.toInt64 (1 : Int32)) &&& Int64.toUInt64 63)).toInt64) &&& (6148914691236517205 : Int64))) >>> (Int64.toUInt64 (Int32.toInt64 (2 : Int32)) &&& Int64.toUInt64 63)).toInt64) &&& (3689348814741910323 : Int64))) >>> (Int64.toUInt64 (Int32.toInt64 (4 : Int32)) &&& Int64.toUInt64 63)).toInt64)) &&& (1085102592571150095 : Int64)) >>> (Int64.toUInt64 (Int32.toInt64 (8 : Int32)) &&& Int64.toUInt64 63)).toInt64)) >>> (Int64.toUInt64 (Int32.toInt64 (16 : Int32)) &&& Int64.toUInt64 63)).toInt64)) >>> (Int64.toUInt64 (Int32.toInt64 (32 : Int32)) &&& Int64.toUInt64 63)).toInt64))), none]) rfl ?_
  refine J_lload_n d_Long_bitCount_55 rfl ?_
  refine J_l2i d_Long_bitCount_56 ?_
  refine J_bipush (v := 127) d_Long_bitCount_57 (by decide) ?_
  refine J_iand d_Long_bitCount_59 ?_
  have H := Option.some.inj H
  subst H
  exact J_iret (st := []) d_Long_bitCount_60 rfl rfl ⟨rfl, rfl, rfl⟩
