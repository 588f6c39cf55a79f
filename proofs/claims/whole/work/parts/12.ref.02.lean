theorem ln_Ref_early : (parseMethodDescriptor y_Ref_early.desc).map (fun q => q.parameters.length) = some 2 := by decide +kernel
def f_Ref_early_L22 (Γ : gm_T)  (φ : ph_T) (x0 : Nat) (x1 : Int32) (x2 : Int32) (y0 : Int32) (y1 : Nat) : Option (Int32 × ph_T) :=
  @ite _ (Γ y1 = .inr 12) _ (
  @ite _ (Γ x0 = .inr 12) _ (
  if ((uI φ y1 0 y0).1 x0 0) ≤ 0 then
    Option.bind (φ.2.2 x0 10) fun a3 =>
    Option.bind (gA Γ a3 2) fun N4 =>
    Option.bind (ix x1 N4) fun k5 =>
    Option.bind (gA Γ a3 2) fun N6 =>
    Option.bind (ix x1 N6) fun k7 =>
    @ite _ (x2 = 0 ∨ x2 = 1) _ (
    @ite _ (((uI φ y1 0 y0).1 a3 k5) = 0 ∨ ((uI φ y1 0 y0).1 a3 k5) = 1) _ (
    some (((uI φ y1 0 y0).1 a3 k5), (uI (uI φ y1 0 y0) a3 k7 x2))
    ) none
    ) none
  else
    @ite _ ((0 : Int32) = 0 ∨ (0 : Int32) = 1) _ (
    some ((0 : Int32), (uI φ y1 0 y0))
    ) none
  ) none
  ) none
set_option maxRecDepth 100000 in
set_option maxHeartbeats 4000000 in
theorem p_Ref_early_L22 {w : jw_T} (hw : jok w) {Γ : gm_T} {n : Nat} (hG : gd w Γ n)  {x : Bool} {φ : ph_T} {x0 : Nat} {x1 : Int32} {x2 : Int32} {y0 : Int32} {y1 : Nat} {q : Int32 × ph_T} (H : f_Ref_early_L22 Γ  φ x0 x1 x2 y0 y1 = some q) : J w M_Ref_early 22 [some (.ref x0), some (.int x1), some (.int x2), none] [.int y0, .ref y1] (pic Γ φ) n x 0 0 (fq Γ n (.inl (some (.int q.1))) q.2) := by
  unfold f_Ref_early_L22 at H
  have g1 : Γ y1 = .inr 12 := by
    apply Classical.byContradiction
    intro q9
    rw [if_neg q9] at H
    cases H
  rw [if_pos g1] at H
  refine F_putI (ci := 12) (k := 0) hG (cf_Ref hw) (fl_Ref_303 hw) (by decide) (by decide) rfl d_Ref_early_22 rfl rfl rfl g1 ?_
  refine J_aload_n d_Ref_early_25 rfl ?_
  have g2 : Γ x0 = .inr 12 := by
    apply Classical.byContradiction
    intro q9
    rw [if_neg q9] at H
    cases H
  rw [if_pos g2] at H
  refine F_getI (ci := 12) (k := 0) hG (cf_Ref hw) (fl_Ref_303 hw) (by decide) (by decide) rfl d_Ref_early_26 g2 ?_
  refine J_if_le (tgt := 34) d_Ref_early_29 (by decide) ?_ ?_
  · intro c11
    rw [if_pos c11] at H
    refine J_aload_n d_Ref_early_34 rfl ?_
    refine F_getR (ci := 12) (k := 10) hG (cf_Ref hw) (fl_Ref_19 hw) (by decide) (by decide) rfl d_Ref_early_35 g2 ?_
    show J _ _ _ _ (va_rf (φ.2.2 x0 10) :: _) _ _ _ _ _ _
    refine J_iload_n d_Ref_early_38 rfl ?_
    obtain ⟨a3, ha3, H⟩ := Option.bind_eq_some_iff.mp H
    rw [j_rf ha3]
    obtain ⟨N4, hN4, H⟩ := Option.bind_eq_some_iff.mp H
    obtain ⟨k5, hk5, H⟩ := Option.bind_eq_some_iff.mp H
    refine F_zald k5 hw hG d_Ref_early_39 (gA_some hN4) (ix_some hk5) ?_
    refine J_istore_n d_Ref_early_40 (Nat.le_of_ble_eq_true rfl) ?_
    refine J.ls (ls' := [some (.ref x0), some (.int x1), some (.int x2), some (.int ((uI φ y1 0 y0).1 a3 k5))]) rfl ?_
    refine J_aload_n d_Ref_early_41 rfl ?_
    refine F_getR (ci := 12) (k := 10) hG (cf_Ref hw) (fl_Ref_19 hw) (by decide) (by decide) rfl d_Ref_early_42 g2 ?_
    show J _ _ _ _ (va_rf (φ.2.2 x0 10) :: _) _ _ _ _ _ _
    refine J_iload_n d_Ref_early_45 rfl ?_
    refine J_iload_n d_Ref_early_46 rfl ?_
    try rw [j_rf ha3]
    obtain ⟨N6, hN6, H⟩ := Option.bind_eq_some_iff.mp H
    obtain ⟨k7, hk7, H⟩ := Option.bind_eq_some_iff.mp H
    have z8 : x2 = 0 ∨ x2 = 1 := by
      apply Classical.byContradiction
      intro q9
      rw [if_neg q9] at H
      cases H
    rw [if_pos z8] at H
    refine F_zast k7 hw hG d_Ref_early_47 (gA_some hN6) (ix_some hk7) z8 ?_
    refine J_iload_n d_Ref_early_48 rfl ?_
    have z9 : ((uI φ y1 0 y0).1 a3 k5) = 0 ∨ ((uI φ y1 0 y0).1 a3 k5) = 1 := by
      apply Classical.byContradiction
      intro q9
      rw [if_neg q9] at H
      cases H
    rw [if_pos z9] at H
    have H := Option.some.inj H
    subst H
    exact J_iret (st := []) d_Ref_early_49 rfl (narrow_z z9).1 ⟨rfl, rfl, rfl⟩
  · intro c11
    rw [if_neg c11] at H
    refine J_iconst (v := 0) d_Ref_early_32 (by decide) ?_
    have z10 : (0 : Int32) = 0 ∨ (0 : Int32) = 1 := by
      apply Classical.byContradiction
      intro q9
      rw [if_neg q9] at H
      cases H
    rw [if_pos z10] at H
    have H := Option.some.inj H
    subst H
    exact J_iret (st := []) d_Ref_early_33 rfl (narrow_z z10).1 ⟨rfl, rfl, rfl⟩
def f_Ref_early (Γ : gm_T) (φ : ph_T) (this : Nat) (p0 : Int32) (p1 : Int32) : Option (Int32 × ph_T) :=
  @ite _ (Γ this = .inr 12) _ (
  Option.bind (f_Ref_in Γ φ (Int32.toInt64 p0) (0 : Int64) ((Int32.toInt64 (φ.1 this 1)) - (1 : Int64))) fun q13 =>
  if q13.1 = 0 then
    f_Ref_early_L22 Γ  q13.2 this p0 p1 (1 : Int32) this
  else
    f_Ref_early_L22 Γ  q13.2 this p0 p1 (0 : Int32) this
  ) none
set_option maxRecDepth 100000 in
set_option maxHeartbeats 4000000 in
theorem p_Ref_early {w : jw_T} (hw : jok w) {Γ : gm_T} {n : Nat} (hG : gd w Γ n) {x : Bool} {φ : ph_T} {this : Nat} {p0 : Int32} {p1 : Int32} {q : Int32 × ph_T} (H : f_Ref_early Γ φ this p0 p1 = some q) : jc w M_Ref_early [.ref this, .int p0, .int p1] (pic Γ φ) n x 0 0 (fq Γ n (.inl (some (.int q.1))) q.2) := by
  refine jc.of (by simp only [jent_r, jent_i, jent_l, jent_a, jent_0]; exact Nat.le_of_ble_eq_true rfl) ?_
  have hls : jents [.ref this, .int p0, .int p1] (jm_nL M_Ref_early) = [some (.ref this), some (.int p0), some (.int p1), none] := by simp only [jents, jent_r, jent_i, jent_l, jent_a, jent_0]; rfl
  rw [hls]
  clear hls
  unfold f_Ref_early at H
  refine J_aload_n d_Ref_early_0 rfl ?_
  refine J_iload_n d_Ref_early_1 rfl ?_
  refine J_i2l d_Ref_early_2 ?_
  refine J_lconst (v := 0) d_Ref_early_3 (by decide) ?_
  refine J_aload_n d_Ref_early_4 rfl ?_
  have g12 : Γ this = .inr 12 := by
    apply Classical.byContradiction
    intro q9
    rw [if_neg q9] at H
    cases H
  rw [if_pos g12] at H
  refine F_getI (ci := 12) (k := 1) hG (cf_Ref hw) (fl_Ref_290 hw) (by decide) (by decide) rfl d_Ref_early_5 g12 ?_
  refine J_i2l d_Ref_early_8 ?_
  refine J_lconst (v := 1) d_Ref_early_9 (by decide) ?_
  refine J_lsub d_Ref_early_10 ?_
  obtain ⟨q13, hq13, H⟩ := Option.bind_eq_some_iff.mp H
  refine J_callS (kc := 0) (ks := 0) (kc' := 0) (ks' := 0) (as := [.long (Int32.toInt64 p0), .long (0 : Int64), .long ((Int32.toInt64 (φ.1 this 1)) - (1 : Int64))]) (st := [.ref this]) (mf_Ref_in hw) (ms_Ref_599 hw) d_Ref_early_11 ln_Ref_in (by decide) (by first | exact Nat.le_of_ble_eq_true rfl | (simp only [List.map_cons, List.map_nil, List.sum_cons, List.sum_nil, va_rf_cat]; exact Nat.le_of_ble_eq_true rfl)) rfl (p_Ref_in hw hG hq13) ?_ (fun E h' n' x' e1 => by cases e1.1)
  intro v9 h9 n9 x9 e9
  obtain ⟨e91, e92, e93⟩ := e9
  cases e91
  subst e92
  subst e93
  clear x
  rename Bool => x
  show J _ _ _ _ (_ :: _) _ _ _ _ _ _
  refine J_if_eq (tgt := 21) d_Ref_early_14 (by decide) ?_ ?_
  · intro c14
    rw [if_pos c14] at H
    refine J_iconst (v := 1) d_Ref_early_21 (by decide) ?_
    refine J.drop [true, true, true, false] rfl ?_
    exact p_Ref_early_L22 hw hG  H
  · intro c14
    rw [if_neg c14] at H
    refine J_iconst (v := 0) d_Ref_early_17 (by decide) ?_
    refine J_goto (tgt := 22) d_Ref_early_18 (by decide) ?_
    refine J.drop [true, true, true, false] rfl ?_
    exact p_Ref_early_L22 hw hG  H
theorem ln_Ref_slave : (parseMethodDescriptor y_Ref_slave.desc).map (fun q => q.parameters.length) = some 3 := by decide +kernel
def f_Ref_slave_L34 (Γ : gm_T)  (φ : ph_T) (x0 : Nat) (x1 : Int32) (x2 : Int32) (x3 : Int32) (y0 : Int32) (y1 : Nat) : Option (Int32 × ph_T) :=
  @ite _ (Γ y1 = .inr 12) _ (
  @ite _ (Γ x0 = .inr 12) _ (
  if ((uI φ y1 0 y0).1 x0 0) ≤ 0 then
    Option.bind (φ.2.2 x0 9) fun a3 =>
    Option.bind (gA Γ a3 0) fun N4 =>
    Option.bind (ix (((5 : Int32) * x1) + x2) N4) fun k5 =>
    Option.bind (gA Γ a3 0) fun N6 =>
    Option.bind (ix (((5 : Int32) * x1) + x2) N6) fun k7 =>
    some (((uI φ y1 0 y0).1 a3 k5), (uI (uI φ y1 0 y0) a3 k7 (x3 &&& (65535 : Int32))))
  else
    some ((0 : Int32), (uI φ y1 0 y0))
  ) none
  ) none
set_option maxRecDepth 100000 in
set_option maxHeartbeats 4000000 in
theorem p_Ref_slave_L34 {w : jw_T} (hw : jok w) {Γ : gm_T} {n : Nat} (hG : gd w Γ n)  {x : Bool} {φ : ph_T} {x0 : Nat} {x1 : Int32} {x2 : Int32} {x3 : Int32} {y0 : Int32} {y1 : Nat} {q : Int32 × ph_T} (H : f_Ref_slave_L34 Γ  φ x0 x1 x2 x3 y0 y1 = some q) : J w M_Ref_slave 34 [some (.ref x0), some (.int x1), some (.int x2), some (.int x3), none] [.int y0, .ref y1] (pic Γ φ) n x 0 0 (fq Γ n (.inl (some (.int q.1))) q.2) := by
  unfold f_Ref_slave_L34 at H
  have g1 : Γ y1 = .inr 12 := by
    apply Classical.byContradiction
    intro q9
    rw [if_neg q9] at H
    cases H
  rw [if_pos g1] at H
  refine F_putI (ci := 12) (k := 0) hG (cf_Ref hw) (fl_Ref_303 hw) (by decide) (by decide) rfl d_Ref_slave_34 rfl rfl rfl g1 ?_
  refine J_aload_n d_Ref_slave_37 rfl ?_
  have g2 : Γ x0 = .inr 12 := by
    apply Classical.byContradiction
    intro q9
    rw [if_neg q9] at H
    cases H
  rw [if_pos g2] at H
  refine F_getI (ci := 12) (k := 0) hG (cf_Ref hw) (fl_Ref_303 hw) (by decide) (by decide) rfl d_Ref_slave_38 g2 ?_
  refine J_if_le (tgt := 46) d_Ref_slave_41 (by decide) ?_ ?_
  · intro c8
    rw [if_pos c8] at H
    refine J_aload_n d_Ref_slave_46 rfl ?_
    refine F_getR (ci := 12) (k := 9) hG (cf_Ref hw) (fl_Ref_16 hw) (by decide) (by decide) rfl d_Ref_slave_47 g2 ?_
    show J _ _ _ _ (va_rf (φ.2.2 x0 9) :: _) _ _ _ _ _ _
    refine J_iconst (v := 5) d_Ref_slave_50 (by decide) ?_
    refine J_iload_n d_Ref_slave_51 rfl ?_
    refine J_imul d_Ref_slave_52 ?_
    refine J_iload_n d_Ref_slave_53 rfl ?_
    refine J_iadd d_Ref_slave_54 ?_
    obtain ⟨a3, ha3, H⟩ := Option.bind_eq_some_iff.mp H
    rw [j_rf ha3]
    obtain ⟨N4, hN4, H⟩ := Option.bind_eq_some_iff.mp H
    obtain ⟨k5, hk5, H⟩ := Option.bind_eq_some_iff.mp H
    refine F_iald k5 hw hG d_Ref_slave_55 (gA_some hN4) (ix_some hk5) ?_
    refine J_istore d_Ref_slave_56 (Nat.le_of_ble_eq_true rfl) ?_
    refine J.ls (ls' := [some (.ref x0), some (.int x1), some (.int x2), some (.int x3), some (.int ((uI φ y1 0 y0).1 a3 k5))]) rfl ?_
    refine J_aload_n d_Ref_slave_58 rfl ?_
    refine F_getR (ci := 12) (k := 9) hG (cf_Ref hw) (fl_Ref_16 hw) (by decide) (by decide) rfl d_Ref_slave_59 g2 ?_
    show J _ _ _ _ (va_rf (φ.2.2 x0 9) :: _) _ _ _ _ _ _
    refine J_iconst (v := 5) d_Ref_slave_62 (by decide) ?_
    refine J_iload_n d_Ref_slave_63 rfl ?_
    refine J_imul d_Ref_slave_64 ?_
    refine J_iload_n d_Ref_slave_65 rfl ?_
    refine J_iadd d_Ref_slave_66 ?_
    refine J_iload_n d_Ref_slave_67 rfl ?_
    refine J_ldcw (v := 65535) d_Ref_slave_68 (kn_Ref_611 hw) ?_
    refine J_iand d_Ref_slave_71 ?_
    try rw [j_rf ha3]
    obtain ⟨N6, hN6, H⟩ := Option.bind_eq_some_iff.mp H
    obtain ⟨k7, hk7, H⟩ := Option.bind_eq_some_iff.mp H
    refine F_iast k7 hw hG d_Ref_slave_72 (gA_some hN6) (ix_some hk7) ?_
    refine J_iload d_Ref_slave_73 rfl ?_
    have H := Option.some.inj H
    subst H
    exact J_iret (st := []) d_Ref_slave_75 rfl rfl ⟨rfl, rfl, rfl⟩
  · intro c8
    rw [if_neg c8] at H
    refine J_iconst (v := 0) d_Ref_slave_44 (by decide) ?_
    have H := Option.some.inj H
    subst H
    exact J_iret (st := []) d_Ref_slave_45 rfl rfl ⟨rfl, rfl, rfl⟩
def f_Ref_slave_L33 (Γ : gm_T)  (φ : ph_T) (x0 : Nat) (x1 : Int32) (x2 : Int32) (x3 : Int32) (y0 : Nat) : Option (Int32 × ph_T) :=
  f_Ref_slave_L34 Γ  φ x0 x1 x2 x3 (1 : Int32) y0
set_option maxRecDepth 100000 in
set_option maxHeartbeats 4000000 in
theorem p_Ref_slave_L33 {w : jw_T} (hw : jok w) {Γ : gm_T} {n : Nat} (hG : gd w Γ n)  {x : Bool} {φ : ph_T} {x0 : Nat} {x1 : Int32} {x2 : Int32} {x3 : Int32} {y0 : Nat} {q : Int32 × ph_T} (H : f_Ref_slave_L33 Γ  φ x0 x1 x2 x3 y0 = some q) : J w M_Ref_slave 33 [some (.ref x0), some (.int x1), some (.int x2), some (.int x3), none] [.ref y0] (pic Γ φ) n x 0 0 (fq Γ n (.inl (some (.int q.1))) q.2) := by
  unfold f_Ref_slave_L33 at H
  refine J_iconst (v := 1) d_Ref_slave_33 (by decide) ?_
  refine J.drop [true, true, true, true, false] rfl ?_
  exact p_Ref_slave_L34 hw hG  H
def f_Ref_slave (Γ : gm_T) (φ : ph_T) (this : Nat) (p0 : Int32) (p1 : Int32) (p2 : Int32) : Option (Int32 × ph_T) :=
  @ite _ (Γ this = .inr 12) _ (
  Option.bind (f_Ref_in Γ φ (Int32.toInt64 p0) (0 : Int64) ((Int32.toInt64 (φ.1 this 2)) - (1 : Int64))) fun q10 =>
  if q10.1 = 0 then
    f_Ref_slave_L33 Γ  q10.2 this p0 p1 p2 this
  else
    Option.bind (f_Ref_in Γ q10.2 (Int32.toInt64 p1) (0 : Int64) (4 : Int64)) fun q11 =>
    if q11.1 = 0 then
      f_Ref_slave_L33 Γ  q11.2 this p0 p1 p2 this
    else
      f_Ref_slave_L34 Γ  q11.2 this p0 p1 p2 (0 : Int32) this
  ) none
set_option maxRecDepth 100000 in
set_option maxHeartbeats 4000000 in
theorem p_Ref_slave {w : jw_T} (hw : jok w) {Γ : gm_T} {n : Nat} (hG : gd w Γ n) {x : Bool} {φ : ph_T} {this : Nat} {p0 : Int32} {p1 : Int32} {p2 : Int32} {q : Int32 × ph_T} (H : f_Ref_slave Γ φ this p0 p1 p2 = some q) : jc w M_Ref_slave [.ref this, .int p0, .int p1, .int p2] (pic Γ φ) n x 0 0 (fq Γ n (.inl (some (.int q.1))) q.2) := by
  refine jc.of (by simp only [jent_r, jent_i, jent_l, jent_a, jent_0]; exact Nat.le_of_ble_eq_true rfl) ?_
  have hls : jents [.ref this, .int p0, .int p1, .int p2] (jm_nL M_Ref_slave) = [some (.ref this), some (.int p0), some (.int p1), some (.int p2), none] := by simp only [jents, jent_r, jent_i, jent_l, jent_a, jent_0]; rfl
  rw [hls]
  clear hls
  unfold f_Ref_slave at H
  refine J_aload_n d_Ref_slave_0 rfl ?_
  refine J_iload_n d_Ref_slave_1 rfl ?_
  refine J_i2l d_Ref_slave_2 ?_
  refine J_lconst (v := 0) d_Ref_slave_3 (by decide) ?_
  refine J_aload_n d_Ref_slave_4 rfl ?_
  have g9 : Γ this = .inr 12 := by
    apply Classical.byContradiction
    intro q9
    rw [if_neg q9] at H
    cases H
  rw [if_pos g9] at H
  refine F_getI (ci := 12) (k := 2) hG (cf_Ref hw) (fl_Ref_294 hw) (by decide) (by decide) rfl d_Ref_slave_5 g9 ?_
  refine J_i2l d_Ref_slave_8 ?_
  refine J_lconst (v := 1) d_Ref_slave_9 (by decide) ?_
  refine J_lsub d_Ref_slave_10 ?_
  obtain ⟨q10, hq10, H⟩ := Option.bind_eq_some_iff.mp H
  refine J_callS (kc := 0) (ks := 0) (kc' := 0) (ks' := 0) (as := [.long (Int32.toInt64 p0), .long (0 : Int64), .long ((Int32.toInt64 (φ.1 this 2)) - (1 : Int64))]) (st := [.ref this]) (mf_Ref_in hw) (ms_Ref_599 hw) d_Ref_slave_11 ln_Ref_in (by decide) (by first | exact Nat.le_of_ble_eq_true rfl | (simp only [List.map_cons, List.map_nil, List.sum_cons, List.sum_nil, va_rf_cat]; exact Nat.le_of_ble_eq_true rfl)) rfl (p_Ref_in hw hG hq10) ?_ (fun E h' n' x' e1 => by cases e1.1)
  intro v9 h9 n9 x9 e9
  obtain ⟨e91, e92, e93⟩ := e9
  cases e91
  subst e92
  subst e93
  clear x
  rename Bool => x
  show J _ _ _ _ (_ :: _) _ _ _ _ _ _
  refine J_if_eq (tgt := 33) d_Ref_slave_14 (by decide) ?_ ?_
  · intro c13
    rw [if_pos c13] at H
    refine J.drop [true, true, true, true, false] rfl ?_
    exact p_Ref_slave_L33 hw hG  H
  · intro c13
    rw [if_neg c13] at H
    refine J_iload_n d_Ref_slave_17 rfl ?_
    refine J_i2l d_Ref_slave_18 ?_
    refine J_lconst (v := 0) d_Ref_slave_19 (by decide) ?_
    refine J_ldc2 (v := 4) d_Ref_slave_20 (kn_Ref_609 hw) ?_
    obtain ⟨q11, hq11, H⟩ := Option.bind_eq_some_iff.mp H
    refine J_callS (kc := 0) (ks := 0) (kc' := 0) (ks' := 0) (as := [.long (Int32.toInt64 p1), .long (0 : Int64), .long (4 : Int64)]) (st := [.ref this]) (mf_Ref_in hw) (ms_Ref_599 hw) d_Ref_slave_23 ln_Ref_in (by decide) (by first | exact Nat.le_of_ble_eq_true rfl | (simp only [List.map_cons, List.map_nil, List.sum_cons, List.sum_nil, va_rf_cat]; exact Nat.le_of_ble_eq_true rfl)) rfl (p_Ref_in hw hG hq11) ?_ (fun E h' n' x' e1 => by cases e1.1)
    intro v9 h9 n9 x9 e9
    obtain ⟨e91, e92, e93⟩ := e9
    cases e91
    subst e92
    subst e93
    clear x
    rename Bool => x
    show J _ _ _ _ (_ :: _) _ _ _ _ _ _
    refine J_if_eq (tgt := 33) d_Ref_slave_26 (by decide) ?_ ?_
    · intro c12
      rw [if_pos c12] at H
      refine J.drop [true, true, true, true, false] rfl ?_
      exact p_Ref_slave_L33 hw hG  H
    · intro c12
      rw [if_neg c12] at H
      refine J_iconst (v := 0) d_Ref_slave_29 (by decide) ?_
      refine J_goto (tgt := 34) d_Ref_slave_30 (by decide) ?_
      refine J.drop [true, true, true, true, false] rfl ?_
      exact p_Ref_slave_L34 hw hG  H
theorem ln_Ref_way : (parseMethodDescriptor y_Ref_way.desc).map (fun q => q.parameters.length) = some 3 := by decide +kernel
def f_Ref_way_L50 (Γ : gm_T)  (φ : ph_T) (x0 : Nat) (x1 : Int32) (x2 : Int32) (x3 : Int32) (y0 : Int32) (y1 : Nat) : Option (Int32 × ph_T) :=
  @ite _ (Γ y1 = .inr 12) _ (
  @ite _ (Γ x0 = .inr 12) _ (
  if ((uI φ y1 0 y0).1 x0 0) ≤ 0 then
    Option.bind (φ.2.2 x0 12) fun a3 =>
    Option.bind (gA Γ a3 0) fun N4 =>
    Option.bind (ix x1 N4) fun k5 =>
    Option.bind (φ.2.2 x0 11) fun a6 =>
    Option.bind (gA Γ a6 0) fun N7 =>
    Option.bind (ix x1 N7) fun k8 =>
    Option.bind (gA Γ a3 0) fun N9 =>
    Option.bind (ix x1 N9) fun k10 =>
    Option.bind (gA Γ a6 0) fun N11 =>
    Option.bind (ix x1 N11) fun k12 =>
    some ((((16 : Int32) * ((uI φ y1 0 y0).1 a3 k5)) + ((uI φ y1 0 y0).1 a6 k8)), (uI (uI (uI φ y1 0 y0) a3 k10 x3) a6 k12 x2))
  else
    some ((0 : Int32), (uI φ y1 0 y0))
  ) none
  ) none
set_option maxRecDepth 100000 in
set_option maxHeartbeats 4000000 in
theorem p_Ref_way_L50 {w : jw_T} (hw : jok w) {Γ : gm_T} {n : Nat} (hG : gd w Γ n)  {x : Bool} {φ : ph_T} {x0 : Nat} {x1 : Int32} {x2 : Int32} {x3 : Int32} {y0 : Int32} {y1 : Nat} {q : Int32 × ph_T} (H : f_Ref_way_L50 Γ  φ x0 x1 x2 x3 y0 y1 = some q) : J w M_Ref_way 50 [some (.ref x0), some (.int x1), some (.int x2), some (.int x3), none] [.int y0, .ref y1] (pic Γ φ) n x 0 0 (fq Γ n (.inl (some (.int q.1))) q.2) := by
  unfold f_Ref_way_L50 at H
  have g1 : Γ y1 = .inr 12 := by
    apply Classical.byContradiction
    intro q9
    rw [if_neg q9] at H
    cases H
  rw [if_pos g1] at H
  refine F_putI (ci := 12) (k := 0) hG (cf_Ref hw) (fl_Ref_303 hw) (by decide) (by decide) rfl d_Ref_way_50 rfl rfl rfl g1 ?_
  refine J_aload_n d_Ref_way_53 rfl ?_
  have g2 : Γ x0 = .inr 12 := by
    apply Classical.byContradiction
    intro q9
    rw [if_neg q9] at H
    cases H
  rw [if_pos g2] at H
  refine F_getI (ci := 12) (k := 0) hG (cf_Ref hw) (fl_Ref_303 hw) (by decide) (by decide) rfl d_Ref_way_54 g2 ?_
  refine J_if_le (tgt := 62) d_Ref_way_57 (by decide) ?_ ?_
  · intro c13
    rw [if_pos c13] at H
    refine J_bipush (v := 16) d_Ref_way_62 (by decide) ?_
    refine J_aload_n d_Ref_way_64 rfl ?_
    refine F_getR (ci := 12) (k := 12) hG (cf_Ref hw) (fl_Ref_26 hw) (by decide) (by decide) rfl d_Ref_way_65 g2 ?_
    show J _ _ _ _ (va_rf (φ.2.2 x0 12) :: _) _ _ _ _ _ _
    refine J_iload_n d_Ref_way_68 rfl ?_
    obtain ⟨a3, ha3, H⟩ := Option.bind_eq_some_iff.mp H
    rw [j_rf ha3]
    obtain ⟨N4, hN4, H⟩ := Option.bind_eq_some_iff.mp H
    obtain ⟨k5, hk5, H⟩ := Option.bind_eq_some_iff.mp H
    refine F_iald k5 hw hG d_Ref_way_69 (gA_some hN4) (ix_some hk5) ?_
    refine J_imul d_Ref_way_70 ?_
    refine J_aload_n d_Ref_way_71 rfl ?_
    refine F_getR (ci := 12) (k := 11) hG (cf_Ref hw) (fl_Ref_23 hw) (by decide) (by decide) rfl d_Ref_way_72 g2 ?_
    show J _ _ _ _ (va_rf (φ.2.2 x0 11) :: _) _ _ _ _ _ _
    refine J_iload_n d_Ref_way_75 rfl ?_
    obtain ⟨a6, ha6, H⟩ := Option.bind_eq_some_iff.mp H
    rw [j_rf ha6]
    obtain ⟨N7, hN7, H⟩ := Option.bind_eq_some_iff.mp H
    obtain ⟨k8, hk8, H⟩ := Option.bind_eq_some_iff.mp H
    refine F_iald k8 hw hG d_Ref_way_76 (gA_some hN7) (ix_some hk8) ?_
    refine J_iadd d_Ref_way_77 ?_
    refine J_istore d_Ref_way_78 (Nat.le_of_ble_eq_true rfl) ?_
    refine J.ls (ls' := [some (.ref x0), some (.int x1), some (.int x2), some (.int x3), some (.int (((16 : Int32) * ((uI φ y1 0 y0).1 a3 k5)) + ((uI φ y1 0 y0).1 a6 k8)))]) rfl ?_
    refine J_aload_n d_Ref_way_80 rfl ?_
    refine F_getR (ci := 12) (k := 12) hG (cf_Ref hw) (fl_Ref_26 hw) (by decide) (by decide) rfl d_Ref_way_81 g2 ?_
    show J _ _ _ _ (va_rf (φ.2.2 x0 12) :: _) _ _ _ _ _ _
    refine J_iload_n d_Ref_way_84 rfl ?_
    refine J_iload_n d_Ref_way_85 rfl ?_
    try rw [j_rf ha3]
    obtain ⟨N9, hN9, H⟩ := Option.bind_eq_some_iff.mp H
    obtain ⟨k10, hk10, H⟩ := Option.bind_eq_some_iff.mp H
    refine F_iast k10 hw hG d_Ref_way_86 (gA_some hN9) (ix_some hk10) ?_
    refine J_aload_n d_Ref_way_87 rfl ?_
    refine F_getR (ci := 12) (k := 11) hG (cf_Ref hw) (fl_Ref_23 hw) (by decide) (by decide) rfl d_Ref_way_88 g2 ?_
    show J _ _ _ _ (va_rf (φ.2.2 x0 11) :: _) _ _ _ _ _ _
    refine J_iload_n d_Ref_way_91 rfl ?_
    refine J_iload_n d_Ref_way_92 rfl ?_
    try rw [j_rf ha6]
    obtain ⟨N11, hN11, H⟩ := Option.bind_eq_some_iff.mp H
    obtain ⟨k12, hk12, H⟩ := Option.bind_eq_some_iff.mp H
    refine F_iast k12 hw hG d_Ref_way_93 (gA_some hN11) (ix_some hk12) ?_
    refine J_iload d_Ref_way_94 rfl ?_
    have H := Option.some.inj H
    subst H
    exact J_iret (st := []) d_Ref_way_96 rfl rfl ⟨rfl, rfl, rfl⟩
  · intro c13
    rw [if_neg c13] at H
    refine J_iconst (v := 0) d_Ref_way_60 (by decide) ?_
    have H := Option.some.inj H
    subst H
    exact J_iret (st := []) d_Ref_way_61 rfl rfl ⟨rfl, rfl, rfl⟩
def f_Ref_way_L45 (Γ : gm_T)  (φ : ph_T) (x0 : Nat) (x1 : Int32) (x2 : Int32) (x3 : Int32) (y0 : Nat) : Option (Int32 × ph_T) :=
  f_Ref_way_L50 Γ  φ x0 x1 x2 x3 (2 : Int32) y0
set_option maxRecDepth 100000 in
set_option maxHeartbeats 4000000 in
theorem p_Ref_way_L45 {w : jw_T} (hw : jok w) {Γ : gm_T} {n : Nat} (hG : gd w Γ n)  {x : Bool} {φ : ph_T} {x0 : Nat} {x1 : Int32} {x2 : Int32} {x3 : Int32} {y0 : Nat} {q : Int32 × ph_T} (H : f_Ref_way_L45 Γ  φ x0 x1 x2 x3 y0 = some q) : J w M_Ref_way 45 [some (.ref x0), some (.int x1), some (.int x2), some (.int x3), none] [.ref y0] (pic Γ φ) n x 0 0 (fq Γ n (.inl (some (.int q.1))) q.2) := by
  unfold f_Ref_way_L45 at H
  refine J_iconst (v := 2) d_Ref_way_45 (by decide) ?_
  refine J_goto (tgt := 50) d_Ref_way_46 (by decide) ?_
  refine J.drop [true, true, true, true, false] rfl ?_
  exact p_Ref_way_L50 hw hG  H
def f_Ref_way (Γ : gm_T) (φ : ph_T) (this : Nat) (p0 : Int32) (p1 : Int32) (p2 : Int32) : Option (Int32 × ph_T) :=
  @ite _ (Γ this = .inr 12) _ (
  Option.bind (f_Ref_in Γ φ (Int32.toInt64 p0) (0 : Int64) ((Int32.toInt64 (φ.1 this 2)) - (1 : Int64))) fun q15 =>
  if q15.1 = 0 then
    f_Ref_way_L50 Γ  q15.2 this p0 p1 p2 (1 : Int32) this
  else
    Option.bind (f_Ref_in Γ q15.2 (Int32.toInt64 p1) (0 : Int64) (15 : Int64)) fun q16 =>
    if q16.1 = 0 then
      f_Ref_way_L45 Γ  q16.2 this p0 p1 p2 this
    else
      Option.bind (f_Ref_in Γ q16.2 (Int32.toInt64 p2) (0 : Int64) (2 : Int64)) fun q17 =>
      if q17.1 = 0 then
        f_Ref_way_L45 Γ  q17.2 this p0 p1 p2 this
      else
        f_Ref_way_L50 Γ  q17.2 this p0 p1 p2 (0 : Int32) this
  ) none
set_option maxRecDepth 100000 in
set_option maxHeartbeats 4000000 in
theorem p_Ref_way {w : jw_T} (hw : jok w) {Γ : gm_T} {n : Nat} (hG : gd w Γ n) {x : Bool} {φ : ph_T} {this : Nat} {p0 : Int32} {p1 : Int32} {p2 : Int32} {q : Int32 × ph_T} (H : f_Ref_way Γ φ this p0 p1 p2 = some q) : jc w M_Ref_way [.ref this, .int p0, .int p1, .int p2] (pic Γ φ) n x 0 0 (fq Γ n (.inl (some (.int q.1))) q.2) := by
  refine jc.of (by simp only [jent_r, jent_i, jent_l, jent_a, jent_0]; exact Nat.le_of_ble_eq_true rfl) ?_
  have hls : jents [.ref this, .int p0, .int p1, .int p2] (jm_nL M_Ref_way) = [some (.ref this), some (.int p0), some (.int p1), some (.int p2), none] := by simp only [jents, jent_r, jent_i, jent_l, jent_a, jent_0]; rfl
  rw [hls]
  clear hls
  unfold f_Ref_way at H
  refine J_aload_n d_Ref_way_0 rfl ?_
  refine J_iload_n d_Ref_way_1 rfl ?_
  refine J_i2l d_Ref_way_2 ?_
  refine J_lconst (v := 0) d_Ref_way_3 (by decide) ?_
  refine J_aload_n d_Ref_way_4 rfl ?_
  have g14 : Γ this = .inr 12 := by
    apply Classical.byContradiction
    intro q9
    rw [if_neg q9] at H
    cases H
  rw [if_pos g14] at H
  refine F_getI (ci := 12) (k := 2) hG (cf_Ref hw) (fl_Ref_294 hw) (by decide) (by decide) rfl d_Ref_way_5 g14 ?_
  refine J_i2l d_Ref_way_8 ?_
  refine J_lconst (v := 1) d_Ref_way_9 (by decide) ?_
  refine J_lsub d_Ref_way_10 ?_
  obtain ⟨q15, hq15, H⟩ := Option.bind_eq_some_iff.mp H
  refine J_callS (kc := 0) (ks := 0) (kc' := 0) (ks' := 0) (as := [.long (Int32.toInt64 p0), .long (0 : Int64), .long ((Int32.toInt64 (φ.1 this 2)) - (1 : Int64))]) (st := [.ref this]) (mf_Ref_in hw) (ms_Ref_599 hw) d_Ref_way_11 ln_Ref_in (by decide) (by first | exact Nat.le_of_ble_eq_true rfl | (simp only [List.map_cons, List.map_nil, List.sum_cons, List.sum_nil, va_rf_cat]; exact Nat.le_of_ble_eq_true rfl)) rfl (p_Ref_in hw hG hq15) ?_ (fun E h' n' x' e1 => by cases e1.1)
  intro v9 h9 n9 x9 e9
  obtain ⟨e91, e92, e93⟩ := e9
  cases e91
  subst e92
  subst e93
  clear x
  rename Bool => x
  show J _ _ _ _ (_ :: _) _ _ _ _ _ _
  refine J_if_ne (tgt := 21) d_Ref_way_14 (by decide) ?_ ?_
  · intro c20
    rw [if_neg c20] at H
    refine J_iload_n d_Ref_way_21 rfl ?_
    refine J_i2l d_Ref_way_22 ?_
    refine J_lconst (v := 0) d_Ref_way_23 (by decide) ?_
    refine J_ldc2 (v := 15) d_Ref_way_24 (kn_Ref_310 hw) ?_
    obtain ⟨q16, hq16, H⟩ := Option.bind_eq_some_iff.mp H
    refine J_callS (kc := 0) (ks := 0) (kc' := 0) (ks' := 0) (as := [.long (Int32.toInt64 p1), .long (0 : Int64), .long (15 : Int64)]) (st := [.ref this]) (mf_Ref_in hw) (ms_Ref_599 hw) d_Ref_way_27 ln_Ref_in (by decide) (by first | exact Nat.le_of_ble_eq_true rfl | (simp only [List.map_cons, List.map_nil, List.sum_cons, List.sum_nil, va_rf_cat]; exact Nat.le_of_ble_eq_true rfl)) rfl (p_Ref_in hw hG hq16) ?_ (fun E h' n' x' e1 => by cases e1.1)
    intro v9 h9 n9 x9 e9
    obtain ⟨e91, e92, e93⟩ := e9
    cases e91
    subst e92
    subst e93
    clear x
    rename Bool => x
    show J _ _ _ _ (_ :: _) _ _ _ _ _ _
    refine J_if_eq (tgt := 45) d_Ref_way_30 (by decide) ?_ ?_
    · intro c19
      rw [if_pos c19] at H
      refine J.drop [true, true, true, true, false] rfl ?_
      exact p_Ref_way_L45 hw hG  H
    · intro c19
      rw [if_neg c19] at H
      refine J_iload_n d_Ref_way_33 rfl ?_
      refine J_i2l d_Ref_way_34 ?_
      refine J_lconst (v := 0) d_Ref_way_35 (by decide) ?_
      refine J_ldc2 (v := 2) d_Ref_way_36 (kn_Ref_612 hw) ?_
      obtain ⟨q17, hq17, H⟩ := Option.bind_eq_some_iff.mp H
      refine J_callS (kc := 0) (ks := 0) (kc' := 0) (ks' := 0) (as := [.long (Int32.toInt64 p2), .long (0 : Int64), .long (2 : Int64)]) (st := [.ref this]) (mf_Ref_in hw) (ms_Ref_599 hw) d_Ref_way_39 ln_Ref_in (by decide) (by first | exact Nat.le_of_ble_eq_true rfl | (simp only [List.map_cons, List.map_nil, List.sum_cons, List.sum_nil, va_rf_cat]; exact Nat.le_of_ble_eq_true rfl)) rfl (p_Ref_in hw hG hq17) ?_ (fun E h' n' x' e1 => by cases e1.1)
      intro v9 h9 n9 x9 e9
      obtain ⟨e91, e92, e93⟩ := e9
      cases e91
      subst e92
      subst e93
      clear x
      rename Bool => x
      show J _ _ _ _ (_ :: _) _ _ _ _ _ _
      refine J_if_ne (tgt := 49) d_Ref_way_42 (by decide) ?_ ?_
      · intro c18
        rw [if_neg c18] at H
        refine J_iconst (v := 0) d_Ref_way_49 (by decide) ?_
        refine J.drop [true, true, true, true, false] rfl ?_
        exact p_Ref_way_L50 hw hG  H
      · intro c18
        rw [if_pos c18] at H
        refine J.drop [true, true, true, true, false] rfl ?_
        exact p_Ref_way_L45 hw hG  H
  · intro c20
    rw [if_pos c20] at H
    refine J_iconst (v := 1) d_Ref_way_17 (by decide) ?_
    refine J_goto (tgt := 50) d_Ref_way_18 (by decide) ?_
    refine J.drop [true, true, true, true, false] rfl ?_
    exact p_Ref_way_L50 hw hG  H
theorem ln_Ref_spoil : (parseMethodDescriptor y_Ref_spoil.desc).map (fun q => q.parameters.length) = some 3 := by decide +kernel
def f_Ref_spoil_L93 (Γ : gm_T)  (φ : ph_T) (x4 : Int32) : Option (Int32 × ph_T) :=
  some (x4, φ)
set_option maxRecDepth 100000 in
set_option maxHeartbeats 4000000 in
theorem p_Ref_spoil_L93 {w : jw_T} (hw : jok w) {Γ : gm_T} {n : Nat} (hG : gd w Γ n)  {x : Bool} {φ : ph_T} {x4 : Int32} {q : Int32 × ph_T} (H : f_Ref_spoil_L93 Γ  φ x4 = some q) : J w M_Ref_spoil 93 [none, none, none, none, some (.int x4), none] [] (pic Γ φ) n x 0 0 (fq Γ n (.inl (some (.int q.1))) q.2) := by
  unfold f_Ref_spoil_L93 at H
  refine J_iload d_Ref_spoil_93 rfl ?_
  have H := Option.some.inj H
  subst H
  exact J_iret (st := []) d_Ref_spoil_95 rfl rfl ⟨rfl, rfl, rfl⟩
def f_Ref_spoil_L76 (Γ : gm_T) (Kc36 : ph_T → Nat → Int32 → Int32 → Int32 → Int32 → Int32 → Option (Int32 × ph_T)) (φ : ph_T) (x0 : Nat) (x1 : Int32) (x2 : Int32) (x3 : Int32) (x5 : Int32) (y0 : Int32) (y1 : Int32) : Option (Int32 × ph_T) :=
  @ite _ (Γ x0 = .inr 12) _ (
  Option.bind (φ.2.2 x0 14) fun a2 =>
  Option.bind (gA Γ a2 2) fun N3 =>
  Option.bind (ix x5 N3) fun k4 =>
  @ite _ (x3 = 0 ∨ x3 = 1) _ (
  Kc36 (uI φ a2 k4 x3) x0 x1 x2 x3 (y1 + y0) (x5 + (1 : Int32))
  ) none
  ) none
set_option maxRecDepth 100000 in
set_option maxHeartbeats 4000000 in
theorem p_Ref_spoil_L76 {w : jw_T} (hw : jok w) {Γ : gm_T} {n : Nat} (hG : gd w Γ n) {Kc36 : ph_T → Nat → Int32 → Int32 → Int32 → Int32 → Int32 → Option (Int32 × ph_T)} (hKc36 : ∀ {x : Bool} {φ : ph_T} {x0 : Nat} {x1 : Int32} {x2 : Int32} {x3 : Int32} {x4 : Int32} {x5 : Int32} {q : Int32 × ph_T}, Kc36 φ x0 x1 x2 x3 x4 x5 = some q → J w M_Ref_spoil 36 [some (.ref x0), some (.int x1), some (.int x2), some (.int x3), some (.int x4), some (.int x5)] [] (pic Γ φ) n x 0 0 (fq Γ n (.inl (some (.int q.1))) q.2)) {x : Bool} {φ : ph_T} {x0 : Nat} {x1 : Int32} {x2 : Int32} {x3 : Int32} {x5 : Int32} {y0 : Int32} {y1 : Int32} {q : Int32 × ph_T} (H : f_Ref_spoil_L76 Γ Kc36 φ x0 x1 x2 x3 x5 y0 y1 = some q) : J w M_Ref_spoil 76 [some (.ref x0), some (.int x1), some (.int x2), some (.int x3), none, some (.int x5)] [.int y0, .int y1] (pic Γ φ) n x 0 0 (fq Γ n (.inl (some (.int q.1))) q.2) := by
  unfold f_Ref_spoil_L76 at H
  refine J_iadd d_Ref_spoil_76 ?_
  refine J_istore d_Ref_spoil_77 (Nat.le_of_ble_eq_true rfl) ?_
  refine J.ls (ls' := [some (.ref x0), some (.int x1), some (.int x2), some (.int x3), some (.int (y1 + y0)), some (.int x5)]) rfl ?_
  refine J_aload_n d_Ref_spoil_79 rfl ?_
  have g1 : Γ x0 = .inr 12 := by
    apply Classical.byContradiction
    intro q9
    rw [if_neg q9] at H
    cases H
  rw [if_pos g1] at H
  refine F_getR (ci := 12) (k := 14) hG (cf_Ref hw) (fl_Ref_33 hw) (by decide) (by decide) rfl d_Ref_spoil_80 g1 ?_
  refine J_iload d_Ref_spoil_83 rfl ?_
  refine J_iload_n d_Ref_spoil_85 rfl ?_
  obtain ⟨a2, ha2, H⟩ := Option.bind_eq_some_iff.mp H
  rw [j_rf ha2]
  obtain ⟨N3, hN3, H⟩ := Option.bind_eq_some_iff.mp H
  obtain ⟨k4, hk4, H⟩ := Option.bind_eq_some_iff.mp H
  have z5 : x3 = 0 ∨ x3 = 1 := by
    apply Classical.byContradiction
    intro q9
    rw [if_neg q9] at H
    cases H
  rw [if_pos z5] at H
  refine F_zast k4 hw hG d_Ref_spoil_86 (gA_some hN3) (ix_some hk4) z5 ?_
  refine J_iinc (v := x5 + 1) d_Ref_spoil_87 rfl (by rw [show Int32.ofInt 1 = (1 : Int32) from by decide]) ?_
  refine J.ls (ls' := [some (.ref x0), some (.int x1), some (.int x2), some (.int x3), some (.int (y1 + y0)), some (.int (x5 + (1 : Int32)))]) rfl ?_
  refine J_goto (tgt := 36) d_Ref_spoil_90 (by decide) ?_
  refine J.drop [true, true, true, true, true, true] rfl ?_
  exact hKc36 H
def f_Ref_spoil_L36 (Γ : gm_T)  : Nat → ph_T → Nat → Int32 → Int32 → Int32 → Int32 → Int32 → Option (Int32 × ph_T)
  | 0, _, _, _, _, _, _, _ => none
  | fu + 1, φ, x0, x1, x2, x3, x4, x5 =>
    @ite _ (Γ x0 = .inr 12) _ (
    if (φ.1 x0 0) = 0 then
      if (65536 : Int32) ≤ x5 then
        f_Ref_spoil_L93 Γ  φ x4
      else
        if x2 ≤ (x5 - x1) then
          f_Ref_spoil_L93 Γ  φ x4
        else
          Option.bind (φ.2.2 x0 14) fun a7 =>
          Option.bind (gA Γ a7 2) fun N8 =>
          Option.bind (ix x5 N8) fun k9 =>
          if (φ.1 a7 k9) = x3 then
            f_Ref_spoil_L76 Γ (f_Ref_spoil_L36 Γ  fu) φ x0 x1 x2 x3 x5 (0 : Int32) x4
          else
            f_Ref_spoil_L76 Γ (f_Ref_spoil_L36 Γ  fu) φ x0 x1 x2 x3 x5 (1 : Int32) x4
    else
      f_Ref_spoil_L93 Γ  φ x4
    ) none
set_option maxRecDepth 100000 in
set_option maxHeartbeats 4000000 in
theorem p_Ref_spoil_L36 {w : jw_T} (hw : jok w) {Γ : gm_T} {n : Nat} (hG : gd w Γ n)  : ∀ (fu : Nat) {x : Bool} {φ : ph_T} {x0 : Nat} {x1 : Int32} {x2 : Int32} {x3 : Int32} {x4 : Int32} {x5 : Int32} {q : Int32 × ph_T}, f_Ref_spoil_L36 Γ  fu φ x0 x1 x2 x3 x4 x5 = some q → J w M_Ref_spoil 36 [some (.ref x0), some (.int x1), some (.int x2), some (.int x3), some (.int x4), some (.int x5)] [] (pic Γ φ) n x 0 0 (fq Γ n (.inl (some (.int q.1))) q.2) := by
  intro fu
  induction fu with
  | zero =>
    intro x φ x0 x1 x2 x3 x4 x5 q H
    cases H
  | succ fu ih =>
    intro x φ x0 x1 x2 x3 x4 x5 q H
    unfold f_Ref_spoil_L36 at H
    refine J_aload_n d_Ref_spoil_36 rfl ?_
    have g6 : Γ x0 = .inr 12 := by
      apply Classical.byContradiction
      intro q9
      rw [if_neg q9] at H
      cases H
    rw [if_pos g6] at H
    refine F_getI (ci := 12) (k := 0) hG (cf_Ref hw) (fl_Ref_303 hw) (by decide) (by decide) rfl d_Ref_spoil_37 g6 ?_
    refine J_if_ne (tgt := 93) d_Ref_spoil_40 (by decide) ?_ ?_
    · intro c13
      rw [if_neg c13] at H
      refine J.drop [false, false, false, false, true, false] rfl ?_
      exact p_Ref_spoil_L93 hw hG  H
    · intro c13
      rw [if_pos c13] at H
      refine J_iload d_Ref_spoil_43 rfl ?_
      refine J_ldc (v := 65536) d_Ref_spoil_45 (kn_Ref_29 hw) ?_
      refine J_icmp_ge (tgt := 93) d_Ref_spoil_47 (by decide) ?_ ?_
      · intro c12
        rw [if_pos c12] at H
        refine J.drop [false, false, false, false, true, false] rfl ?_
        exact p_Ref_spoil_L93 hw hG  H
      · intro c12
        rw [if_neg c12] at H
        refine J_iload d_Ref_spoil_50 rfl ?_
        refine J_iload_n d_Ref_spoil_52 rfl ?_
        refine J_isub d_Ref_spoil_53 ?_
        refine J_iload_n d_Ref_spoil_54 rfl ?_
        refine J_icmp_ge (tgt := 93) d_Ref_spoil_55 (by decide) ?_ ?_
        · intro c11
          rw [if_pos c11] at H
          refine J.drop [false, false, false, false, true, false] rfl ?_
          exact p_Ref_spoil_L93 hw hG  H
        · intro c11
          rw [if_neg c11] at H
          refine J_iload d_Ref_spoil_58 rfl ?_
          refine J_aload_n d_Ref_spoil_60 rfl ?_
          refine F_getR (ci := 12) (k := 14) hG (cf_Ref hw) (fl_Ref_33 hw) (by decide) (by decide) rfl d_Ref_spoil_61 g6 ?_
          refine J_iload d_Ref_spoil_64 rfl ?_
          obtain ⟨a7, ha7, H⟩ := Option.bind_eq_some_iff.mp H
          rw [j_rf ha7]
          obtain ⟨N8, hN8, H⟩ := Option.bind_eq_some_iff.mp H
          obtain ⟨k9, hk9, H⟩ := Option.bind_eq_some_iff.mp H
          refine F_zald k9 hw hG d_Ref_spoil_66 (gA_some hN8) (ix_some hk9) ?_
          refine J_iload_n d_Ref_spoil_67 rfl ?_
          refine J_icmp_eq (tgt := 75) d_Ref_spoil_68 (by decide) ?_ ?_
          · intro c10
            rw [if_pos c10] at H
            refine J_iconst (v := 0) d_Ref_spoil_75 (by decide) ?_
            refine J.drop [true, true, true, true, false, true] rfl ?_
            exact p_Ref_spoil_L76 hw hG ih H
          · intro c10
            rw [if_neg c10] at H
            refine J_iconst (v := 1) d_Ref_spoil_71 (by decide) ?_
            refine J_goto (tgt := 76) d_Ref_spoil_72 (by decide) ?_
            refine J.drop [true, true, true, true, false, true] rfl ?_
            exact p_Ref_spoil_L76 hw hG ih H
def f_Ref_spoil_L27 (Γ : gm_T)  (φ : ph_T) (x0 : Nat) (x1 : Int32) (x2 : Int32) (x3 : Int32) (y0 : Int32) (y1 : Nat) : Option (Int32 × ph_T) :=
  @ite _ (Γ y1 = .inr 12) _ (
  f_Ref_spoil_L36 Γ  jF (uI φ y1 0 y0) x0 x1 x2 x3 (0 : Int32) x1
  ) none
set_option maxRecDepth 100000 in
set_option maxHeartbeats 4000000 in
theorem p_Ref_spoil_L27 {w : jw_T} (hw : jok w) {Γ : gm_T} {n : Nat} (hG : gd w Γ n)  {x : Bool} {φ : ph_T} {x0 : Nat} {x1 : Int32} {x2 : Int32} {x3 : Int32} {y0 : Int32} {y1 : Nat} {q : Int32 × ph_T} (H : f_Ref_spoil_L27 Γ  φ x0 x1 x2 x3 y0 y1 = some q) : J w M_Ref_spoil 27 [some (.ref x0), some (.int x1), some (.int x2), some (.int x3), none, none] [.int y0, .ref y1] (pic Γ φ) n x 0 0 (fq Γ n (.inl (some (.int q.1))) q.2) := by
  unfold f_Ref_spoil_L27 at H
  have g14 : Γ y1 = .inr 12 := by
    apply Classical.byContradiction
    intro q9
    rw [if_neg q9] at H
    cases H
  rw [if_pos g14] at H
  refine F_putI (ci := 12) (k := 0) hG (cf_Ref hw) (fl_Ref_303 hw) (by decide) (by decide) rfl d_Ref_spoil_27 rfl rfl rfl g14 ?_
  refine J_iconst (v := 0) d_Ref_spoil_30 (by decide) ?_
  refine J_istore d_Ref_spoil_31 (Nat.le_of_ble_eq_true rfl) ?_
  refine J.ls (ls' := [some (.ref x0), some (.int x1), some (.int x2), some (.int x3), some (.int (0 : Int32)), none]) rfl ?_
  refine J_iload_n d_Ref_spoil_33 rfl ?_
  refine J_istore d_Ref_spoil_34 (Nat.le_of_ble_eq_true rfl) ?_
  refine J.ls (ls' := [some (.ref x0), some (.int x1), some (.int x2), some (.int x3), some (.int (0 : Int32)), some (.int x1)]) rfl ?_
  refine J.drop [true, true, true, true, true, true] rfl ?_
  exact p_Ref_spoil_L36 hw hG  _ H
def f_Ref_spoil (Γ : gm_T) (φ : ph_T) (this : Nat) (p0 : Int32) (p1 : Int32) (p2 : Int32) : Option (Int32 × ph_T) :=
  Option.bind (f_Ref_in Γ φ (Int32.toInt64 p0) (0 : Int64) (65535 : Int64)) fun q15 =>
  if q15.1 = 0 then
    f_Ref_spoil_L27 Γ  q15.2 this p0 p1 p2 (1 : Int32) this
  else
    if (1 : Int32) ≤ p1 then
      f_Ref_spoil_L27 Γ  q15.2 this p0 p1 p2 (0 : Int32) this
    else
      f_Ref_spoil_L27 Γ  q15.2 this p0 p1 p2 (2 : Int32) this
set_option maxRecDepth 100000 in
set_option maxHeartbeats 4000000 in
theorem p_Ref_spoil {w : jw_T} (hw : jok w) {Γ : gm_T} {n : Nat} (hG : gd w Γ n) {x : Bool} {φ : ph_T} {this : Nat} {p0 : Int32} {p1 : Int32} {p2 : Int32} {q : Int32 × ph_T} (H : f_Ref_spoil Γ φ this p0 p1 p2 = some q) : jc w M_Ref_spoil [.ref this, .int p0, .int p1, .int p2] (pic Γ φ) n x 0 0 (fq Γ n (.inl (some (.int q.1))) q.2) := by
  refine jc.of (by simp only [jent_r, jent_i, jent_l, jent_a, jent_0]; exact Nat.le_of_ble_eq_true rfl) ?_
  have hls : jents [.ref this, .int p0, .int p1, .int p2] (jm_nL M_Ref_spoil) = [some (.ref this), some (.int p0), some (.int p1), some (.int p2), none, none] := by simp only [jents, jent_r, jent_i, jent_l, jent_a, jent_0]; rfl
  rw [hls]
  clear hls
  unfold f_Ref_spoil at H
  refine J_aload_n d_Ref_spoil_0 rfl ?_
  refine J_iload_n d_Ref_spoil_1 rfl ?_
  refine J_i2l d_Ref_spoil_2 ?_
  refine J_lconst (v := 0) d_Ref_spoil_3 (by decide) ?_
  refine J_ldc2 (v := 65535) d_Ref_spoil_4 (kn_Ref_308 hw) ?_
  obtain ⟨q15, hq15, H⟩ := Option.bind_eq_some_iff.mp H
  refine J_callS (kc := 0) (ks := 0) (kc' := 0) (ks' := 0) (as := [.long (Int32.toInt64 p0), .long (0 : Int64), .long (65535 : Int64)]) (st := [.ref this]) (mf_Ref_in hw) (ms_Ref_599 hw) d_Ref_spoil_7 ln_Ref_in (by decide) (by first | exact Nat.le_of_ble_eq_true rfl | (simp only [List.map_cons, List.map_nil, List.sum_cons, List.sum_nil, va_rf_cat]; exact Nat.le_of_ble_eq_true rfl)) rfl (p_Ref_in hw hG hq15) ?_ (fun E h' n' x' e1 => by cases e1.1)
  intro v9 h9 n9 x9 e9
  obtain ⟨e91, e92, e93⟩ := e9
  cases e91
  subst e92
  subst e93
  clear x
  rename Bool => x
  show J _ _ _ _ (_ :: _) _ _ _ _ _ _
  refine J_if_ne (tgt := 17) d_Ref_spoil_10 (by decide) ?_ ?_
  · intro c17
    rw [if_neg c17] at H
    refine J_iload_n d_Ref_spoil_17 rfl ?_
    refine J_iconst (v := 1) d_Ref_spoil_18 (by decide) ?_
    refine J_icmp_ge (tgt := 26) d_Ref_spoil_19 (by decide) ?_ ?_
    · intro c16
      rw [if_pos c16] at H
      refine J_iconst (v := 0) d_Ref_spoil_26 (by decide) ?_
      refine J.drop [true, true, true, true, false, false] rfl ?_
      exact p_Ref_spoil_L27 hw hG  H
    · intro c16
      rw [if_neg c16] at H
      refine J_iconst (v := 2) d_Ref_spoil_22 (by decide) ?_
      refine J_goto (tgt := 27) d_Ref_spoil_23 (by decide) ?_
      refine J.drop [true, true, true, true, false, false] rfl ?_
      exact p_Ref_spoil_L27 hw hG  H
  · intro c17
    rw [if_pos c17] at H
    refine J_iconst (v := 1) d_Ref_spoil_13 (by decide) ?_
    refine J_goto (tgt := 27) d_Ref_spoil_14 (by decide) ?_
    refine J.drop [true, true, true, true, false, false] rfl ?_
    exact p_Ref_spoil_L27 hw hG  H
