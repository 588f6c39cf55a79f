theorem ln_Ref_poke : (parseMethodDescriptor y_Ref_poke.desc).map (fun q => q.parameters.length) = some 2 := by decide +kernel
def f_Ref_poke_L34 (Γ : gm_T)  (φ : ph_T) (x0 : Nat) (x1 : Int32) (x2 : Int32) (y0 : Int32) (y1 : Nat) : Option (Int32 × ph_T) :=
  @ite _ (Γ y1 = .inr 12) _ (
  @ite _ (Γ x0 = .inr 12) _ (
  if ((uI φ y1 0 y0).1 x0 0) ≤ 0 then
    Option.bind (φ.2.2 x0 13) fun a3 =>
    Option.bind (gA Γ a3 0) fun N4 =>
    Option.bind (ix x1 N4) fun k5 =>
    Option.bind (gA Γ a3 0) fun N6 =>
    Option.bind (ix x1 N6) fun k7 =>
    some (((uI φ y1 0 y0).1 a3 k5), (uI (uI φ y1 0 y0) a3 k7 x2))
  else
    some ((0 : Int32), (uI φ y1 0 y0))
  ) none
  ) none
set_option maxRecDepth 100000 in
set_option maxHeartbeats 4000000 in
theorem p_Ref_poke_L34 {w : jw_T} (hw : jok w) {Γ : gm_T} {n : Nat} (hG : gd w Γ n)  {x : Bool} {φ : ph_T} {x0 : Nat} {x1 : Int32} {x2 : Int32} {y0 : Int32} {y1 : Nat} {q : Int32 × ph_T} (H : f_Ref_poke_L34 Γ  φ x0 x1 x2 y0 y1 = some q) : J w M_Ref_poke 34 [some (.ref x0), some (.int x1), some (.int x2), none] [.int y0, .ref y1] (pic Γ φ) n x 0 0 (fq Γ n (.inl (some (.int q.1))) q.2) := by
  unfold f_Ref_poke_L34 at H
  have g1 : Γ y1 = .inr 12 := by
    apply Classical.byContradiction
    intro q9
    rw [if_neg q9] at H
    cases H
  rw [if_pos g1] at H
  refine F_putI (ci := 12) (k := 0) hG (cf_Ref hw) (fl_Ref_303 hw) (by decide) (by decide) rfl d_Ref_poke_34 rfl rfl rfl g1 ?_
  refine J_aload_n d_Ref_poke_37 rfl ?_
  have g2 : Γ x0 = .inr 12 := by
    apply Classical.byContradiction
    intro q9
    rw [if_neg q9] at H
    cases H
  rw [if_pos g2] at H
  refine F_getI (ci := 12) (k := 0) hG (cf_Ref hw) (fl_Ref_303 hw) (by decide) (by decide) rfl d_Ref_poke_38 g2 ?_
  refine J_if_le (tgt := 46) d_Ref_poke_41 (by decide) ?_ ?_
  · intro c8
    rw [if_pos c8] at H
    refine J_aload_n d_Ref_poke_46 rfl ?_
    refine F_getR (ci := 12) (k := 13) hG (cf_Ref hw) (fl_Ref_30 hw) (by decide) (by decide) rfl d_Ref_poke_47 g2 ?_
    show J _ _ _ _ (va_rf (φ.2.2 x0 13) :: _) _ _ _ _ _ _
    refine J_iload_n d_Ref_poke_50 rfl ?_
    obtain ⟨a3, ha3, H⟩ := Option.bind_eq_some_iff.mp H
    rw [j_rf ha3]
    obtain ⟨N4, hN4, H⟩ := Option.bind_eq_some_iff.mp H
    obtain ⟨k5, hk5, H⟩ := Option.bind_eq_some_iff.mp H
    refine F_iald k5 hw hG d_Ref_poke_51 (gA_some hN4) (ix_some hk5) ?_
    refine J_istore_n d_Ref_poke_52 (Nat.le_of_ble_eq_true rfl) ?_
    refine J.ls (ls' := [some (.ref x0), some (.int x1), some (.int x2), some (.int ((uI φ y1 0 y0).1 a3 k5))]) rfl ?_
    refine J_aload_n d_Ref_poke_53 rfl ?_
    refine F_getR (ci := 12) (k := 13) hG (cf_Ref hw) (fl_Ref_30 hw) (by decide) (by decide) rfl d_Ref_poke_54 g2 ?_
    show J _ _ _ _ (va_rf (φ.2.2 x0 13) :: _) _ _ _ _ _ _
    refine J_iload_n d_Ref_poke_57 rfl ?_
    refine J_iload_n d_Ref_poke_58 rfl ?_
    try rw [j_rf ha3]
    obtain ⟨N6, hN6, H⟩ := Option.bind_eq_some_iff.mp H
    obtain ⟨k7, hk7, H⟩ := Option.bind_eq_some_iff.mp H
    refine F_iast k7 hw hG d_Ref_poke_59 (gA_some hN6) (ix_some hk7) ?_
    refine J_iload_n d_Ref_poke_60 rfl ?_
    have H := Option.some.inj H
    subst H
    exact J_iret (st := []) d_Ref_poke_61 rfl rfl ⟨rfl, rfl, rfl⟩
  · intro c8
    rw [if_neg c8] at H
    refine J_iconst (v := 0) d_Ref_poke_44 (by decide) ?_
    have H := Option.some.inj H
    subst H
    exact J_iret (st := []) d_Ref_poke_45 rfl rfl ⟨rfl, rfl, rfl⟩
def f_Ref_poke (Γ : gm_T) (φ : ph_T) (this : Nat) (p0 : Int32) (p1 : Int32) : Option (Int32 × ph_T) :=
  Option.bind (f_Ref_in Γ φ (Int32.toInt64 p0) (0 : Int64) (65535 : Int64)) fun q9 =>
  if q9.1 = 0 then
    f_Ref_poke_L34 Γ  q9.2 this p0 p1 (1 : Int32) this
  else
    Option.bind (f_Ref_in Γ q9.2 (Int32.toInt64 p1) (0 : Int64) (255 : Int64)) fun q10 =>
    if q10.1 = 0 then
      f_Ref_poke_L34 Γ  q10.2 this p0 p1 (2 : Int32) this
    else
      f_Ref_poke_L34 Γ  q10.2 this p0 p1 (0 : Int32) this
set_option maxRecDepth 100000 in
set_option maxHeartbeats 4000000 in
theorem p_Ref_poke {w : jw_T} (hw : jok w) {Γ : gm_T} {n : Nat} (hG : gd w Γ n) {x : Bool} {φ : ph_T} {this : Nat} {p0 : Int32} {p1 : Int32} {q : Int32 × ph_T} (H : f_Ref_poke Γ φ this p0 p1 = some q) : jc w M_Ref_poke [.ref this, .int p0, .int p1] (pic Γ φ) n x 0 0 (fq Γ n (.inl (some (.int q.1))) q.2) := by
  refine jc.of (by simp only [jent_r, jent_i, jent_l, jent_a, jent_0]; exact Nat.le_of_ble_eq_true rfl) ?_
  have hls : jents [.ref this, .int p0, .int p1] (jm_nL M_Ref_poke) = [some (.ref this), some (.int p0), some (.int p1), none] := by simp only [jents, jent_r, jent_i, jent_l, jent_a, jent_0]; rfl
  rw [hls]
  clear hls
  unfold f_Ref_poke at H
  refine J_aload_n d_Ref_poke_0 rfl ?_
  refine J_iload_n d_Ref_poke_1 rfl ?_
  refine J_i2l d_Ref_poke_2 ?_
  refine J_lconst (v := 0) d_Ref_poke_3 (by decide) ?_
  refine J_ldc2 (v := 65535) d_Ref_poke_4 (kn_Ref_308 hw) ?_
  obtain ⟨q9, hq9, H⟩ := Option.bind_eq_some_iff.mp H
  refine J_callS (kc := 0) (ks := 0) (kc' := 0) (ks' := 0) (as := [.long (Int32.toInt64 p0), .long (0 : Int64), .long (65535 : Int64)]) (st := [.ref this]) (mf_Ref_in hw) (ms_Ref_599 hw) d_Ref_poke_7 ln_Ref_in (by decide) (by first | exact Nat.le_of_ble_eq_true rfl | (simp only [List.map_cons, List.map_nil, List.sum_cons, List.sum_nil, va_rf_cat]; exact Nat.le_of_ble_eq_true rfl)) rfl (p_Ref_in hw hG hq9) ?_ (fun E h' n' x' e1 => by cases e1.1)
  intro v9 h9 n9 x9 e9
  obtain ⟨e91, e92, e93⟩ := e9
  cases e91
  subst e92
  subst e93
  clear x
  rename Bool => x
  show J _ _ _ _ (_ :: _) _ _ _ _ _ _
  refine J_if_ne (tgt := 17) d_Ref_poke_10 (by decide) ?_ ?_
  · intro c12
    rw [if_neg c12] at H
    refine J_iload_n d_Ref_poke_17 rfl ?_
    refine J_i2l d_Ref_poke_18 ?_
    refine J_lconst (v := 0) d_Ref_poke_19 (by decide) ?_
    refine J_ldc2 (v := 255) d_Ref_poke_20 (kn_Ref_327 hw) ?_
    obtain ⟨q10, hq10, H⟩ := Option.bind_eq_some_iff.mp H
    refine J_callS (kc := 0) (ks := 0) (kc' := 0) (ks' := 0) (as := [.long (Int32.toInt64 p1), .long (0 : Int64), .long (255 : Int64)]) (st := [.ref this]) (mf_Ref_in hw) (ms_Ref_599 hw) d_Ref_poke_23 ln_Ref_in (by decide) (by first | exact Nat.le_of_ble_eq_true rfl | (simp only [List.map_cons, List.map_nil, List.sum_cons, List.sum_nil, va_rf_cat]; exact Nat.le_of_ble_eq_true rfl)) rfl (p_Ref_in hw hG hq10) ?_ (fun E h' n' x' e1 => by cases e1.1)
    intro v9 h9 n9 x9 e9
    obtain ⟨e91, e92, e93⟩ := e9
    cases e91
    subst e92
    subst e93
    clear x
    rename Bool => x
    show J _ _ _ _ (_ :: _) _ _ _ _ _ _
    refine J_if_ne (tgt := 33) d_Ref_poke_26 (by decide) ?_ ?_
    · intro c11
      rw [if_neg c11] at H
      refine J_iconst (v := 0) d_Ref_poke_33 (by decide) ?_
      refine J.drop [true, true, true, false] rfl ?_
      exact p_Ref_poke_L34 hw hG  H
    · intro c11
      rw [if_pos c11] at H
      refine J_iconst (v := 2) d_Ref_poke_29 (by decide) ?_
      refine J_goto (tgt := 34) d_Ref_poke_30 (by decide) ?_
      refine J.drop [true, true, true, false] rfl ?_
      exact p_Ref_poke_L34 hw hG  H
  · intro c12
    rw [if_pos c12] at H
    refine J_iconst (v := 1) d_Ref_poke_13 (by decide) ?_
    refine J_goto (tgt := 34) d_Ref_poke_14 (by decide) ?_
    refine J.drop [true, true, true, false] rfl ?_
    exact p_Ref_poke_L34 hw hG  H
theorem ln_Ref_peek : (parseMethodDescriptor y_Ref_peek.desc).map (fun q => q.parameters.length) = some 1 := by decide +kernel
def f_Ref_peek_L38 (Γ : gm_T)  (φ : ph_T) (y0 : Int32) : Option (Int32 × ph_T) :=
  some (y0, φ)
set_option maxRecDepth 100000 in
set_option maxHeartbeats 4000000 in
theorem p_Ref_peek_L38 {w : jw_T} (hw : jok w) {Γ : gm_T} {n : Nat} (hG : gd w Γ n)  {x : Bool} {φ : ph_T} {y0 : Int32} {q : Int32 × ph_T} (H : f_Ref_peek_L38 Γ  φ y0 = some q) : J w M_Ref_peek 38 [none, none] [.int y0] (pic Γ φ) n x 0 0 (fq Γ n (.inl (some (.int q.1))) q.2) := by
  unfold f_Ref_peek_L38 at H
  have H := Option.some.inj H
  subst H
  exact J_iret (st := []) d_Ref_peek_38 rfl rfl ⟨rfl, rfl, rfl⟩
def f_Ref_peek_L18 (Γ : gm_T)  (φ : ph_T) (x0 : Nat) (x1 : Int32) (y0 : Int32) (y1 : Nat) : Option (Int32 × ph_T) :=
  @ite _ (Γ y1 = .inr 12) _ (
  @ite _ (Γ x0 = .inr 12) _ (
  if ((uI φ y1 0 y0).1 x0 0) ≤ 0 then
    Option.bind (φ.2.2 x0 13) fun a3 =>
    Option.bind (gA Γ a3 0) fun N4 =>
    Option.bind (ix x1 N4) fun k5 =>
    f_Ref_peek_L38 Γ  (uI φ y1 0 y0) ((uI φ y1 0 y0).1 a3 k5)
  else
    f_Ref_peek_L38 Γ  (uI φ y1 0 y0) (0 : Int32)
  ) none
  ) none
set_option maxRecDepth 100000 in
set_option maxHeartbeats 4000000 in
theorem p_Ref_peek_L18 {w : jw_T} (hw : jok w) {Γ : gm_T} {n : Nat} (hG : gd w Γ n)  {x : Bool} {φ : ph_T} {x0 : Nat} {x1 : Int32} {y0 : Int32} {y1 : Nat} {q : Int32 × ph_T} (H : f_Ref_peek_L18 Γ  φ x0 x1 y0 y1 = some q) : J w M_Ref_peek 18 [some (.ref x0), some (.int x1)] [.int y0, .ref y1] (pic Γ φ) n x 0 0 (fq Γ n (.inl (some (.int q.1))) q.2) := by
  unfold f_Ref_peek_L18 at H
  have g1 : Γ y1 = .inr 12 := by
    apply Classical.byContradiction
    intro q9
    rw [if_neg q9] at H
    cases H
  rw [if_pos g1] at H
  refine F_putI (ci := 12) (k := 0) hG (cf_Ref hw) (fl_Ref_303 hw) (by decide) (by decide) rfl d_Ref_peek_18 rfl rfl rfl g1 ?_
  refine J_aload_n d_Ref_peek_21 rfl ?_
  have g2 : Γ x0 = .inr 12 := by
    apply Classical.byContradiction
    intro q9
    rw [if_neg q9] at H
    cases H
  rw [if_pos g2] at H
  refine F_getI (ci := 12) (k := 0) hG (cf_Ref hw) (fl_Ref_303 hw) (by decide) (by decide) rfl d_Ref_peek_22 g2 ?_
  refine J_if_le (tgt := 32) d_Ref_peek_25 (by decide) ?_ ?_
  · intro c6
    rw [if_pos c6] at H
    refine J_aload_n d_Ref_peek_32 rfl ?_
    refine F_getR (ci := 12) (k := 13) hG (cf_Ref hw) (fl_Ref_30 hw) (by decide) (by decide) rfl d_Ref_peek_33 g2 ?_
    show J _ _ _ _ (va_rf (φ.2.2 x0 13) :: _) _ _ _ _ _ _
    refine J_iload_n d_Ref_peek_36 rfl ?_
    obtain ⟨a3, ha3, H⟩ := Option.bind_eq_some_iff.mp H
    rw [j_rf ha3]
    obtain ⟨N4, hN4, H⟩ := Option.bind_eq_some_iff.mp H
    obtain ⟨k5, hk5, H⟩ := Option.bind_eq_some_iff.mp H
    refine F_iald k5 hw hG d_Ref_peek_37 (gA_some hN4) (ix_some hk5) ?_
    refine J.drop [false, false] rfl ?_
    exact p_Ref_peek_L38 hw hG  H
  · intro c6
    rw [if_neg c6] at H
    refine J_iconst (v := 0) d_Ref_peek_28 (by decide) ?_
    refine J_goto (tgt := 38) d_Ref_peek_29 (by decide) ?_
    refine J.drop [false, false] rfl ?_
    exact p_Ref_peek_L38 hw hG  H
def f_Ref_peek (Γ : gm_T) (φ : ph_T) (this : Nat) (p0 : Int32) : Option (Int32 × ph_T) :=
  Option.bind (f_Ref_in Γ φ (Int32.toInt64 p0) (0 : Int64) (65535 : Int64)) fun q7 =>
  if q7.1 = 0 then
    f_Ref_peek_L18 Γ  q7.2 this p0 (1 : Int32) this
  else
    f_Ref_peek_L18 Γ  q7.2 this p0 (0 : Int32) this
set_option maxRecDepth 100000 in
set_option maxHeartbeats 4000000 in
theorem p_Ref_peek {w : jw_T} (hw : jok w) {Γ : gm_T} {n : Nat} (hG : gd w Γ n) {x : Bool} {φ : ph_T} {this : Nat} {p0 : Int32} {q : Int32 × ph_T} (H : f_Ref_peek Γ φ this p0 = some q) : jc w M_Ref_peek [.ref this, .int p0] (pic Γ φ) n x 0 0 (fq Γ n (.inl (some (.int q.1))) q.2) := by
  refine jc.of (by simp only [jent_r, jent_i, jent_l, jent_a, jent_0]; exact Nat.le_of_ble_eq_true rfl) ?_
  have hls : jents [.ref this, .int p0] (jm_nL M_Ref_peek) = [some (.ref this), some (.int p0)] := by simp only [jents, jent_r, jent_i, jent_l, jent_a, jent_0]; rfl
  rw [hls]
  clear hls
  unfold f_Ref_peek at H
  refine J_aload_n d_Ref_peek_0 rfl ?_
  refine J_iload_n d_Ref_peek_1 rfl ?_
  refine J_i2l d_Ref_peek_2 ?_
  refine J_lconst (v := 0) d_Ref_peek_3 (by decide) ?_
  refine J_ldc2 (v := 65535) d_Ref_peek_4 (kn_Ref_308 hw) ?_
  obtain ⟨q7, hq7, H⟩ := Option.bind_eq_some_iff.mp H
  refine J_callS (kc := 0) (ks := 0) (kc' := 0) (ks' := 0) (as := [.long (Int32.toInt64 p0), .long (0 : Int64), .long (65535 : Int64)]) (st := [.ref this]) (mf_Ref_in hw) (ms_Ref_599 hw) d_Ref_peek_7 ln_Ref_in (by decide) (by first | exact Nat.le_of_ble_eq_true rfl | (simp only [List.map_cons, List.map_nil, List.sum_cons, List.sum_nil, va_rf_cat]; exact Nat.le_of_ble_eq_true rfl)) rfl (p_Ref_in hw hG hq7) ?_ (fun E h' n' x' e1 => by cases e1.1)
  intro v9 h9 n9 x9 e9
  obtain ⟨e91, e92, e93⟩ := e9
  cases e91
  subst e92
  subst e93
  clear x
  rename Bool => x
  show J _ _ _ _ (_ :: _) _ _ _ _ _ _
  refine J_if_eq (tgt := 17) d_Ref_peek_10 (by decide) ?_ ?_
  · intro c8
    rw [if_pos c8] at H
    refine J_iconst (v := 1) d_Ref_peek_17 (by decide) ?_
    refine J.drop [true, true] rfl ?_
    exact p_Ref_peek_L18 hw hG  H
  · intro c8
    rw [if_neg c8] at H
    refine J_iconst (v := 0) d_Ref_peek_13 (by decide) ?_
    refine J_goto (tgt := 18) d_Ref_peek_14 (by decide) ?_
    refine J.drop [true, true] rfl ?_
    exact p_Ref_peek_L18 hw hG  H
theorem ln_Ref_lengthOf : (parseMethodDescriptor y_Ref_lengthOf.desc).map (fun q => q.parameters.length) = some 1 := by decide +kernel
def f_Ref_lengthOf (Γ : gm_T) (φ : ph_T) (p0 : Int64) : Option (Int32 × ph_T) :=
  some (((Int64.toInt32 ((p0 >>> (Int32.toInt64 (22 : Int32) &&& 63)) &&& (15 : Int64))) + (1 : Int32)), φ)
set_option maxRecDepth 100000 in
set_option maxHeartbeats 4000000 in
theorem p_Ref_lengthOf {w : jw_T} (hw : jok w) {Γ : gm_T} {n : Nat} (hG : gd w Γ n) {x : Bool} {φ : ph_T} {p0 : Int64} {q : Int32 × ph_T} (H : f_Ref_lengthOf Γ φ p0 = some q) : jc w M_Ref_lengthOf [.long p0] (pic Γ φ) n x 0 0 (fq Γ n (.inl (some (.int q.1))) q.2) := by
  refine jc.of (by simp only [jent_r, jent_i, jent_l, jent_a, jent_0]; exact Nat.le_of_ble_eq_true rfl) ?_
  have hls : jents [.long p0] (jm_nL M_Ref_lengthOf) = [some (.long p0), none] := by simp only [jents, jent_r, jent_i, jent_l, jent_a, jent_0]; rfl
  rw [hls]
  clear hls
  unfold f_Ref_lengthOf at H
  refine J_lload_n d_Ref_lengthOf_0 rfl ?_
  refine J_bipush (v := 22) d_Ref_lengthOf_1 (by decide) ?_
  refine J_lshr d_Ref_lengthOf_3 ?_
  refine J_ldc2 (v := 15) d_Ref_lengthOf_4 (kn_Ref_310 hw) ?_
  refine J_land d_Ref_lengthOf_7 ?_
  refine J_l2i d_Ref_lengthOf_8 ?_
  refine J_iconst (v := 1) d_Ref_lengthOf_9 (by decide) ?_
  refine J_iadd d_Ref_lengthOf_10 ?_
  have H := Option.some.inj H
  subst H
  exact J_iret (st := []) d_Ref_lengthOf_11 rfl rfl ⟨rfl, rfl, rfl⟩
theorem ln_Ref_sizeOf : (parseMethodDescriptor y_Ref_sizeOf.desc).map (fun q => q.parameters.length) = some 1 := by decide +kernel
def f_Ref_sizeOf (Γ : gm_T) (φ : ph_T) (p0 : Int64) : Option (Int32 × ph_T) :=
  some (((1 : Int32) <<< ((Int64.toInt32 ((p0 >>> (Int32.toInt64 (26 : Int32) &&& 63)) &&& (3 : Int64))) &&& 31)), φ)
set_option maxRecDepth 100000 in
set_option maxHeartbeats 4000000 in
theorem p_Ref_sizeOf {w : jw_T} (hw : jok w) {Γ : gm_T} {n : Nat} (hG : gd w Γ n) {x : Bool} {φ : ph_T} {p0 : Int64} {q : Int32 × ph_T} (H : f_Ref_sizeOf Γ φ p0 = some q) : jc w M_Ref_sizeOf [.long p0] (pic Γ φ) n x 0 0 (fq Γ n (.inl (some (.int q.1))) q.2) := by
  refine jc.of (by simp only [jent_r, jent_i, jent_l, jent_a, jent_0]; exact Nat.le_of_ble_eq_true rfl) ?_
  have hls : jents [.long p0] (jm_nL M_Ref_sizeOf) = [some (.long p0), none] := by simp only [jents, jent_r, jent_i, jent_l, jent_a, jent_0]; rfl
  rw [hls]
  clear hls
  unfold f_Ref_sizeOf at H
  refine J_iconst (v := 1) d_Ref_sizeOf_0 (by decide) ?_
  refine J_lload_n d_Ref_sizeOf_1 rfl ?_
  refine J_bipush (v := 26) d_Ref_sizeOf_2 (by decide) ?_
  refine J_lshr d_Ref_sizeOf_4 ?_
  refine J_ldc2 (v := 3) d_Ref_sizeOf_5 (kn_Ref_312 hw) ?_
  refine J_land d_Ref_sizeOf_8 ?_
  refine J_l2i d_Ref_sizeOf_9 ?_
  refine J_ishl d_Ref_sizeOf_10 ?_
  have H := Option.some.inj H
  subst H
  exact J_iret (st := []) d_Ref_sizeOf_11 rfl rfl ⟨rfl, rfl, rfl⟩
theorem ln_Ref_addressOf : (parseMethodDescriptor y_Ref_addressOf.desc).map (fun q => q.parameters.length) = some 1 := by decide +kernel
def f_Ref_addressOf (Γ : gm_T) (φ : ph_T) (p0 : Int64) : Option (Int32 × ph_T) :=
  some ((Int64.toInt32 ((p0 >>> (Int32.toInt64 (6 : Int32) &&& 63)) &&& (65535 : Int64))), φ)
set_option maxRecDepth 100000 in
set_option maxHeartbeats 4000000 in
theorem p_Ref_addressOf {w : jw_T} (hw : jok w) {Γ : gm_T} {n : Nat} (hG : gd w Γ n) {x : Bool} {φ : ph_T} {p0 : Int64} {q : Int32 × ph_T} (H : f_Ref_addressOf Γ φ p0 = some q) : jc w M_Ref_addressOf [.long p0] (pic Γ φ) n x 0 0 (fq Γ n (.inl (some (.int q.1))) q.2) := by
  refine jc.of (by simp only [jent_r, jent_i, jent_l, jent_a, jent_0]; exact Nat.le_of_ble_eq_true rfl) ?_
  have hls : jents [.long p0] (jm_nL M_Ref_addressOf) = [some (.long p0), none] := by simp only [jents, jent_r, jent_i, jent_l, jent_a, jent_0]; rfl
  rw [hls]
  clear hls
  unfold f_Ref_addressOf at H
  refine J_lload_n d_Ref_addressOf_0 rfl ?_
  refine J_bipush (v := 6) d_Ref_addressOf_1 (by decide) ?_
  refine J_lshr d_Ref_addressOf_3 ?_
  refine J_ldc2 (v := 65535) d_Ref_addressOf_4 (kn_Ref_308 hw) ?_
  refine J_land d_Ref_addressOf_7 ?_
  refine J_l2i d_Ref_addressOf_8 ?_
  have H := Option.some.inj H
  subst H
  exact J_iret (st := []) d_Ref_addressOf_9 rfl rfl ⟨rfl, rfl, rfl⟩
theorem ln_Ref_kindOf : (parseMethodDescriptor y_Ref_kindOf.desc).map (fun q => q.parameters.length) = some 1 := by decide +kernel
def f_Ref_kindOf (Γ : gm_T) (φ : ph_T) (p0 : Int64) : Option (Int32 × ph_T) :=
  some ((Int64.toInt32 ((p0 >>> (Int32.toInt64 (28 : Int32) &&& 63)) &&& (3 : Int64))), φ)
set_option maxRecDepth 100000 in
set_option maxHeartbeats 4000000 in
theorem p_Ref_kindOf {w : jw_T} (hw : jok w) {Γ : gm_T} {n : Nat} (hG : gd w Γ n) {x : Bool} {φ : ph_T} {p0 : Int64} {q : Int32 × ph_T} (H : f_Ref_kindOf Γ φ p0 = some q) : jc w M_Ref_kindOf [.long p0] (pic Γ φ) n x 0 0 (fq Γ n (.inl (some (.int q.1))) q.2) := by
  refine jc.of (by simp only [jent_r, jent_i, jent_l, jent_a, jent_0]; exact Nat.le_of_ble_eq_true rfl) ?_
  have hls : jents [.long p0] (jm_nL M_Ref_kindOf) = [some (.long p0), none] := by simp only [jents, jent_r, jent_i, jent_l, jent_a, jent_0]; rfl
  rw [hls]
  clear hls
  unfold f_Ref_kindOf at H
  refine J_lload_n d_Ref_kindOf_0 rfl ?_
  refine J_bipush (v := 28) d_Ref_kindOf_1 (by decide) ?_
  refine J_lshr d_Ref_kindOf_3 ?_
  refine J_ldc2 (v := 3) d_Ref_kindOf_4 (kn_Ref_312 hw) ?_
  refine J_land d_Ref_kindOf_7 ?_
  refine J_l2i d_Ref_kindOf_8 ?_
  have H := Option.some.inj H
  subst H
  exact J_iret (st := []) d_Ref_kindOf_9 rfl rfl ⟨rfl, rfl, rfl⟩
theorem ln_Ref_isAlone : (parseMethodDescriptor y_Ref_isAlone.desc).map (fun q => q.parameters.length) = some 1 := by decide +kernel
def f_Ref_isAlone_L16 (Γ : gm_T)  (φ : ph_T) (y0 : Int32) : Option (Int32 × ph_T) :=
  @ite _ (y0 = 0 ∨ y0 = 1) _ (
  some (y0, φ)
  ) none
set_option maxRecDepth 100000 in
set_option maxHeartbeats 4000000 in
theorem p_Ref_isAlone_L16 {w : jw_T} (hw : jok w) {Γ : gm_T} {n : Nat} (hG : gd w Γ n)  {x : Bool} {φ : ph_T} {y0 : Int32} {q : Int32 × ph_T} (H : f_Ref_isAlone_L16 Γ  φ y0 = some q) : J w M_Ref_isAlone 16 [none, none] [.int y0] (pic Γ φ) n x 0 0 (fq Γ n (.inl (some (.int q.1))) q.2) := by
  unfold f_Ref_isAlone_L16 at H
  have z1 : y0 = 0 ∨ y0 = 1 := by
    apply Classical.byContradiction
    intro q9
    rw [if_neg q9] at H
    cases H
  rw [if_pos z1] at H
  have H := Option.some.inj H
  subst H
  exact J_iret (st := []) d_Ref_isAlone_16 rfl (narrow_z z1).1 ⟨rfl, rfl, rfl⟩
def f_Ref_isAlone (Γ : gm_T) (φ : ph_T) (p0 : Int64) : Option (Int32 × ph_T) :=
  if (lg_cmp ((p0 >>> (Int32.toInt64 (30 : Int32) &&& 63)) &&& (1 : Int64)) (1 : Int64)) = 0 then
    f_Ref_isAlone_L16 Γ  φ (1 : Int32)
  else
    f_Ref_isAlone_L16 Γ  φ (0 : Int32)
set_option maxRecDepth 100000 in
set_option maxHeartbeats 4000000 in
theorem p_Ref_isAlone {w : jw_T} (hw : jok w) {Γ : gm_T} {n : Nat} (hG : gd w Γ n) {x : Bool} {φ : ph_T} {p0 : Int64} {q : Int32 × ph_T} (H : f_Ref_isAlone Γ φ p0 = some q) : jc w M_Ref_isAlone [.long p0] (pic Γ φ) n x 0 0 (fq Γ n (.inl (some (.int q.1))) q.2) := by
  refine jc.of (by simp only [jent_r, jent_i, jent_l, jent_a, jent_0]; exact Nat.le_of_ble_eq_true rfl) ?_
  have hls : jents [.long p0] (jm_nL M_Ref_isAlone) = [some (.long p0), none] := by simp only [jents, jent_r, jent_i, jent_l, jent_a, jent_0]; rfl
  rw [hls]
  clear hls
  unfold f_Ref_isAlone at H
  refine J_lload_n d_Ref_isAlone_0 rfl ?_
  refine J_bipush (v := 30) d_Ref_isAlone_1 (by decide) ?_
  refine J_lshr d_Ref_isAlone_3 ?_
  refine J_lconst (v := 1) d_Ref_isAlone_4 (by decide) ?_
  refine J_land d_Ref_isAlone_5 ?_
  refine J_lconst (v := 1) d_Ref_isAlone_6 (by decide) ?_
  refine J_lcmp d_Ref_isAlone_7 ?_
  refine J_if_ne (tgt := 15) d_Ref_isAlone_8 (by decide) ?_ ?_
  · intro c2
    rw [if_neg c2] at H
    refine J_iconst (v := 0) d_Ref_isAlone_15 (by decide) ?_
    refine J.drop [false, false] rfl ?_
    exact p_Ref_isAlone_L16 hw hG  H
  · intro c2
    rw [if_pos c2] at H
    refine J_iconst (v := 1) d_Ref_isAlone_11 (by decide) ?_
    refine J_goto (tgt := 16) d_Ref_isAlone_12 (by decide) ?_
    refine J.drop [false, false] rfl ?_
    exact p_Ref_isAlone_L16 hw hG  H
theorem ln_Ref_breaks : (parseMethodDescriptor y_Ref_breaks.desc).map (fun q => q.parameters.length) = some 1 := by decide +kernel
def f_Ref_breaks_L163 (Γ : gm_T)  (φ : ph_T) (y0 : Int32) : Option (Int32 × ph_T) :=
  some (y0, φ)
set_option maxRecDepth 100000 in
set_option maxHeartbeats 4000000 in
theorem p_Ref_breaks_L163 {w : jw_T} (hw : jok w) {Γ : gm_T} {n : Nat} (hG : gd w Γ n)  {x : Bool} {φ : ph_T} {y0 : Int32} {q : Int32 × ph_T} (H : f_Ref_breaks_L163 Γ  φ y0 = some q) : J w M_Ref_breaks 163 [none, none, none, none, none, none, none] [.int y0] (pic Γ φ) n x 0 0 (fq Γ n (.inl (some (.int q.1))) q.2) := by
  unfold f_Ref_breaks_L163 at H
  have H := Option.some.inj H
  subst H
  exact J_iret (st := []) d_Ref_breaks_163 rfl rfl ⟨rfl, rfl, rfl⟩
def f_Ref_breaks_L162 (Γ : gm_T)  (φ : ph_T) : Option (Int32 × ph_T) :=
  f_Ref_breaks_L163 Γ  φ (0 : Int32)
set_option maxRecDepth 100000 in
set_option maxHeartbeats 4000000 in
theorem p_Ref_breaks_L162 {w : jw_T} (hw : jok w) {Γ : gm_T} {n : Nat} (hG : gd w Γ n)  {x : Bool} {φ : ph_T} {q : Int32 × ph_T} (H : f_Ref_breaks_L162 Γ  φ  = some q) : J w M_Ref_breaks 162 [none, none, none, none, none, none, none] [] (pic Γ φ) n x 0 0 (fq Γ n (.inl (some (.int q.1))) q.2) := by
  unfold f_Ref_breaks_L162 at H
  refine J_iconst (v := 0) d_Ref_breaks_162 (by decide) ?_
  refine J.drop [false, false, false, false, false, false, false] rfl ?_
  exact p_Ref_breaks_L163 hw hG  H
def f_Ref_breaks_L157 (Γ : gm_T)  (φ : ph_T) : Option (Int32 × ph_T) :=
  f_Ref_breaks_L163 Γ  φ (6 : Int32)
set_option maxRecDepth 100000 in
set_option maxHeartbeats 4000000 in
theorem p_Ref_breaks_L157 {w : jw_T} (hw : jok w) {Γ : gm_T} {n : Nat} (hG : gd w Γ n)  {x : Bool} {φ : ph_T} {q : Int32 × ph_T} (H : f_Ref_breaks_L157 Γ  φ  = some q) : J w M_Ref_breaks 157 [none, none, none, none, none, none, none] [] (pic Γ φ) n x 0 0 (fq Γ n (.inl (some (.int q.1))) q.2) := by
  unfold f_Ref_breaks_L157 at H
  refine J_bipush (v := 6) d_Ref_breaks_157 (by decide) ?_
  refine J_goto (tgt := 163) d_Ref_breaks_159 (by decide) ?_
  refine J.drop [false, false, false, false, false, false, false] rfl ?_
  exact p_Ref_breaks_L163 hw hG  H
def f_Ref_breaks_L120 (Γ : gm_T)  (φ : ph_T) (x0 : Int64) (x4 : Int32) (x5 : Int32) (y0 : Int32) : Option (Int32 × ph_T) :=
  Option.bind (f_Ref_isAlone Γ φ x0) fun q6 =>
  if q6.1 = 0 then
    f_Ref_breaks_L162 Γ  q6.2 
  else
    Option.bind (f_Ref_kindOf Γ q6.2 x0) fun q7 =>
    if q7.1 = 0 then
      f_Ref_breaks_L157 Γ  q7.2 
    else
      if y0 = 0 then
        f_Ref_breaks_L157 Γ  q7.2 
      else
        if (128 : Int32) < x5 then
          f_Ref_breaks_L157 Γ  q7.2 
        else
          @ite _ (x5 = 0) _ none (
          if (x4 - x4 / x5 * x5) = 0 then
            f_Ref_breaks_L162 Γ  q7.2 
          else
            f_Ref_breaks_L157 Γ  q7.2 
          )
set_option maxRecDepth 100000 in
set_option maxHeartbeats 4000000 in
theorem p_Ref_breaks_L120 {w : jw_T} (hw : jok w) {Γ : gm_T} {n : Nat} (hG : gd w Γ n)  {x : Bool} {φ : ph_T} {x0 : Int64} {x4 : Int32} {x5 : Int32} {y0 : Int32} {q : Int32 × ph_T} (H : f_Ref_breaks_L120 Γ  φ x0 x4 x5 y0 = some q) : J w M_Ref_breaks 120 [some (.long x0), none, none, none, some (.int x4), some (.int x5), none] [.int y0] (pic Γ φ) n x 0 0 (fq Γ n (.inl (some (.int q.1))) q.2) := by
  unfold f_Ref_breaks_L120 at H
  refine J_istore d_Ref_breaks_120 (Nat.le_of_ble_eq_true rfl) ?_
  refine J.ls (ls' := [some (.long x0), none, none, none, some (.int x4), some (.int x5), some (.int y0)]) rfl ?_
  refine J_lload_n d_Ref_breaks_122 rfl ?_
  obtain ⟨q6, hq6, H⟩ := Option.bind_eq_some_iff.mp H
  refine J_callS (kc := 0) (ks := 0) (kc' := 0) (ks' := 0) (as := [.long x0]) (st := []) (mf_Ref_isAlone hw) (ms_Ref_329 hw) d_Ref_breaks_123 ln_Ref_isAlone (by decide) (by first | exact Nat.le_of_ble_eq_true rfl | (simp only [List.map_cons, List.map_nil, List.sum_cons, List.sum_nil, va_rf_cat]; exact Nat.le_of_ble_eq_true rfl)) rfl (p_Ref_isAlone hw hG hq6) ?_ (fun E h' n' x' e1 => by cases e1.1)
  intro v9 h9 n9 x9 e9
  obtain ⟨e91, e92, e93⟩ := e9
  cases e91
  subst e92
  subst e93
  clear x
  rename Bool => x
  show J _ _ _ _ (_ :: _) _ _ _ _ _ _
  refine J_if_eq (tgt := 162) d_Ref_breaks_126 (by decide) ?_ ?_
  · intro c13
    rw [if_pos c13] at H
    refine J.drop [false, false, false, false, false, false, false] rfl ?_
    exact p_Ref_breaks_L162 hw hG  H
  · intro c13
    rw [if_neg c13] at H
    refine J_lload_n d_Ref_breaks_129 rfl ?_
    obtain ⟨q7, hq7, H⟩ := Option.bind_eq_some_iff.mp H
    refine J_callS (kc := 0) (ks := 0) (kc' := 0) (ks' := 0) (as := [.long x0]) (st := []) (mf_Ref_kindOf hw) (ms_Ref_324 hw) d_Ref_breaks_130 ln_Ref_kindOf (by decide) (by first | exact Nat.le_of_ble_eq_true rfl | (simp only [List.map_cons, List.map_nil, List.sum_cons, List.sum_nil, va_rf_cat]; exact Nat.le_of_ble_eq_true rfl)) rfl (p_Ref_kindOf hw hG hq7) ?_ (fun E h' n' x' e1 => by cases e1.1)
    intro v9 h9 n9 x9 e9
    obtain ⟨e91, e92, e93⟩ := e9
    cases e91
    subst e92
    subst e93
    clear x
    rename Bool => x
    show J _ _ _ _ (_ :: _) _ _ _ _ _ _
    refine J_if_eq (tgt := 157) d_Ref_breaks_133 (by decide) ?_ ?_
    · intro c12
      rw [if_pos c12] at H
      refine J.drop [false, false, false, false, false, false, false] rfl ?_
      exact p_Ref_breaks_L157 hw hG  H
    · intro c12
      rw [if_neg c12] at H
      refine J_iload d_Ref_breaks_136 rfl ?_
      refine J_if_eq (tgt := 157) d_Ref_breaks_138 (by decide) ?_ ?_
      · intro c11
        rw [if_pos c11] at H
        refine J.drop [false, false, false, false, false, false, false] rfl ?_
        exact p_Ref_breaks_L157 hw hG  H
      · intro c11
        rw [if_neg c11] at H
        refine J_iload d_Ref_breaks_141 rfl ?_
        refine J_sipush (v := 128) d_Ref_breaks_143 (by decide) ?_
        refine J_icmp_gt (tgt := 157) d_Ref_breaks_146 (by decide) ?_ ?_
        · intro c10
          rw [if_pos c10] at H
          refine J.drop [false, false, false, false, false, false, false] rfl ?_
          exact p_Ref_breaks_L157 hw hG  H
        · intro c10
          rw [if_neg c10] at H
          refine J_iload d_Ref_breaks_149 rfl ?_
          refine J_iload d_Ref_breaks_151 rfl ?_
          have h8 : ¬ x5 = 0 := by
            intro q9
            rw [if_pos q9] at H
            cases H
          rw [if_neg h8] at H
          refine J_irem d_Ref_breaks_153 h8 ?_
          refine J_if_eq (tgt := 162) d_Ref_breaks_154 (by decide) ?_ ?_
          · intro c9
            rw [if_pos c9] at H
            refine J.drop [false, false, false, false, false, false, false] rfl ?_
            exact p_Ref_breaks_L162 hw hG  H
          · intro c9
            rw [if_neg c9] at H
            refine J.drop [false, false, false, false, false, false, false] rfl ?_
            exact p_Ref_breaks_L157 hw hG  H
def f_Ref_breaks_L105 (Γ : gm_T)  (φ : ph_T) (x0 : Int64) (x4 : Int32) (x5 : Int32) : Option (Int32 × ph_T) :=
  if (x5 &&& (x5 - (1 : Int32))) = 0 then
    f_Ref_breaks_L120 Γ  φ x0 x4 x5 (1 : Int32)
  else
    f_Ref_breaks_L120 Γ  φ x0 x4 x5 (0 : Int32)
set_option maxRecDepth 100000 in
set_option maxHeartbeats 4000000 in
theorem p_Ref_breaks_L105 {w : jw_T} (hw : jok w) {Γ : gm_T} {n : Nat} (hG : gd w Γ n)  {x : Bool} {φ : ph_T} {x0 : Int64} {x4 : Int32} {x5 : Int32} {q : Int32 × ph_T} (H : f_Ref_breaks_L105 Γ  φ x0 x4 x5 = some q) : J w M_Ref_breaks 105 [some (.long x0), none, none, none, some (.int x4), some (.int x5), none] [] (pic Γ φ) n x 0 0 (fq Γ n (.inl (some (.int q.1))) q.2) := by
  unfold f_Ref_breaks_L105 at H
  refine J_iload d_Ref_breaks_105 rfl ?_
  refine J_iload d_Ref_breaks_107 rfl ?_
  refine J_iconst (v := 1) d_Ref_breaks_109 (by decide) ?_
  refine J_isub d_Ref_breaks_110 ?_
  refine J_iand d_Ref_breaks_111 ?_
  refine J_if_ne (tgt := 119) d_Ref_breaks_112 (by decide) ?_ ?_
  · intro c14
    rw [if_neg c14] at H
    refine J_iconst (v := 0) d_Ref_breaks_119 (by decide) ?_
    refine J.drop [true, false, false, false, true, true, false] rfl ?_
    exact p_Ref_breaks_L120 hw hG  H
  · intro c14
    rw [if_pos c14] at H
    refine J_iconst (v := 1) d_Ref_breaks_115 (by decide) ?_
    refine J_goto (tgt := 120) d_Ref_breaks_116 (by decide) ?_
    refine J.drop [true, false, false, false, true, true, false] rfl ?_
    exact p_Ref_breaks_L120 hw hG  H
def f_Ref_breaks_L70 (Γ : gm_T)  (φ : ph_T) (x0 : Int64) (x3 : Int32) (x4 : Int32) (x5 : Int32) : Option (Int32 × ph_T) :=
  Option.bind (f_Ref_kindOf Γ φ x0) fun q15 =>
  if q15.1 = (1 : Int32) then
    @ite _ (x3 = 0) _ none (
    @ite _ ((4096 : Int32) = 0) _ none (
    @ite _ ((4096 : Int32) = 0) _ none (
    if ((((x4 - (x4 - x4 / x3 * x3)) + x5) - (1 : Int32)) / (4096 : Int32)) = (x4 / (4096 : Int32)) then
      f_Ref_breaks_L105 Γ  q15.2 x0 x4 x5
    else
      some ((5 : Int32), q15.2)
    )
    )
    )
  else
    f_Ref_breaks_L105 Γ  q15.2 x0 x4 x5
set_option maxRecDepth 100000 in
set_option maxHeartbeats 4000000 in
theorem p_Ref_breaks_L70 {w : jw_T} (hw : jok w) {Γ : gm_T} {n : Nat} (hG : gd w Γ n)  {x : Bool} {φ : ph_T} {x0 : Int64} {x3 : Int32} {x4 : Int32} {x5 : Int32} {q : Int32 × ph_T} (H : f_Ref_breaks_L70 Γ  φ x0 x3 x4 x5 = some q) : J w M_Ref_breaks 70 [some (.long x0), none, none, some (.int x3), some (.int x4), some (.int x5), none] [] (pic Γ φ) n x 0 0 (fq Γ n (.inl (some (.int q.1))) q.2) := by
  unfold f_Ref_breaks_L70 at H
  refine J_lload_n d_Ref_breaks_70 rfl ?_
  obtain ⟨q15, hq15, H⟩ := Option.bind_eq_some_iff.mp H
  refine J_callS (kc := 0) (ks := 0) (kc' := 0) (ks' := 0) (as := [.long x0]) (st := []) (mf_Ref_kindOf hw) (ms_Ref_324 hw) d_Ref_breaks_71 ln_Ref_kindOf (by decide) (by first | exact Nat.le_of_ble_eq_true rfl | (simp only [List.map_cons, List.map_nil, List.sum_cons, List.sum_nil, va_rf_cat]; exact Nat.le_of_ble_eq_true rfl)) rfl (p_Ref_kindOf hw hG hq15) ?_ (fun E h' n' x' e1 => by cases e1.1)
  intro v9 h9 n9 x9 e9
  obtain ⟨e91, e92, e93⟩ := e9
  cases e91
  subst e92
  subst e93
  clear x
  rename Bool => x
  show J _ _ _ _ (_ :: _) _ _ _ _ _ _
  refine J_iconst (v := 1) d_Ref_breaks_74 (by decide) ?_
  refine J_icmp_ne (tgt := 105) d_Ref_breaks_75 (by decide) ?_ ?_
  · intro c20
    rw [if_neg c20] at H
    refine J.drop [true, false, false, false, true, true, false] rfl ?_
    exact p_Ref_breaks_L105 hw hG  H
  · intro c20
    rw [if_pos c20] at H
    refine J_iload d_Ref_breaks_78 rfl ?_
    refine J_iload d_Ref_breaks_80 rfl ?_
    refine J_iload_n d_Ref_breaks_82 rfl ?_
    have h16 : ¬ x3 = 0 := by
      intro q9
      rw [if_pos q9] at H
      cases H
    rw [if_neg h16] at H
    refine J_irem d_Ref_breaks_83 h16 ?_
    refine J_isub d_Ref_breaks_84 ?_
    refine J_iload d_Ref_breaks_85 rfl ?_
    refine J_iadd d_Ref_breaks_87 ?_
    refine J_iconst (v := 1) d_Ref_breaks_88 (by decide) ?_
    refine J_isub d_Ref_breaks_89 ?_
    refine J_sipush (v := 4096) d_Ref_breaks_90 (by decide) ?_
    have h17 : ¬ (4096 : Int32) = 0 := by
      intro q9
      rw [if_pos q9] at H
      cases H
    rw [if_neg h17] at H
    refine J_idiv d_Ref_breaks_93 h17 ?_
    refine J_iload d_Ref_breaks_94 rfl ?_
    refine J_sipush (v := 4096) d_Ref_breaks_96 (by decide) ?_
    have h18 : ¬ (4096 : Int32) = 0 := by
      intro q9
      rw [if_pos q9] at H
      cases H
    rw [if_neg h18] at H
    refine J_idiv d_Ref_breaks_99 h18 ?_
    refine J_icmp_eq (tgt := 105) d_Ref_breaks_100 (by decide) ?_ ?_
    · intro c19
      rw [if_pos c19] at H
      refine J.drop [true, false, false, false, true, true, false] rfl ?_
      exact p_Ref_breaks_L105 hw hG  H
    · intro c19
      rw [if_neg c19] at H
      refine J_iconst (v := 5) d_Ref_breaks_103 (by decide) ?_
      have H := Option.some.inj H
      subst H
      exact J_iret (st := []) d_Ref_breaks_104 rfl rfl ⟨rfl, rfl, rfl⟩
def f_Ref_breaks_L68 (Γ : gm_T)  (φ : ph_T) : Option (Int32 × ph_T) :=
  some ((4 : Int32), φ)
set_option maxRecDepth 100000 in
set_option maxHeartbeats 4000000 in
theorem p_Ref_breaks_L68 {w : jw_T} (hw : jok w) {Γ : gm_T} {n : Nat} (hG : gd w Γ n)  {x : Bool} {φ : ph_T} {q : Int32 × ph_T} (H : f_Ref_breaks_L68 Γ  φ  = some q) : J w M_Ref_breaks 68 [none, none, none, none, none, none, none] [] (pic Γ φ) n x 0 0 (fq Γ n (.inl (some (.int q.1))) q.2) := by
  unfold f_Ref_breaks_L68 at H
  refine J_iconst (v := 4) d_Ref_breaks_68 (by decide) ?_
  have H := Option.some.inj H
  subst H
  exact J_iret (st := []) d_Ref_breaks_69 rfl rfl ⟨rfl, rfl, rfl⟩
def f_Ref_breaks_L61 (Γ : gm_T)  (φ : ph_T) (x0 : Int64) (x3 : Int32) (x4 : Int32) (x5 : Int32) : Option (Int32 × ph_T) :=
  @ite _ (x3 = 0) _ none (
  if (x4 - x4 / x3 * x3) = 0 then
    f_Ref_breaks_L70 Γ  φ x0 x3 x4 x5
  else
    f_Ref_breaks_L68 Γ  φ 
  )
set_option maxRecDepth 100000 in
set_option maxHeartbeats 4000000 in
theorem p_Ref_breaks_L61 {w : jw_T} (hw : jok w) {Γ : gm_T} {n : Nat} (hG : gd w Γ n)  {x : Bool} {φ : ph_T} {x0 : Int64} {x3 : Int32} {x4 : Int32} {x5 : Int32} {q : Int32 × ph_T} (H : f_Ref_breaks_L61 Γ  φ x0 x3 x4 x5 = some q) : J w M_Ref_breaks 61 [some (.long x0), none, none, some (.int x3), some (.int x4), some (.int x5), none] [] (pic Γ φ) n x 0 0 (fq Γ n (.inl (some (.int q.1))) q.2) := by
  unfold f_Ref_breaks_L61 at H
  refine J_iload d_Ref_breaks_61 rfl ?_
  refine J_iload_n d_Ref_breaks_63 rfl ?_
  have h21 : ¬ x3 = 0 := by
    intro q9
    rw [if_pos q9] at H
    cases H
  rw [if_neg h21] at H
  refine J_irem d_Ref_breaks_64 h21 ?_
  refine J_if_eq (tgt := 70) d_Ref_breaks_65 (by decide) ?_ ?_
  · intro c22
    rw [if_pos c22] at H
    refine J.drop [true, false, false, true, true, true, false] rfl ?_
    exact p_Ref_breaks_L70 hw hG  H
  · intro c22
    rw [if_neg c22] at H
    refine J.drop [false, false, false, false, false, false, false] rfl ?_
    exact p_Ref_breaks_L68 hw hG  H
def f_Ref_breaks (Γ : gm_T) (φ : ph_T) (p0 : Int64) : Option (Int32 × ph_T) :=
  Option.bind (f_Ref_lengthOf Γ φ p0) fun q23 =>
  Option.bind (f_Ref_sizeOf Γ q23.2 p0) fun q24 =>
  Option.bind (f_Ref_addressOf Γ q24.2 p0) fun q25 =>
  Option.bind (f_Ref_kindOf Γ q25.2 p0) fun q26 =>
  if q26.1 = (3 : Int32) then
    some ((3 : Int32), q26.2)
  else
    Option.bind (f_Ref_kindOf Γ q26.2 p0) fun q27 =>
    if q27.1 = (2 : Int32) then
      if q23.1 = (2 : Int32) then
        f_Ref_breaks_L61 Γ  q27.2 p0 q24.1 q25.1 (q23.1 * q24.1)
      else
        if q23.1 = (4 : Int32) then
          f_Ref_breaks_L61 Γ  q27.2 p0 q24.1 q25.1 (q23.1 * q24.1)
        else
          if q23.1 = (8 : Int32) then
            f_Ref_breaks_L61 Γ  q27.2 p0 q24.1 q25.1 (q23.1 * q24.1)
          else
            if q23.1 = (16 : Int32) then
              f_Ref_breaks_L61 Γ  q27.2 p0 q24.1 q25.1 (q23.1 * q24.1)
            else
              f_Ref_breaks_L68 Γ  q27.2 
    else
      f_Ref_breaks_L70 Γ  q27.2 p0 q24.1 q25.1 (q23.1 * q24.1)
set_option maxRecDepth 100000 in
set_option maxHeartbeats 4000000 in
theorem p_Ref_breaks {w : jw_T} (hw : jok w) {Γ : gm_T} {n : Nat} (hG : gd w Γ n) {x : Bool} {φ : ph_T} {p0 : Int64} {q : Int32 × ph_T} (H : f_Ref_breaks Γ φ p0 = some q) : jc w M_Ref_breaks [.long p0] (pic Γ φ) n x 0 0 (fq Γ n (.inl (some (.int q.1))) q.2) := by
  refine jc.of (by simp only [jent_r, jent_i, jent_l, jent_a, jent_0]; exact Nat.le_of_ble_eq_true rfl) ?_
  have hls : jents [.long p0] (jm_nL M_Ref_breaks) = [some (.long p0), none, none, none, none, none, none] := by simp only [jents, jent_r, jent_i, jent_l, jent_a, jent_0]; rfl
  rw [hls]
  clear hls
  unfold f_Ref_breaks at H
  refine J_lload_n d_Ref_breaks_0 rfl ?_
  obtain ⟨q23, hq23, H⟩ := Option.bind_eq_some_iff.mp H
  refine J_callS (kc := 0) (ks := 0) (kc' := 0) (ks' := 0) (as := [.long p0]) (st := []) (mf_Ref_lengthOf hw) (ms_Ref_321 hw) d_Ref_breaks_1 ln_Ref_lengthOf (by decide) (by first | exact Nat.le_of_ble_eq_true rfl | (simp only [List.map_cons, List.map_nil, List.sum_cons, List.sum_nil, va_rf_cat]; exact Nat.le_of_ble_eq_true rfl)) rfl (p_Ref_lengthOf hw hG hq23) ?_ (fun E h' n' x' e1 => by cases e1.1)
  intro v9 h9 n9 x9 e9
  obtain ⟨e91, e92, e93⟩ := e9
  cases e91
  subst e92
  subst e93
  clear x
  rename Bool => x
  show J _ _ _ _ (_ :: _) _ _ _ _ _ _
  refine J_istore_n d_Ref_breaks_4 (Nat.le_of_ble_eq_true rfl) ?_
  refine J.ls (ls' := [some (.long p0), none, some (.int q23.1), none, none, none, none]) rfl ?_
  refine J_lload_n d_Ref_breaks_5 rfl ?_
  obtain ⟨q24, hq24, H⟩ := Option.bind_eq_some_iff.mp H
  refine J_callS (kc := 0) (ks := 0) (kc' := 0) (ks' := 0) (as := [.long p0]) (st := []) (mf_Ref_sizeOf hw) (ms_Ref_318 hw) d_Ref_breaks_6 ln_Ref_sizeOf (by decide) (by first | exact Nat.le_of_ble_eq_true rfl | (simp only [List.map_cons, List.map_nil, List.sum_cons, List.sum_nil, va_rf_cat]; exact Nat.le_of_ble_eq_true rfl)) rfl (p_Ref_sizeOf hw hG hq24) ?_ (fun E h' n' x' e1 => by cases e1.1)
  intro v9 h9 n9 x9 e9
  obtain ⟨e91, e92, e93⟩ := e9
  cases e91
  subst e92
  subst e93
  clear x
  rename Bool => x
  show J _ _ _ _ (_ :: _) _ _ _ _ _ _
  refine J_istore_n d_Ref_breaks_9 (Nat.le_of_ble_eq_true rfl) ?_
  refine J.ls (ls' := [some (.long p0), none, some (.int q23.1), some (.int q24.1), none, none, none]) rfl ?_
  refine J_lload_n d_Ref_breaks_10 rfl ?_
  obtain ⟨q25, hq25, H⟩ := Option.bind_eq_some_iff.mp H
  refine J_callS (kc := 0) (ks := 0) (kc' := 0) (ks' := 0) (as := [.long p0]) (st := []) (mf_Ref_addressOf hw) (ms_Ref_314 hw) d_Ref_breaks_11 ln_Ref_addressOf (by decide) (by first | exact Nat.le_of_ble_eq_true rfl | (simp only [List.map_cons, List.map_nil, List.sum_cons, List.sum_nil, va_rf_cat]; exact Nat.le_of_ble_eq_true rfl)) rfl (p_Ref_addressOf hw hG hq25) ?_ (fun E h' n' x' e1 => by cases e1.1)
  intro v9 h9 n9 x9 e9
  obtain ⟨e91, e92, e93⟩ := e9
  cases e91
  subst e92
  subst e93
  clear x
  rename Bool => x
  show J _ _ _ _ (_ :: _) _ _ _ _ _ _
  refine J_istore d_Ref_breaks_14 (Nat.le_of_ble_eq_true rfl) ?_
  refine J.ls (ls' := [some (.long p0), none, some (.int q23.1), some (.int q24.1), some (.int q25.1), none, none]) rfl ?_
  refine J_iload_n d_Ref_breaks_16 rfl ?_
  refine J_iload_n d_Ref_breaks_17 rfl ?_
  refine J_imul d_Ref_breaks_18 ?_
  refine J_istore d_Ref_breaks_19 (Nat.le_of_ble_eq_true rfl) ?_
  refine J.ls (ls' := [some (.long p0), none, some (.int q23.1), some (.int q24.1), some (.int q25.1), some (.int (q23.1 * q24.1)), none]) rfl ?_
  refine J_lload_n d_Ref_breaks_21 rfl ?_
  obtain ⟨q26, hq26, H⟩ := Option.bind_eq_some_iff.mp H
  refine J_callS (kc := 0) (ks := 0) (kc' := 0) (ks' := 0) (as := [.long p0]) (st := []) (mf_Ref_kindOf hw) (ms_Ref_324 hw) d_Ref_breaks_22 ln_Ref_kindOf (by decide) (by first | exact Nat.le_of_ble_eq_true rfl | (simp only [List.map_cons, List.map_nil, List.sum_cons, List.sum_nil, va_rf_cat]; exact Nat.le_of_ble_eq_true rfl)) rfl (p_Ref_kindOf hw hG hq26) ?_ (fun E h' n' x' e1 => by cases e1.1)
  intro v9 h9 n9 x9 e9
  obtain ⟨e91, e92, e93⟩ := e9
  cases e91
  subst e92
  subst e93
  clear x
  rename Bool => x
  show J _ _ _ _ (_ :: _) _ _ _ _ _ _
  refine J_iconst (v := 3) d_Ref_breaks_25 (by decide) ?_
  refine J_icmp_ne (tgt := 31) d_Ref_breaks_26 (by decide) ?_ ?_
  · intro c33
    rw [if_neg c33] at H
    refine J_lload_n d_Ref_breaks_31 rfl ?_
    obtain ⟨q27, hq27, H⟩ := Option.bind_eq_some_iff.mp H
    refine J_callS (kc := 0) (ks := 0) (kc' := 0) (ks' := 0) (as := [.long p0]) (st := []) (mf_Ref_kindOf hw) (ms_Ref_324 hw) d_Ref_breaks_32 ln_Ref_kindOf (by decide) (by first | exact Nat.le_of_ble_eq_true rfl | (simp only [List.map_cons, List.map_nil, List.sum_cons, List.sum_nil, va_rf_cat]; exact Nat.le_of_ble_eq_true rfl)) rfl (p_Ref_kindOf hw hG hq27) ?_ (fun E h' n' x' e1 => by cases e1.1)
    intro v9 h9 n9 x9 e9
    obtain ⟨e91, e92, e93⟩ := e9
    cases e91
    subst e92
    subst e93
    clear x
    rename Bool => x
    show J _ _ _ _ (_ :: _) _ _ _ _ _ _
    refine J_iconst (v := 2) d_Ref_breaks_35 (by decide) ?_
    refine J_icmp_ne (tgt := 70) d_Ref_breaks_36 (by decide) ?_ ?_
    · intro c32
      rw [if_neg c32] at H
      refine J.drop [true, false, false, true, true, true, false] rfl ?_
      exact p_Ref_breaks_L70 hw hG  H
    · intro c32
      rw [if_pos c32] at H
      refine J_iload_n d_Ref_breaks_39 rfl ?_
      refine J_iconst (v := 2) d_Ref_breaks_40 (by decide) ?_
      refine J_icmp_eq (tgt := 61) d_Ref_breaks_41 (by decide) ?_ ?_
      · intro c31
        rw [if_pos c31] at H
        refine J.drop [true, false, false, true, true, true, false] rfl ?_
        exact p_Ref_breaks_L61 hw hG  H
      · intro c31
        rw [if_neg c31] at H
        refine J_iload_n d_Ref_breaks_44 rfl ?_
        refine J_iconst (v := 4) d_Ref_breaks_45 (by decide) ?_
        refine J_icmp_eq (tgt := 61) d_Ref_breaks_46 (by decide) ?_ ?_
        · intro c30
          rw [if_pos c30] at H
          refine J.drop [true, false, false, true, true, true, false] rfl ?_
          exact p_Ref_breaks_L61 hw hG  H
        · intro c30
          rw [if_neg c30] at H
          refine J_iload_n d_Ref_breaks_49 rfl ?_
          refine J_bipush (v := 8) d_Ref_breaks_50 (by decide) ?_
          refine J_icmp_eq (tgt := 61) d_Ref_breaks_52 (by decide) ?_ ?_
          · intro c29
            rw [if_pos c29] at H
            refine J.drop [true, false, false, true, true, true, false] rfl ?_
            exact p_Ref_breaks_L61 hw hG  H
          · intro c29
            rw [if_neg c29] at H
            refine J_iload_n d_Ref_breaks_55 rfl ?_
            refine J_bipush (v := 16) d_Ref_breaks_56 (by decide) ?_
            refine J_icmp_ne (tgt := 68) d_Ref_breaks_58 (by decide) ?_ ?_
            · intro c28
              rw [if_neg c28] at H
              refine J.drop [false, false, false, false, false, false, false] rfl ?_
              exact p_Ref_breaks_L68 hw hG  H
            · intro c28
              rw [if_pos c28] at H
              refine J.drop [true, false, false, true, true, true, false] rfl ?_
              exact p_Ref_breaks_L61 hw hG  H
  · intro c33
    rw [if_pos c33] at H
    refine J_iconst (v := 3) d_Ref_breaks_29 (by decide) ?_
    have H := Option.some.inj H
    subst H
    exact J_iret (st := []) d_Ref_breaks_30 rfl rfl ⟨rfl, rfl, rfl⟩
