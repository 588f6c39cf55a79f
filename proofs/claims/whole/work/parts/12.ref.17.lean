theorem ln_Ref_put : (parseMethodDescriptor y_Ref_put.desc).map (fun q => q.parameters.length) = some 4 := by decide +kernel
def f_Ref_put (Γ : gm_T) (φ : ph_T) (this : Nat) (p0 : Int32) (p1 : Int64) (p2 : Int32) (p3 : Int32) : Option (Unit × ph_T) :=
  @ite _ (Γ this = .inr 12) _ (
  Option.bind (φ.2.2 this 42) fun a2 =>
  Option.bind (gA Γ a2 0) fun N3 =>
  Option.bind (ix p0 N3) fun k4 =>
  Option.bind (φ.2.2 this 39) fun a5 =>
  Option.bind (gA Γ a5 1) fun N6 =>
  Option.bind (ix (((4 : Int32) * p0) + (φ.1 a2 k4)) N6) fun k7 =>
  Option.bind (φ.2.2 this 40) fun a8 =>
  Option.bind (gA Γ a8 0) fun N9 =>
  Option.bind (ix (((4 : Int32) * p0) + (φ.1 a2 k4)) N9) fun k10 =>
  Option.bind (φ.2.2 this 41) fun a11 =>
  Option.bind (gA Γ a11 0) fun N12 =>
  Option.bind (ix (((4 : Int32) * p0) + (φ.1 a2 k4)) N12) fun k13 =>
  Option.bind (gA Γ a2 0) fun N14 =>
  Option.bind (ix p0 N14) fun k15 =>
  Option.bind (gA Γ a2 0) fun N16 =>
  Option.bind (ix p0 N16) fun k17 =>
  some ((), (uI (uI (uI (uL φ a5 k7 p1) a8 k10 p2) a11 k13 p3) a2 k17 (((uI (uI (uL φ a5 k7 p1) a8 k10 p2) a11 k13 p3).1 a2 k15) + (1 : Int32))))
  ) none
set_option maxRecDepth 100000 in
set_option maxHeartbeats 4000000 in
theorem p_Ref_put {w : jw_T} (hw : jok w) {Γ : gm_T} {n : Nat} (hG : gd w Γ n) {x : Bool} {φ : ph_T} {this : Nat} {p0 : Int32} {p1 : Int64} {p2 : Int32} {p3 : Int32} {q : Unit × ph_T} (H : f_Ref_put Γ φ this p0 p1 p2 p3 = some q) : jc w M_Ref_put [.ref this, .int p0, .long p1, .int p2, .int p3] (pic Γ φ) n x 0 0 (fq Γ n (.inl none) q.2) := by
  refine jc.of (by simp only [jent_r, jent_i, jent_l, jent_a, jent_0]; exact Nat.le_of_ble_eq_true rfl) ?_
  have hls : jents [.ref this, .int p0, .long p1, .int p2, .int p3] (jm_nL M_Ref_put) = [some (.ref this), some (.int p0), some (.long p1), none, some (.int p2), some (.int p3), none] := by simp only [jents, jent_r, jent_i, jent_l, jent_a, jent_0]; rfl
  rw [hls]
  clear hls
  unfold f_Ref_put at H
  refine J_iconst (v := 4) d_Ref_put_0 (by decide) ?_
  refine J_iload_n d_Ref_put_1 rfl ?_
  refine J_imul d_Ref_put_2 ?_
  refine J_aload_n d_Ref_put_3 rfl ?_
  have g1 : Γ this = .inr 12 := by
    apply Classical.byContradiction
    intro q9
    rw [if_neg q9] at H
    cases H
  rw [if_pos g1] at H
  refine F_getR (ci := 12) (k := 42) hG (cf_Ref hw) (fl_Ref_115 hw) (by decide) (by decide) rfl d_Ref_put_4 g1 ?_
  refine J_iload_n d_Ref_put_7 rfl ?_
  obtain ⟨a2, ha2, H⟩ := Option.bind_eq_some_iff.mp H
  rw [j_rf ha2]
  obtain ⟨N3, hN3, H⟩ := Option.bind_eq_some_iff.mp H
  obtain ⟨k4, hk4, H⟩ := Option.bind_eq_some_iff.mp H
  refine F_iald k4 hw hG d_Ref_put_8 (gA_some hN3) (ix_some hk4) ?_
  refine J_iadd d_Ref_put_9 ?_
  refine J_istore d_Ref_put_10 (Nat.le_of_ble_eq_true rfl) ?_
  refine J.ls (ls' := [some (.ref this), some (.int p0), some (.long p1), none, some (.int p2), some (.int p3), some (.int (((4 : Int32) * p0) + (φ.1 a2 k4)))]) rfl ?_
  refine J_aload_n d_Ref_put_12 rfl ?_
  refine F_getR (ci := 12) (k := 39) hG (cf_Ref hw) (fl_Ref_106 hw) (by decide) (by decide) rfl d_Ref_put_13 g1 ?_
  refine J_iload d_Ref_put_16 rfl ?_
  refine J_lload_n d_Ref_put_18 rfl ?_
  obtain ⟨a5, ha5, H⟩ := Option.bind_eq_some_iff.mp H
  rw [j_rf ha5]
  obtain ⟨N6, hN6, H⟩ := Option.bind_eq_some_iff.mp H
  obtain ⟨k7, hk7, H⟩ := Option.bind_eq_some_iff.mp H
  refine F_last k7 hw hG d_Ref_put_19 (gA_some hN6) (ix_some hk7) ?_
  refine J_aload_n d_Ref_put_20 rfl ?_
  refine F_getR (ci := 12) (k := 40) hG (cf_Ref hw) (fl_Ref_109 hw) (by decide) (by decide) rfl d_Ref_put_21 g1 ?_
  show J _ _ _ _ (va_rf (φ.2.2 this 40) :: _) _ _ _ _ _ _
  refine J_iload d_Ref_put_24 rfl ?_
  refine J_iload d_Ref_put_26 rfl ?_
  obtain ⟨a8, ha8, H⟩ := Option.bind_eq_some_iff.mp H
  rw [j_rf ha8]
  obtain ⟨N9, hN9, H⟩ := Option.bind_eq_some_iff.mp H
  obtain ⟨k10, hk10, H⟩ := Option.bind_eq_some_iff.mp H
  refine F_iast k10 hw hG d_Ref_put_28 (gA_some hN9) (ix_some hk10) ?_
  refine J_aload_n d_Ref_put_29 rfl ?_
  refine F_getR (ci := 12) (k := 41) hG (cf_Ref hw) (fl_Ref_112 hw) (by decide) (by decide) rfl d_Ref_put_30 g1 ?_
  show J _ _ _ _ (va_rf (φ.2.2 this 41) :: _) _ _ _ _ _ _
  refine J_iload d_Ref_put_33 rfl ?_
  refine J_iload d_Ref_put_35 rfl ?_
  obtain ⟨a11, ha11, H⟩ := Option.bind_eq_some_iff.mp H
  rw [j_rf ha11]
  obtain ⟨N12, hN12, H⟩ := Option.bind_eq_some_iff.mp H
  obtain ⟨k13, hk13, H⟩ := Option.bind_eq_some_iff.mp H
  refine F_iast k13 hw hG d_Ref_put_37 (gA_some hN12) (ix_some hk13) ?_
  refine J_aload_n d_Ref_put_38 rfl ?_
  refine F_getR (ci := 12) (k := 42) hG (cf_Ref hw) (fl_Ref_115 hw) (by decide) (by decide) rfl d_Ref_put_39 g1 ?_
  show J _ _ _ _ (va_rf (φ.2.2 this 42) :: _) _ _ _ _ _ _
  refine J_iload_n d_Ref_put_42 rfl ?_
  refine J_dup2 d_Ref_put_43 rfl (va_rf_cat _) ?_
  try rw [j_rf ha2]
  obtain ⟨N14, hN14, H⟩ := Option.bind_eq_some_iff.mp H
  obtain ⟨k15, hk15, H⟩ := Option.bind_eq_some_iff.mp H
  refine F_iald k15 hw hG d_Ref_put_44 (gA_some hN14) (ix_some hk15) ?_
  refine J_iconst (v := 1) d_Ref_put_45 (by decide) ?_
  refine J_iadd d_Ref_put_46 ?_
  obtain ⟨N16, hN16, H⟩ := Option.bind_eq_some_iff.mp H
  obtain ⟨k17, hk17, H⟩ := Option.bind_eq_some_iff.mp H
  refine F_iast k17 hw hG d_Ref_put_47 (gA_some hN16) (ix_some hk17) ?_
  have H := Option.some.inj H
  subst H
  exact J_vret (st := []) d_Ref_put_48 rfl ⟨rfl, rfl, rfl⟩
theorem ln_Ref_addressSent : (parseMethodDescriptor y_Ref_addressSent.desc).map (fun q => q.parameters.length) = some 2 := by decide +kernel
def f_Ref_addressSent_L43 (Γ : gm_T)  (φ : ph_T) (x0 : Nat) (y0 : Int32) (y1 : Int32) (y2 : Nat) (y3 : Option Nat) : Option (Unit × ph_T) :=
  @ite _ (Γ y2 = .inr 12) _ (
  Option.bind (f_Ref_unsent Γ φ y2 y1 y0) fun q2 =>
  @ite _ (Γ x0 = .inr 12) _ (
  Option.bind y3 fun a4 =>
  Option.bind (gA Γ a4 0) fun N5 =>
  Option.bind (ix q2.1 N5) fun k6 =>
  some ((), (uI q2.2 a4 k6 (q2.2.1 x0 6)))
  ) none
  ) none
set_option maxRecDepth 100000 in
set_option maxHeartbeats 4000000 in
theorem p_Ref_addressSent_L43 {w : jw_T} (hw : jok w) {Γ : gm_T} {n : Nat} (hG : gd w Γ n)  {x : Bool} {φ : ph_T} {x0 : Nat} {y0 : Int32} {y1 : Int32} {y2 : Nat} {y3 : Option Nat} {q : Unit × ph_T} (H : f_Ref_addressSent_L43 Γ  φ x0 y0 y1 y2 y3 = some q) : J w M_Ref_addressSent 43 [some (.ref x0), none, none, none] [.int y0, .int y1, .ref y2, va_rf y3] (pic Γ φ) n x 0 0 (fq Γ n (.inl none) q.2) := by
  unfold f_Ref_addressSent_L43 at H
  have g1 : Γ y2 = .inr 12 := by
    apply Classical.byContradiction
    intro q9
    rw [if_neg q9] at H
    cases H
  rw [if_pos g1] at H
  obtain ⟨q2, hq2, H⟩ := Option.bind_eq_some_iff.mp H
  refine J_callV (kc := 0) (ks := 0) (kc' := 0) (ks' := 0) (a := y2) (ci := 12) (as := [.int y1, .int y0]) (st := [va_rf y3]) (mf_Ref_unsent hw) (mv_Ref_344 hw) d_Ref_addressSent_43 ln_Ref_unsent (by decide) (by first | exact Nat.le_of_ble_eq_true rfl | (simp only [List.map_cons, List.map_nil, List.sum_cons, List.sum_nil, va_rf_cat]; exact Nat.le_of_ble_eq_true rfl)) rfl ((hG _).1 _ g1 (by decide)).1 ((hG _).1 _ g1 (by decide)).2 (by unfold pic; rw [g1]; rfl) (jcl_at hw rfl) rfl (p_Ref_unsent hw hG hq2) ?_ (fun E h' n' x' e1 => by cases e1.1)
  intro v9 h9 n9 x9 e9
  obtain ⟨e91, e92, e93⟩ := e9
  cases e91
  subst e92
  subst e93
  clear x
  rename Bool => x
  show J _ _ _ _ (_ :: _) _ _ _ _ _ _
  refine J_aload_n d_Ref_addressSent_46 rfl ?_
  have g3 : Γ x0 = .inr 12 := by
    apply Classical.byContradiction
    intro q9
    rw [if_neg q9] at H
    cases H
  rw [if_pos g3] at H
  refine F_getI (ci := 12) (k := 6) hG (cf_Ref hw) (fl_Ref_348 hw) (by decide) (by decide) rfl d_Ref_addressSent_47 g3 ?_
  obtain ⟨a4, ha4, H⟩ := Option.bind_eq_some_iff.mp H
  rw [j_rf ha4]
  obtain ⟨N5, hN5, H⟩ := Option.bind_eq_some_iff.mp H
  obtain ⟨k6, hk6, H⟩ := Option.bind_eq_some_iff.mp H
  refine F_iast k6 hw hG d_Ref_addressSent_50 (gA_some hN5) (ix_some hk6) ?_
  have H := Option.some.inj H
  subst H
  exact J_vret (st := []) d_Ref_addressSent_51 rfl ⟨rfl, rfl, rfl⟩
def f_Ref_addressSent (Γ : gm_T) (φ : ph_T) (this : Nat) (p0 : Int32) (p1 : Int32) : Option (Unit × ph_T) :=
  @ite _ (Γ this = .inr 12) _ (
  Option.bind (f_Ref_rowOf Γ φ this (0 : Int32) p0 p1) fun q8 =>
  Option.bind (q8.2.2.2 this 35) fun a9 =>
  Option.bind (gA Γ a9 1) fun N10 =>
  Option.bind (ix (((5 : Int32) * p0) + p1) N10) fun k11 =>
  Option.bind (f_Ref_put Γ q8.2 this q8.1 (q8.2.2.1 a9 k11) (0 : Int32) (q8.2.1 this 6)) fun q12 =>
  if p1 = 0 then
    f_Ref_addressSent_L43 Γ  q12.2 this (1 : Int32) p0 this (q12.2.2.2 this 28)
  else
    f_Ref_addressSent_L43 Γ  q12.2 this (0 : Int32) p0 this (q12.2.2.2 this 28)
  ) none
set_option maxRecDepth 100000 in
set_option maxHeartbeats 4000000 in
theorem p_Ref_addressSent {w : jw_T} (hw : jok w) {Γ : gm_T} {n : Nat} (hG : gd w Γ n) {x : Bool} {φ : ph_T} {this : Nat} {p0 : Int32} {p1 : Int32} {q : Unit × ph_T} (H : f_Ref_addressSent Γ φ this p0 p1 = some q) : jc w M_Ref_addressSent [.ref this, .int p0, .int p1] (pic Γ φ) n x 0 0 (fq Γ n (.inl none) q.2) := by
  refine jc.of (by simp only [jent_r, jent_i, jent_l, jent_a, jent_0]; exact Nat.le_of_ble_eq_true rfl) ?_
  have hls : jents [.ref this, .int p0, .int p1] (jm_nL M_Ref_addressSent) = [some (.ref this), some (.int p0), some (.int p1), none] := by simp only [jents, jent_r, jent_i, jent_l, jent_a, jent_0]; rfl
  rw [hls]
  clear hls
  unfold f_Ref_addressSent at H
  refine J_iconst (v := 5) d_Ref_addressSent_0 (by decide) ?_
  refine J_iload_n d_Ref_addressSent_1 rfl ?_
  refine J_imul d_Ref_addressSent_2 ?_
  refine J_iload_n d_Ref_addressSent_3 rfl ?_
  refine J_iadd d_Ref_addressSent_4 ?_
  refine J_istore_n d_Ref_addressSent_5 (Nat.le_of_ble_eq_true rfl) ?_
  refine J.ls (ls' := [some (.ref this), some (.int p0), some (.int p1), some (.int (((5 : Int32) * p0) + p1))]) rfl ?_
  refine J_aload_n d_Ref_addressSent_6 rfl ?_
  refine J_aload_n d_Ref_addressSent_7 rfl ?_
  refine J_iconst (v := 0) d_Ref_addressSent_8 (by decide) ?_
  refine J_iload_n d_Ref_addressSent_9 rfl ?_
  refine J_iload_n d_Ref_addressSent_10 rfl ?_
  have g7 : Γ this = .inr 12 := by
    apply Classical.byContradiction
    intro q9
    rw [if_neg q9] at H
    cases H
  rw [if_pos g7] at H
  obtain ⟨q8, hq8, H⟩ := Option.bind_eq_some_iff.mp H
  refine J_callV (kc := 0) (ks := 0) (kc' := 0) (ks' := 0) (a := this) (ci := 12) (as := [.int (0 : Int32), .int p0, .int p1]) (st := [.ref this]) (mf_Ref_rowOf hw) (mv_Ref_388 hw) d_Ref_addressSent_11 ln_Ref_rowOf (by decide) (by first | exact Nat.le_of_ble_eq_true rfl | (simp only [List.map_cons, List.map_nil, List.sum_cons, List.sum_nil, va_rf_cat]; exact Nat.le_of_ble_eq_true rfl)) rfl ((hG _).1 _ g7 (by decide)).1 ((hG _).1 _ g7 (by decide)).2 (by unfold pic; rw [g7]; rfl) (jcl_at hw rfl) rfl (p_Ref_rowOf hw hG hq8) ?_ (fun E h' n' x' e1 => by cases e1.1)
  intro v9 h9 n9 x9 e9
  obtain ⟨e91, e92, e93⟩ := e9
  cases e91
  subst e92
  subst e93
  clear x
  rename Bool => x
  show J _ _ _ _ (_ :: _) _ _ _ _ _ _
  refine J_aload_n d_Ref_addressSent_14 rfl ?_
  refine F_getR (ci := 12) (k := 35) hG (cf_Ref hw) (fl_Ref_94 hw) (by decide) (by decide) rfl d_Ref_addressSent_15 g7 ?_
  refine J_iload_n d_Ref_addressSent_18 rfl ?_
  obtain ⟨a9, ha9, H⟩ := Option.bind_eq_some_iff.mp H
  rw [j_rf ha9]
  obtain ⟨N10, hN10, H⟩ := Option.bind_eq_some_iff.mp H
  obtain ⟨k11, hk11, H⟩ := Option.bind_eq_some_iff.mp H
  refine F_lald k11 hw hG d_Ref_addressSent_19 (gA_some hN10) (ix_some hk11) ?_
  refine J_iconst (v := 0) d_Ref_addressSent_20 (by decide) ?_
  refine J_aload_n d_Ref_addressSent_21 rfl ?_
  refine F_getI (ci := 12) (k := 6) hG (cf_Ref hw) (fl_Ref_348 hw) (by decide) (by decide) rfl d_Ref_addressSent_22 g7 ?_
  obtain ⟨q12, hq12, H⟩ := Option.bind_eq_some_iff.mp H
  refine J_callV (kc := 0) (ks := 0) (kc' := 0) (ks' := 0) (a := this) (ci := 12) (as := [.int q8.1, .long (q8.2.2.1 a9 k11), .int (0 : Int32), .int (q8.2.1 this 6)]) (st := []) (mf_Ref_put hw) (mv_Ref_469 hw) d_Ref_addressSent_25 ln_Ref_put (by decide) (by first | exact Nat.le_of_ble_eq_true rfl | (simp only [List.map_cons, List.map_nil, List.sum_cons, List.sum_nil, va_rf_cat]; exact Nat.le_of_ble_eq_true rfl)) rfl ((hG _).1 _ g7 (by decide)).1 ((hG _).1 _ g7 (by decide)).2 (by unfold pic; rw [g7]; rfl) (jcl_at hw rfl) rfl (p_Ref_put hw hG hq12) ?_ (fun E h' n' x' e1 => by cases e1.1)
  intro v9 h9 n9 x9 e9
  obtain ⟨e91, e92, e93⟩ := e9
  cases e91
  subst e92
  subst e93
  clear x
  rename Bool => x
  show J _ _ _ _ [] _ _ _ _ _ _
  refine J_aload_n d_Ref_addressSent_28 rfl ?_
  refine F_getR (ci := 12) (k := 28) hG (cf_Ref hw) (fl_Ref_73 hw) (by decide) (by decide) rfl d_Ref_addressSent_29 g7 ?_
  refine J_aload_n d_Ref_addressSent_32 rfl ?_
  refine J_iload_n d_Ref_addressSent_33 rfl ?_
  refine J_iload_n d_Ref_addressSent_34 rfl ?_
  refine J_if_ne (tgt := 42) d_Ref_addressSent_35 (by decide) ?_ ?_
  · intro c13
    rw [if_neg c13] at H
    refine J_iconst (v := 0) d_Ref_addressSent_42 (by decide) ?_
    refine J.drop [true, false, false, false] rfl ?_
    exact p_Ref_addressSent_L43 hw hG  H
  · intro c13
    rw [if_pos c13] at H
    refine J_iconst (v := 1) d_Ref_addressSent_38 (by decide) ?_
    refine J_goto (tgt := 43) d_Ref_addressSent_39 (by decide) ?_
    refine J.drop [true, false, false, false] rfl ?_
    exact p_Ref_addressSent_L43 hw hG  H
theorem ln_Ref_dataSent : (parseMethodDescriptor y_Ref_dataSent.desc).map (fun q => q.parameters.length) = some 1 := by decide +kernel
def f_Ref_dataSent (Γ : gm_T) (φ : ph_T) (this : Nat) (p0 : Int32) : Option (Unit × ph_T) :=
  @ite _ (Γ this = .inr 12) _ (
  Option.bind (f_Ref_rowOf Γ φ this (0 : Int32) p0 (1 : Int32)) fun q2 =>
  Option.bind (q2.2.2.2 this 35) fun a3 =>
  Option.bind (gA Γ a3 1) fun N4 =>
  Option.bind (ix (((5 : Int32) * p0) + (1 : Int32)) N4) fun k5 =>
  Option.bind (q2.2.2.2 this 36) fun a6 =>
  Option.bind (gA Γ a6 0) fun N7 =>
  Option.bind (ix (((5 : Int32) * p0) + (1 : Int32)) N7) fun k8 =>
  Option.bind (f_Ref_put Γ q2.2 this q2.1 (q2.2.2.1 a3 k5) (q2.2.1 a6 k8) (q2.2.1 this 6)) fun q9 =>
  Option.bind (f_Ref_unfinished Γ q9.2 this p0) fun q10 =>
  Option.bind (q10.2.2.2 this 30) fun a11 =>
  Option.bind (gA Γ a11 0) fun N12 =>
  Option.bind (ix q10.1 N12) fun k13 =>
  Option.bind (q10.2.2.2 this 35) fun a14 =>
  Option.bind (gA Γ a14 1) fun N15 =>
  Option.bind (ix (((5 : Int32) * p0) + (1 : Int32)) N15) fun k16 =>
  Option.bind (q10.2.2.2 this 32) fun a17 =>
  Option.bind (gA Γ a17 1) fun N18 =>
  Option.bind (ix (((16 : Int32) * q10.1) + (q10.2.1 a11 k13)) N18) fun k19 =>
  Option.bind (q10.2.2.2 this 26) fun a20 =>
  Option.bind (gA Γ a20 1) fun N21 =>
  Option.bind (ix q10.1 N21) fun k22 =>
  Option.bind (gA Γ a20 1) fun N23 =>
  Option.bind (ix q10.1 N23) fun k24 =>
  Option.bind (gA Γ a11 0) fun N25 =>
  Option.bind (ix q10.1 N25) fun k26 =>
  Option.bind (gA Γ a11 0) fun N27 =>
  Option.bind (ix q10.1 N27) fun k28 =>
  some ((), (uI (uL (uL q10.2 a17 k19 (q10.2.2.1 a14 k16)) a20 k24 ((((uL q10.2 a17 k19 (q10.2.2.1 a14 k16)).2.1 a20 k22) * (6364136223846793005 : Int64)) + (1442695040888963407 : Int64))) a11 k28 ((q10.2.1 a11 k26) + (1 : Int32))))
  ) none
set_option maxRecDepth 100000 in
set_option maxHeartbeats 4000000 in
theorem p_Ref_dataSent {w : jw_T} (hw : jok w) {Γ : gm_T} {n : Nat} (hG : gd w Γ n) {x : Bool} {φ : ph_T} {this : Nat} {p0 : Int32} {q : Unit × ph_T} (H : f_Ref_dataSent Γ φ this p0 = some q) : jc w M_Ref_dataSent [.ref this, .int p0] (pic Γ φ) n x 0 0 (fq Γ n (.inl none) q.2) := by
  refine jc.of (by simp only [jent_r, jent_i, jent_l, jent_a, jent_0]; exact Nat.le_of_ble_eq_true rfl) ?_
  have hls : jents [.ref this, .int p0] (jm_nL M_Ref_dataSent) = [some (.ref this), some (.int p0), none, none] := by simp only [jents, jent_r, jent_i, jent_l, jent_a, jent_0]; rfl
  rw [hls]
  clear hls
  unfold f_Ref_dataSent at H
  refine J_iconst (v := 5) d_Ref_dataSent_0 (by decide) ?_
  refine J_iload_n d_Ref_dataSent_1 rfl ?_
  refine J_imul d_Ref_dataSent_2 ?_
  refine J_iconst (v := 1) d_Ref_dataSent_3 (by decide) ?_
  refine J_iadd d_Ref_dataSent_4 ?_
  refine J_istore_n d_Ref_dataSent_5 (Nat.le_of_ble_eq_true rfl) ?_
  refine J.ls (ls' := [some (.ref this), some (.int p0), some (.int (((5 : Int32) * p0) + (1 : Int32))), none]) rfl ?_
  refine J_aload_n d_Ref_dataSent_6 rfl ?_
  refine J_aload_n d_Ref_dataSent_7 rfl ?_
  refine J_iconst (v := 0) d_Ref_dataSent_8 (by decide) ?_
  refine J_iload_n d_Ref_dataSent_9 rfl ?_
  refine J_iconst (v := 1) d_Ref_dataSent_10 (by decide) ?_
  have g1 : Γ this = .inr 12 := by
    apply Classical.byContradiction
    intro q9
    rw [if_neg q9] at H
    cases H
  rw [if_pos g1] at H
  obtain ⟨q2, hq2, H⟩ := Option.bind_eq_some_iff.mp H
  refine J_callV (kc := 0) (ks := 0) (kc' := 0) (ks' := 0) (a := this) (ci := 12) (as := [.int (0 : Int32), .int p0, .int (1 : Int32)]) (st := [.ref this]) (mf_Ref_rowOf hw) (mv_Ref_388 hw) d_Ref_dataSent_11 ln_Ref_rowOf (by decide) (by first | exact Nat.le_of_ble_eq_true rfl | (simp only [List.map_cons, List.map_nil, List.sum_cons, List.sum_nil, va_rf_cat]; exact Nat.le_of_ble_eq_true rfl)) rfl ((hG _).1 _ g1 (by decide)).1 ((hG _).1 _ g1 (by decide)).2 (by unfold pic; rw [g1]; rfl) (jcl_at hw rfl) rfl (p_Ref_rowOf hw hG hq2) ?_ (fun E h' n' x' e1 => by cases e1.1)
  intro v9 h9 n9 x9 e9
  obtain ⟨e91, e92, e93⟩ := e9
  cases e91
  subst e92
  subst e93
  clear x
  rename Bool => x
  show J _ _ _ _ (_ :: _) _ _ _ _ _ _
  refine J_aload_n d_Ref_dataSent_14 rfl ?_
  refine F_getR (ci := 12) (k := 35) hG (cf_Ref hw) (fl_Ref_94 hw) (by decide) (by decide) rfl d_Ref_dataSent_15 g1 ?_
  refine J_iload_n d_Ref_dataSent_18 rfl ?_
  obtain ⟨a3, ha3, H⟩ := Option.bind_eq_some_iff.mp H
  rw [j_rf ha3]
  obtain ⟨N4, hN4, H⟩ := Option.bind_eq_some_iff.mp H
  obtain ⟨k5, hk5, H⟩ := Option.bind_eq_some_iff.mp H
  refine F_lald k5 hw hG d_Ref_dataSent_19 (gA_some hN4) (ix_some hk5) ?_
  refine J_aload_n d_Ref_dataSent_20 rfl ?_
  refine F_getR (ci := 12) (k := 36) hG (cf_Ref hw) (fl_Ref_97 hw) (by decide) (by decide) rfl d_Ref_dataSent_21 g1 ?_
  refine J_iload_n d_Ref_dataSent_24 rfl ?_
  obtain ⟨a6, ha6, H⟩ := Option.bind_eq_some_iff.mp H
  rw [j_rf ha6]
  obtain ⟨N7, hN7, H⟩ := Option.bind_eq_some_iff.mp H
  obtain ⟨k8, hk8, H⟩ := Option.bind_eq_some_iff.mp H
  refine F_iald k8 hw hG d_Ref_dataSent_25 (gA_some hN7) (ix_some hk8) ?_
  refine J_aload_n d_Ref_dataSent_26 rfl ?_
  refine F_getI (ci := 12) (k := 6) hG (cf_Ref hw) (fl_Ref_348 hw) (by decide) (by decide) rfl d_Ref_dataSent_27 g1 ?_
  obtain ⟨q9, hq9, H⟩ := Option.bind_eq_some_iff.mp H
  refine J_callV (kc := 0) (ks := 0) (kc' := 0) (ks' := 0) (a := this) (ci := 12) (as := [.int q2.1, .long (q2.2.2.1 a3 k5), .int (q2.2.1 a6 k8), .int (q2.2.1 this 6)]) (st := []) (mf_Ref_put hw) (mv_Ref_469 hw) d_Ref_dataSent_30 ln_Ref_put (by decide) (by first | exact Nat.le_of_ble_eq_true rfl | (simp only [List.map_cons, List.map_nil, List.sum_cons, List.sum_nil, va_rf_cat]; exact Nat.le_of_ble_eq_true rfl)) rfl ((hG _).1 _ g1 (by decide)).1 ((hG _).1 _ g1 (by decide)).2 (by unfold pic; rw [g1]; rfl) (jcl_at hw rfl) rfl (p_Ref_put hw hG hq9) ?_ (fun E h' n' x' e1 => by cases e1.1)
  intro v9 h9 n9 x9 e9
  obtain ⟨e91, e92, e93⟩ := e9
  cases e91
  subst e92
  subst e93
  clear x
  rename Bool => x
  show J _ _ _ _ [] _ _ _ _ _ _
  refine J_aload_n d_Ref_dataSent_33 rfl ?_
  refine J_iload_n d_Ref_dataSent_34 rfl ?_
  obtain ⟨q10, hq10, H⟩ := Option.bind_eq_some_iff.mp H
  refine J_callV (kc := 0) (ks := 0) (kc' := 0) (ks' := 0) (a := this) (ci := 12) (as := [.int p0]) (st := []) (mf_Ref_unfinished hw) (mv_Ref_363 hw) d_Ref_dataSent_35 ln_Ref_unfinished (by decide) (by first | exact Nat.le_of_ble_eq_true rfl | (simp only [List.map_cons, List.map_nil, List.sum_cons, List.sum_nil, va_rf_cat]; exact Nat.le_of_ble_eq_true rfl)) rfl ((hG _).1 _ g1 (by decide)).1 ((hG _).1 _ g1 (by decide)).2 (by unfold pic; rw [g1]; rfl) (jcl_at hw rfl) rfl (p_Ref_unfinished hw hG hq10) ?_ (fun E h' n' x' e1 => by cases e1.1)
  intro v9 h9 n9 x9 e9
  obtain ⟨e91, e92, e93⟩ := e9
  cases e91
  subst e92
  subst e93
  clear x
  rename Bool => x
  show J _ _ _ _ (_ :: _) _ _ _ _ _ _
  refine J_istore_n d_Ref_dataSent_38 (Nat.le_of_ble_eq_true rfl) ?_
  refine J.ls (ls' := [some (.ref this), some (.int p0), some (.int (((5 : Int32) * p0) + (1 : Int32))), some (.int q10.1)]) rfl ?_
  refine J_aload_n d_Ref_dataSent_39 rfl ?_
  refine F_getR (ci := 12) (k := 32) hG (cf_Ref hw) (fl_Ref_85 hw) (by decide) (by decide) rfl d_Ref_dataSent_40 g1 ?_
  refine J_bipush (v := 16) d_Ref_dataSent_43 (by decide) ?_
  refine J_iload_n d_Ref_dataSent_45 rfl ?_
  refine J_imul d_Ref_dataSent_46 ?_
  refine J_aload_n d_Ref_dataSent_47 rfl ?_
  refine F_getR (ci := 12) (k := 30) hG (cf_Ref hw) (fl_Ref_79 hw) (by decide) (by decide) rfl d_Ref_dataSent_48 g1 ?_
  refine J_iload_n d_Ref_dataSent_51 rfl ?_
  obtain ⟨a11, ha11, H⟩ := Option.bind_eq_some_iff.mp H
  rw [j_rf ha11]
  obtain ⟨N12, hN12, H⟩ := Option.bind_eq_some_iff.mp H
  obtain ⟨k13, hk13, H⟩ := Option.bind_eq_some_iff.mp H
  refine F_iald k13 hw hG d_Ref_dataSent_52 (gA_some hN12) (ix_some hk13) ?_
  refine J_iadd d_Ref_dataSent_53 ?_
  refine J_aload_n d_Ref_dataSent_54 rfl ?_
  refine F_getR (ci := 12) (k := 35) hG (cf_Ref hw) (fl_Ref_94 hw) (by decide) (by decide) rfl d_Ref_dataSent_55 g1 ?_
  refine J_iload_n d_Ref_dataSent_58 rfl ?_
  obtain ⟨a14, ha14, H⟩ := Option.bind_eq_some_iff.mp H
  rw [j_rf ha14]
  obtain ⟨N15, hN15, H⟩ := Option.bind_eq_some_iff.mp H
  obtain ⟨k16, hk16, H⟩ := Option.bind_eq_some_iff.mp H
  refine F_lald k16 hw hG d_Ref_dataSent_59 (gA_some hN15) (ix_some hk16) ?_
  obtain ⟨a17, ha17, H⟩ := Option.bind_eq_some_iff.mp H
  rw [j_rf ha17]
  obtain ⟨N18, hN18, H⟩ := Option.bind_eq_some_iff.mp H
  obtain ⟨k19, hk19, H⟩ := Option.bind_eq_some_iff.mp H
  refine F_last k19 hw hG d_Ref_dataSent_60 (gA_some hN18) (ix_some hk19) ?_
  refine J_aload_n d_Ref_dataSent_61 rfl ?_
  refine F_getR (ci := 12) (k := 26) hG (cf_Ref hw) (fl_Ref_66 hw) (by decide) (by decide) rfl d_Ref_dataSent_62 g1 ?_
  show J _ _ _ _ (va_rf (q10.2.2.2 this 26) :: _) _ _ _ _ _ _
  refine J_iload_n d_Ref_dataSent_65 rfl ?_
  refine J_aload_n d_Ref_dataSent_66 rfl ?_
  refine F_getR (ci := 12) (k := 26) hG (cf_Ref hw) (fl_Ref_66 hw) (by decide) (by decide) rfl d_Ref_dataSent_67 g1 ?_
  show J _ _ _ _ (va_rf (q10.2.2.2 this 26) :: _) _ _ _ _ _ _
  refine J_iload_n d_Ref_dataSent_70 rfl ?_
  obtain ⟨a20, ha20, H⟩ := Option.bind_eq_some_iff.mp H
  rw [j_rf ha20]
  obtain ⟨N21, hN21, H⟩ := Option.bind_eq_some_iff.mp H
  obtain ⟨k22, hk22, H⟩ := Option.bind_eq_some_iff.mp H
  refine F_lald k22 hw hG d_Ref_dataSent_71 (gA_some hN21) (ix_some hk22) ?_
  refine J_ldc2 (v := 6364136223846793005) d_Ref_dataSent_72 (kn_Ref_373 hw) ?_
  refine J_lmul d_Ref_dataSent_75 ?_
  refine J_ldc2 (v := 1442695040888963407) d_Ref_dataSent_76 (kn_Ref_375 hw) ?_
  refine J_ladd d_Ref_dataSent_79 ?_
  obtain ⟨N23, hN23, H⟩ := Option.bind_eq_some_iff.mp H
  obtain ⟨k24, hk24, H⟩ := Option.bind_eq_some_iff.mp H
  refine F_last k24 hw hG d_Ref_dataSent_80 (gA_some hN23) (ix_some hk24) ?_
  refine J_aload_n d_Ref_dataSent_81 rfl ?_
  refine F_getR (ci := 12) (k := 30) hG (cf_Ref hw) (fl_Ref_79 hw) (by decide) (by decide) rfl d_Ref_dataSent_82 g1 ?_
  show J _ _ _ _ (va_rf (q10.2.2.2 this 30) :: _) _ _ _ _ _ _
  refine J_iload_n d_Ref_dataSent_85 rfl ?_
  refine J_dup2 d_Ref_dataSent_86 rfl (va_rf_cat _) ?_
  try rw [j_rf ha11]
  obtain ⟨N25, hN25, H⟩ := Option.bind_eq_some_iff.mp H
  obtain ⟨k26, hk26, H⟩ := Option.bind_eq_some_iff.mp H
  refine F_iald k26 hw hG d_Ref_dataSent_87 (gA_some hN25) (ix_some hk26) ?_
  show J _ _ _ _ (.int (q10.2.1 a11 k26) :: _) _ _ _ _ _ _
  refine J_iconst (v := 1) d_Ref_dataSent_88 (by decide) ?_
  refine J_iadd d_Ref_dataSent_89 ?_
  obtain ⟨N27, hN27, H⟩ := Option.bind_eq_some_iff.mp H
  obtain ⟨k28, hk28, H⟩ := Option.bind_eq_some_iff.mp H
  refine F_iast k28 hw hG d_Ref_dataSent_90 (gA_some hN27) (ix_some hk28) ?_
  have H := Option.some.inj H
  subst H
  exact J_vret (st := []) d_Ref_dataSent_91 rfl ⟨rfl, rfl, rfl⟩
theorem ln_Ref_take : (parseMethodDescriptor y_Ref_take.desc).map (fun q => q.parameters.length) = some 1 := by decide +kernel
def f_Ref_take_L14 (Γ : gm_T)  : Nat → ph_T → Nat → Int32 → Int32 → Option (Unit × ph_T)
  | 0, _, _, _, _ => none
  | fu + 1, φ, x0, x1, x2 =>
    @ite _ (Γ x0 = .inr 12) _ (
    Option.bind (φ.2.2 x0 42) fun a2 =>
    Option.bind (gA Γ a2 0) fun N3 =>
    Option.bind (ix x1 N3) fun k4 =>
    if (((4 : Int32) * x1) + (φ.1 a2 k4)) ≤ x2 then
      some ((), φ)
    else
      Option.bind (φ.2.2 x0 39) fun a5 =>
      Option.bind (gA Γ a5 1) fun N6 =>
      Option.bind (ix (x2 + (1 : Int32)) N6) fun k7 =>
      Option.bind (gA Γ a5 1) fun N8 =>
      Option.bind (ix x2 N8) fun k9 =>
      Option.bind (φ.2.2 x0 40) fun a10 =>
      Option.bind (gA Γ a10 0) fun N11 =>
      Option.bind (ix (x2 + (1 : Int32)) N11) fun k12 =>
      Option.bind (gA Γ a10 0) fun N13 =>
      Option.bind (ix x2 N13) fun k14 =>
      Option.bind (φ.2.2 x0 41) fun a15 =>
      Option.bind (gA Γ a15 0) fun N16 =>
      Option.bind (ix (x2 + (1 : Int32)) N16) fun k17 =>
      Option.bind (gA Γ a15 0) fun N18 =>
      Option.bind (ix x2 N18) fun k19 =>
      (f_Ref_take_L14 Γ  fu) (uI (uI (uL φ a5 k9 (φ.2.1 a5 k7)) a10 k14 (φ.1 a10 k12)) a15 k19 ((uI (uL φ a5 k9 (φ.2.1 a5 k7)) a10 k14 (φ.1 a10 k12)).1 a15 k17)) x0 x1 (x2 + (1 : Int32))
    ) none
set_option maxRecDepth 100000 in
set_option maxHeartbeats 4000000 in
theorem p_Ref_take_L14 {w : jw_T} (hw : jok w) {Γ : gm_T} {n : Nat} (hG : gd w Γ n)  : ∀ (fu : Nat) {x : Bool} {φ : ph_T} {x0 : Nat} {x1 : Int32} {x2 : Int32} {q : Unit × ph_T}, f_Ref_take_L14 Γ  fu φ x0 x1 x2 = some q → J w M_Ref_take 14 [some (.ref x0), some (.int x1), some (.int x2)] [] (pic Γ φ) n x 0 0 (fq Γ n (.inl none) q.2) := by
  intro fu
  induction fu with
  | zero =>
    intro x φ x0 x1 x2 q H
    cases H
  | succ fu ih =>
    intro x φ x0 x1 x2 q H
    unfold f_Ref_take_L14 at H
    refine J_iload_n d_Ref_take_14 rfl ?_
    refine J_iconst (v := 4) d_Ref_take_15 (by decide) ?_
    refine J_iload_n d_Ref_take_16 rfl ?_
    refine J_imul d_Ref_take_17 ?_
    refine J_aload_n d_Ref_take_18 rfl ?_
    have g1 : Γ x0 = .inr 12 := by
      apply Classical.byContradiction
      intro q9
      rw [if_neg q9] at H
      cases H
    rw [if_pos g1] at H
    refine F_getR (ci := 12) (k := 42) hG (cf_Ref hw) (fl_Ref_115 hw) (by decide) (by decide) rfl d_Ref_take_19 g1 ?_
    refine J_iload_n d_Ref_take_22 rfl ?_
    obtain ⟨a2, ha2, H⟩ := Option.bind_eq_some_iff.mp H
    rw [j_rf ha2]
    obtain ⟨N3, hN3, H⟩ := Option.bind_eq_some_iff.mp H
    obtain ⟨k4, hk4, H⟩ := Option.bind_eq_some_iff.mp H
    refine F_iald k4 hw hG d_Ref_take_23 (gA_some hN3) (ix_some hk4) ?_
    refine J_iadd d_Ref_take_24 ?_
    refine J_icmp_ge (tgt := 76) d_Ref_take_25 (by decide) ?_ ?_
    · intro c20
      rw [if_pos c20] at H
      have H := Option.some.inj H
      subst H
      exact J_vret (st := []) d_Ref_take_76 rfl ⟨rfl, rfl, rfl⟩
    · intro c20
      rw [if_neg c20] at H
      refine J_aload_n d_Ref_take_28 rfl ?_
      refine F_getR (ci := 12) (k := 39) hG (cf_Ref hw) (fl_Ref_106 hw) (by decide) (by decide) rfl d_Ref_take_29 g1 ?_
      refine J_iload_n d_Ref_take_32 rfl ?_
      refine J_aload_n d_Ref_take_33 rfl ?_
      refine F_getR (ci := 12) (k := 39) hG (cf_Ref hw) (fl_Ref_106 hw) (by decide) (by decide) rfl d_Ref_take_34 g1 ?_
      refine J_iload_n d_Ref_take_37 rfl ?_
      refine J_iconst (v := 1) d_Ref_take_38 (by decide) ?_
      refine J_iadd d_Ref_take_39 ?_
      obtain ⟨a5, ha5, H⟩ := Option.bind_eq_some_iff.mp H
      rw [j_rf ha5]
      obtain ⟨N6, hN6, H⟩ := Option.bind_eq_some_iff.mp H
      obtain ⟨k7, hk7, H⟩ := Option.bind_eq_some_iff.mp H
      refine F_lald k7 hw hG d_Ref_take_40 (gA_some hN6) (ix_some hk7) ?_
      obtain ⟨N8, hN8, H⟩ := Option.bind_eq_some_iff.mp H
      obtain ⟨k9, hk9, H⟩ := Option.bind_eq_some_iff.mp H
      refine F_last k9 hw hG d_Ref_take_41 (gA_some hN8) (ix_some hk9) ?_
      refine J_aload_n d_Ref_take_42 rfl ?_
      refine F_getR (ci := 12) (k := 40) hG (cf_Ref hw) (fl_Ref_109 hw) (by decide) (by decide) rfl d_Ref_take_43 g1 ?_
      show J _ _ _ _ (va_rf (φ.2.2 x0 40) :: _) _ _ _ _ _ _
      refine J_iload_n d_Ref_take_46 rfl ?_
      refine J_aload_n d_Ref_take_47 rfl ?_
      refine F_getR (ci := 12) (k := 40) hG (cf_Ref hw) (fl_Ref_109 hw) (by decide) (by decide) rfl d_Ref_take_48 g1 ?_
      show J _ _ _ _ (va_rf (φ.2.2 x0 40) :: _) _ _ _ _ _ _
      refine J_iload_n d_Ref_take_51 rfl ?_
      refine J_iconst (v := 1) d_Ref_take_52 (by decide) ?_
      refine J_iadd d_Ref_take_53 ?_
      obtain ⟨a10, ha10, H⟩ := Option.bind_eq_some_iff.mp H
      rw [j_rf ha10]
      obtain ⟨N11, hN11, H⟩ := Option.bind_eq_some_iff.mp H
      obtain ⟨k12, hk12, H⟩ := Option.bind_eq_some_iff.mp H
      refine F_iald k12 hw hG d_Ref_take_54 (gA_some hN11) (ix_some hk12) ?_
      show J _ _ _ _ (.int (φ.1 a10 k12) :: _) _ _ _ _ _ _
      obtain ⟨N13, hN13, H⟩ := Option.bind_eq_some_iff.mp H
      obtain ⟨k14, hk14, H⟩ := Option.bind_eq_some_iff.mp H
      refine F_iast k14 hw hG d_Ref_take_55 (gA_some hN13) (ix_some hk14) ?_
      refine J_aload_n d_Ref_take_56 rfl ?_
      refine F_getR (ci := 12) (k := 41) hG (cf_Ref hw) (fl_Ref_112 hw) (by decide) (by decide) rfl d_Ref_take_57 g1 ?_
      show J _ _ _ _ (va_rf (φ.2.2 x0 41) :: _) _ _ _ _ _ _
      refine J_iload_n d_Ref_take_60 rfl ?_
      refine J_aload_n d_Ref_take_61 rfl ?_
      refine F_getR (ci := 12) (k := 41) hG (cf_Ref hw) (fl_Ref_112 hw) (by decide) (by decide) rfl d_Ref_take_62 g1 ?_
      show J _ _ _ _ (va_rf (φ.2.2 x0 41) :: _) _ _ _ _ _ _
      refine J_iload_n d_Ref_take_65 rfl ?_
      refine J_iconst (v := 1) d_Ref_take_66 (by decide) ?_
      refine J_iadd d_Ref_take_67 ?_
      obtain ⟨a15, ha15, H⟩ := Option.bind_eq_some_iff.mp H
      rw [j_rf ha15]
      obtain ⟨N16, hN16, H⟩ := Option.bind_eq_some_iff.mp H
      obtain ⟨k17, hk17, H⟩ := Option.bind_eq_some_iff.mp H
      refine F_iald k17 hw hG d_Ref_take_68 (gA_some hN16) (ix_some hk17) ?_
      obtain ⟨N18, hN18, H⟩ := Option.bind_eq_some_iff.mp H
      obtain ⟨k19, hk19, H⟩ := Option.bind_eq_some_iff.mp H
      refine F_iast k19 hw hG d_Ref_take_69 (gA_some hN18) (ix_some hk19) ?_
      refine J_iinc (v := x2 + 1) d_Ref_take_70 rfl (by rw [show Int32.ofInt 1 = (1 : Int32) from by decide]) ?_
      refine J.ls (ls' := [some (.ref x0), some (.int x1), some (.int (x2 + (1 : Int32)))]) rfl ?_
      refine J_goto (tgt := 14) d_Ref_take_73 (by decide) ?_
      refine J.drop [true, true, true] rfl ?_
      exact ih H
def f_Ref_take (Γ : gm_T) (φ : ph_T) (this : Nat) (p0 : Int32) : Option (Unit × ph_T) :=
  @ite _ (Γ this = .inr 12) _ (
  Option.bind (φ.2.2 this 42) fun a22 =>
  Option.bind (gA Γ a22 0) fun N23 =>
  Option.bind (ix p0 N23) fun k24 =>
  Option.bind (gA Γ a22 0) fun N25 =>
  Option.bind (ix p0 N25) fun k26 =>
  f_Ref_take_L14 Γ  jF (uI φ a22 k26 ((φ.1 a22 k24) - (1 : Int32))) this p0 ((4 : Int32) * p0)
  ) none
set_option maxRecDepth 100000 in
set_option maxHeartbeats 4000000 in
theorem p_Ref_take {w : jw_T} (hw : jok w) {Γ : gm_T} {n : Nat} (hG : gd w Γ n) {x : Bool} {φ : ph_T} {this : Nat} {p0 : Int32} {q : Unit × ph_T} (H : f_Ref_take Γ φ this p0 = some q) : jc w M_Ref_take [.ref this, .int p0] (pic Γ φ) n x 0 0 (fq Γ n (.inl none) q.2) := by
  refine jc.of (by simp only [jent_r, jent_i, jent_l, jent_a, jent_0]; exact Nat.le_of_ble_eq_true rfl) ?_
  have hls : jents [.ref this, .int p0] (jm_nL M_Ref_take) = [some (.ref this), some (.int p0), none] := by simp only [jents, jent_r, jent_i, jent_l, jent_a, jent_0]; rfl
  rw [hls]
  clear hls
  unfold f_Ref_take at H
  refine J_aload_n d_Ref_take_0 rfl ?_
  have g21 : Γ this = .inr 12 := by
    apply Classical.byContradiction
    intro q9
    rw [if_neg q9] at H
    cases H
  rw [if_pos g21] at H
  refine F_getR (ci := 12) (k := 42) hG (cf_Ref hw) (fl_Ref_115 hw) (by decide) (by decide) rfl d_Ref_take_1 g21 ?_
  refine J_iload_n d_Ref_take_4 rfl ?_
  refine J_dup2 d_Ref_take_5 rfl (va_rf_cat _) ?_
  obtain ⟨a22, ha22, H⟩ := Option.bind_eq_some_iff.mp H
  rw [j_rf ha22]
  obtain ⟨N23, hN23, H⟩ := Option.bind_eq_some_iff.mp H
  obtain ⟨k24, hk24, H⟩ := Option.bind_eq_some_iff.mp H
  refine F_iald k24 hw hG d_Ref_take_6 (gA_some hN23) (ix_some hk24) ?_
  refine J_iconst (v := 1) d_Ref_take_7 (by decide) ?_
  refine J_isub d_Ref_take_8 ?_
  obtain ⟨N25, hN25, H⟩ := Option.bind_eq_some_iff.mp H
  obtain ⟨k26, hk26, H⟩ := Option.bind_eq_some_iff.mp H
  refine F_iast k26 hw hG d_Ref_take_9 (gA_some hN25) (ix_some hk26) ?_
  refine J_iconst (v := 4) d_Ref_take_10 (by decide) ?_
  refine J_iload_n d_Ref_take_11 rfl ?_
  refine J_imul d_Ref_take_12 ?_
  refine J_istore_n d_Ref_take_13 (Nat.le_of_ble_eq_true rfl) ?_
  refine J.ls (ls' := [some (.ref this), some (.int p0), some (.int ((4 : Int32) * p0))]) rfl ?_
  refine J.drop [true, true, true] rfl ?_
  exact p_Ref_take_L14 hw hG  _ H
