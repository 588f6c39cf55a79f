theorem ln_Ref_showSlave : (parseMethodDescriptor y_Ref_showSlave.desc).map (fun q => q.parameters.length) = some 1 := by decide +kernel
def f_Ref_showSlave_L577 (Γ : gm_T)  (φ : ph_T) (y0 : Int32) (y1 : Int32) (y2 : Int64) (y3 : Int32) (y4 : Int32) (y5 : Nat) : Option (Unit × ph_T) :=
  @ite _ (Γ y5 = .inr 12) _ (
  Option.bind (f_Ref_show Γ φ y5 y4 y3 y2 (y1 + y0)) fun q2 =>
  some ((), q2.2)
  ) none
set_option maxRecDepth 100000 in
set_option maxHeartbeats 4000000 in
theorem p_Ref_showSlave_L577 {w : jw_T} (hw : jok w) {Γ : gm_T} {n : Nat} (hG : gd w Γ n)  {x : Bool} {φ : ph_T} {y0 : Int32} {y1 : Int32} {y2 : Int64} {y3 : Int32} {y4 : Int32} {y5 : Nat} {q : Unit × ph_T} (H : f_Ref_showSlave_L577 Γ  φ y0 y1 y2 y3 y4 y5 = some q) : J w M_Ref_showSlave 577 [none, none, none, none, none, none, none, none] [.int y0, .int y1, .long y2, .int y3, .int y4, .ref y5] (pic Γ φ) n x 0 0 (fq Γ n (.inl none) q.2) := by
  unfold f_Ref_showSlave_L577 at H
  refine J_iadd d_Ref_showSlave_577 ?_
  have g1 : Γ y5 = .inr 12 := by
    apply Classical.byContradiction
    intro q9
    rw [if_neg q9] at H
    cases H
  rw [if_pos g1] at H
  obtain ⟨q2, hq2, H⟩ := Option.bind_eq_some_iff.mp H
  refine J_callV (kc := 0) (ks := 0) (kc' := 0) (ks' := 0) (a := y5) (ci := 12) (as := [.int y4, .int y3, .long y2, .int (y1 + y0)]) (st := []) (mf_Ref_show hw) (mv_Ref_359 hw) d_Ref_showSlave_578 ln_Ref_show (by decide) (by first | exact Nat.le_of_ble_eq_true rfl | (simp only [List.map_cons, List.map_nil, List.sum_cons, List.sum_nil, va_rf_cat]; exact Nat.le_of_ble_eq_true rfl)) rfl ((hG _).1 _ g1 (by decide)).1 ((hG _).1 _ g1 (by decide)).2 (by unfold pic; rw [g1]; rfl) (jcl_at hw rfl) rfl (p_Ref_show hw hG hq2) ?_ (fun E h' n' x' e1 => by cases e1.1)
  intro v9 h9 n9 x9 e9
  obtain ⟨e91, e92, e93⟩ := e9
  cases e91
  subst e92
  subst e93
  clear x
  rename Bool => x
  show J _ _ _ _ [] _ _ _ _ _ _
  have H := Option.some.inj H
  subst H
  exact J_vret (st := []) d_Ref_showSlave_581 rfl ⟨rfl, rfl, rfl⟩
def f_Ref_showSlave_L518 (Γ : gm_T)  (φ : ph_T) (x0 : Nat) (x2 : Int32) (x5 : Int32) (x6 : Int32) (y0 : Int32) : Option (Unit × ph_T) :=
  @ite _ (Γ x0 = .inr 12) _ (
  Option.bind (φ.2.2 x0 74) fun a4 =>
  Option.bind (gA Γ a4 1) fun N5 =>
  Option.bind (ix (((16 : Int32) * x5) + x6) N5) fun k6 =>
  Option.bind (φ.2.2 x0 70) fun a7 =>
  Option.bind (gA Γ a7 1) fun N8 =>
  Option.bind (ix x5 N8) fun k9 =>
  Option.bind (f_Ref_idOf Γ φ (φ.2.1 a7 k9)) fun q10 =>
  Option.bind (q10.2.2.2 x0 75) fun a11 =>
  Option.bind (gA Γ a11 0) fun N12 =>
  Option.bind (ix (((16 : Int32) * x5) + x6) N12) fun k13 =>
  if y0 = 0 then
    f_Ref_showSlave_L577 Γ  q10.2 (0 : Int32) (q10.1 + ((64 : Int32) * (q10.2.1 a11 k13))) (φ.2.1 a4 k6) (1 : Int32) (x2 + (4 : Int32)) x0
  else
    f_Ref_showSlave_L577 Γ  q10.2 (256 : Int32) (q10.1 + ((64 : Int32) * (q10.2.1 a11 k13))) (φ.2.1 a4 k6) (1 : Int32) (x2 + (4 : Int32)) x0
  ) none
set_option maxRecDepth 100000 in
set_option maxHeartbeats 4000000 in
theorem p_Ref_showSlave_L518 {w : jw_T} (hw : jok w) {Γ : gm_T} {n : Nat} (hG : gd w Γ n)  {x : Bool} {φ : ph_T} {x0 : Nat} {x2 : Int32} {x5 : Int32} {x6 : Int32} {y0 : Int32} {q : Unit × ph_T} (H : f_Ref_showSlave_L518 Γ  φ x0 x2 x5 x6 y0 = some q) : J w M_Ref_showSlave 518 [some (.ref x0), none, some (.int x2), none, none, some (.int x5), some (.int x6), none] [.int y0] (pic Γ φ) n x 0 0 (fq Γ n (.inl none) q.2) := by
  unfold f_Ref_showSlave_L518 at H
  refine J_istore d_Ref_showSlave_518 (Nat.le_of_ble_eq_true rfl) ?_
  refine J.ls (ls' := [some (.ref x0), none, some (.int x2), none, none, some (.int x5), some (.int x6), some (.int y0)]) rfl ?_
  refine J_aload_n d_Ref_showSlave_520 rfl ?_
  refine J_iload_n d_Ref_showSlave_521 rfl ?_
  refine J_iconst (v := 4) d_Ref_showSlave_522 (by decide) ?_
  refine J_iadd d_Ref_showSlave_523 ?_
  refine J_iconst (v := 1) d_Ref_showSlave_524 (by decide) ?_
  refine J_aload_n d_Ref_showSlave_525 rfl ?_
  have g3 : Γ x0 = .inr 12 := by
    apply Classical.byContradiction
    intro q9
    rw [if_neg q9] at H
    cases H
  rw [if_pos g3] at H
  refine F_getR (ci := 12) (k := 74) hG (cf_Ref hw) (fl_Ref_202 hw) (by decide) (by decide) rfl d_Ref_showSlave_526 g3 ?_
  refine J_bipush (v := 16) d_Ref_showSlave_529 (by decide) ?_
  refine J_iload d_Ref_showSlave_531 rfl ?_
  refine J_imul d_Ref_showSlave_533 ?_
  refine J_iload d_Ref_showSlave_534 rfl ?_
  refine J_iadd d_Ref_showSlave_536 ?_
  obtain ⟨a4, ha4, H⟩ := Option.bind_eq_some_iff.mp H
  rw [j_rf ha4]
  obtain ⟨N5, hN5, H⟩ := Option.bind_eq_some_iff.mp H
  obtain ⟨k6, hk6, H⟩ := Option.bind_eq_some_iff.mp H
  refine F_lald k6 hw hG d_Ref_showSlave_537 (gA_some hN5) (ix_some hk6) ?_
  refine J_aload_n d_Ref_showSlave_538 rfl ?_
  refine F_getR (ci := 12) (k := 70) hG (cf_Ref hw) (fl_Ref_190 hw) (by decide) (by decide) rfl d_Ref_showSlave_539 g3 ?_
  refine J_iload d_Ref_showSlave_542 rfl ?_
  obtain ⟨a7, ha7, H⟩ := Option.bind_eq_some_iff.mp H
  rw [j_rf ha7]
  obtain ⟨N8, hN8, H⟩ := Option.bind_eq_some_iff.mp H
  obtain ⟨k9, hk9, H⟩ := Option.bind_eq_some_iff.mp H
  refine F_lald k9 hw hG d_Ref_showSlave_544 (gA_some hN8) (ix_some hk9) ?_
  obtain ⟨q10, hq10, H⟩ := Option.bind_eq_some_iff.mp H
  refine J_callS (kc := 0) (ks := 0) (kc' := 0) (ks' := 0) (as := [.long (φ.2.1 a7 k9)]) (st := [.long (φ.2.1 a4 k6), .int (1 : Int32), .int (x2 + (4 : Int32)), .ref x0]) (mf_Ref_idOf hw) (ms_Ref_396 hw) d_Ref_showSlave_545 ln_Ref_idOf (by decide) (by first | exact Nat.le_of_ble_eq_true rfl | (simp only [List.map_cons, List.map_nil, List.sum_cons, List.sum_nil, va_rf_cat]; exact Nat.le_of_ble_eq_true rfl)) rfl (p_Ref_idOf hw hG hq10) ?_ (fun E h' n' x' e1 => by cases e1.1)
  intro v9 h9 n9 x9 e9
  obtain ⟨e91, e92, e93⟩ := e9
  cases e91
  subst e92
  subst e93
  clear x
  rename Bool => x
  show J _ _ _ _ (_ :: _) _ _ _ _ _ _
  refine J_bipush (v := 64) d_Ref_showSlave_548 (by decide) ?_
  refine J_aload_n d_Ref_showSlave_550 rfl ?_
  refine F_getR (ci := 12) (k := 75) hG (cf_Ref hw) (fl_Ref_205 hw) (by decide) (by decide) rfl d_Ref_showSlave_551 g3 ?_
  refine J_bipush (v := 16) d_Ref_showSlave_554 (by decide) ?_
  refine J_iload d_Ref_showSlave_556 rfl ?_
  refine J_imul d_Ref_showSlave_558 ?_
  refine J_iload d_Ref_showSlave_559 rfl ?_
  refine J_iadd d_Ref_showSlave_561 ?_
  obtain ⟨a11, ha11, H⟩ := Option.bind_eq_some_iff.mp H
  rw [j_rf ha11]
  obtain ⟨N12, hN12, H⟩ := Option.bind_eq_some_iff.mp H
  obtain ⟨k13, hk13, H⟩ := Option.bind_eq_some_iff.mp H
  refine F_iald k13 hw hG d_Ref_showSlave_562 (gA_some hN12) (ix_some hk13) ?_
  refine J_imul d_Ref_showSlave_563 ?_
  refine J_iadd d_Ref_showSlave_564 ?_
  refine J_iload d_Ref_showSlave_565 rfl ?_
  refine J_if_eq (tgt := 576) d_Ref_showSlave_567 (by decide) ?_ ?_
  · intro c14
    rw [if_pos c14] at H
    refine J_iconst (v := 0) d_Ref_showSlave_576 (by decide) ?_
    refine J.drop [false, false, false, false, false, false, false, false] rfl ?_
    exact p_Ref_showSlave_L577 hw hG  H
  · intro c14
    rw [if_neg c14] at H
    refine J_sipush (v := 256) d_Ref_showSlave_570 (by decide) ?_
    refine J_goto (tgt := 577) d_Ref_showSlave_573 (by decide) ?_
    refine J.drop [false, false, false, false, false, false, false, false] rfl ?_
    exact p_Ref_showSlave_L577 hw hG  H
def f_Ref_showSlave_L462 (Γ : gm_T)  (φ : ph_T) (x0 : Nat) (x1 : Int32) (x2 : Int32) : Option (Unit × ph_T) :=
  @ite _ (Γ x0 = .inr 12) _ (
  Option.bind (φ.2.2 x0 79) fun a16 =>
  Option.bind (gA Γ a16 0) fun N17 =>
  Option.bind (ix x1 N17) fun k18 =>
  if (φ.1 a16 k18) = (-1 : Int32) then
    Option.bind (f_Ref_show Γ φ x0 (x2 + (4 : Int32)) (0 : Int32) (0 : Int64) (0 : Int32)) fun q27 =>
    some ((), q27.2)
  else
    Option.bind (φ.2.2 x0 71) fun a19 =>
    Option.bind (gA Γ a19 0) fun N20 =>
    Option.bind (ix (φ.1 a16 k18) N20) fun k21 =>
    Option.bind (φ.2.2 x0 70) fun a22 =>
    Option.bind (gA Γ a22 1) fun N23 =>
    Option.bind (ix (φ.1 a16 k18) N23) fun k24 =>
    Option.bind (f_Ref_lengthOf Γ φ (φ.2.1 a22 k24)) fun q25 =>
    if (φ.1 a19 k21) = (q25.1 - (1 : Int32)) then
      f_Ref_showSlave_L518 Γ  q25.2 x0 x2 (φ.1 a16 k18) (φ.1 a19 k21) (1 : Int32)
    else
      f_Ref_showSlave_L518 Γ  q25.2 x0 x2 (φ.1 a16 k18) (φ.1 a19 k21) (0 : Int32)
  ) none
set_option maxRecDepth 100000 in
set_option maxHeartbeats 4000000 in
theorem p_Ref_showSlave_L462 {w : jw_T} (hw : jok w) {Γ : gm_T} {n : Nat} (hG : gd w Γ n)  {x : Bool} {φ : ph_T} {x0 : Nat} {x1 : Int32} {x2 : Int32} {q : Unit × ph_T} (H : f_Ref_showSlave_L462 Γ  φ x0 x1 x2 = some q) : J w M_Ref_showSlave 462 [some (.ref x0), some (.int x1), some (.int x2), none, none, none, none, none] [] (pic Γ φ) n x 0 0 (fq Γ n (.inl none) q.2) := by
  unfold f_Ref_showSlave_L462 at H
  refine J_aload_n d_Ref_showSlave_462 rfl ?_
  have g15 : Γ x0 = .inr 12 := by
    apply Classical.byContradiction
    intro q9
    rw [if_neg q9] at H
    cases H
  rw [if_pos g15] at H
  refine F_getR (ci := 12) (k := 79) hG (cf_Ref hw) (fl_Ref_217 hw) (by decide) (by decide) rfl d_Ref_showSlave_463 g15 ?_
  refine J_iload_n d_Ref_showSlave_466 rfl ?_
  obtain ⟨a16, ha16, H⟩ := Option.bind_eq_some_iff.mp H
  rw [j_rf ha16]
  obtain ⟨N17, hN17, H⟩ := Option.bind_eq_some_iff.mp H
  obtain ⟨k18, hk18, H⟩ := Option.bind_eq_some_iff.mp H
  refine F_iald k18 hw hG d_Ref_showSlave_467 (gA_some hN17) (ix_some hk18) ?_
  refine J_istore d_Ref_showSlave_468 (Nat.le_of_ble_eq_true rfl) ?_
  refine J.ls (ls' := [some (.ref x0), some (.int x1), some (.int x2), none, none, some (.int (φ.1 a16 k18)), none, none]) rfl ?_
  refine J_iload d_Ref_showSlave_470 rfl ?_
  refine J_iconst (v := -1) d_Ref_showSlave_472 (by decide) ?_
  refine J_icmp_ne (tgt := 487) d_Ref_showSlave_473 (by decide) ?_ ?_
  · intro c28
    rw [if_neg c28] at H
    refine J_aload_n d_Ref_showSlave_487 rfl ?_
    refine F_getR (ci := 12) (k := 71) hG (cf_Ref hw) (fl_Ref_193 hw) (by decide) (by decide) rfl d_Ref_showSlave_488 g15 ?_
    refine J_iload d_Ref_showSlave_491 rfl ?_
    obtain ⟨a19, ha19, H⟩ := Option.bind_eq_some_iff.mp H
    rw [j_rf ha19]
    obtain ⟨N20, hN20, H⟩ := Option.bind_eq_some_iff.mp H
    obtain ⟨k21, hk21, H⟩ := Option.bind_eq_some_iff.mp H
    refine F_iald k21 hw hG d_Ref_showSlave_493 (gA_some hN20) (ix_some hk21) ?_
    refine J_istore d_Ref_showSlave_494 (Nat.le_of_ble_eq_true rfl) ?_
    refine J.ls (ls' := [some (.ref x0), some (.int x1), some (.int x2), none, none, some (.int (φ.1 a16 k18)), some (.int (φ.1 a19 k21)), none]) rfl ?_
    refine J_iload d_Ref_showSlave_496 rfl ?_
    refine J_aload_n d_Ref_showSlave_498 rfl ?_
    refine F_getR (ci := 12) (k := 70) hG (cf_Ref hw) (fl_Ref_190 hw) (by decide) (by decide) rfl d_Ref_showSlave_499 g15 ?_
    refine J_iload d_Ref_showSlave_502 rfl ?_
    obtain ⟨a22, ha22, H⟩ := Option.bind_eq_some_iff.mp H
    rw [j_rf ha22]
    obtain ⟨N23, hN23, H⟩ := Option.bind_eq_some_iff.mp H
    obtain ⟨k24, hk24, H⟩ := Option.bind_eq_some_iff.mp H
    refine F_lald k24 hw hG d_Ref_showSlave_504 (gA_some hN23) (ix_some hk24) ?_
    obtain ⟨q25, hq25, H⟩ := Option.bind_eq_some_iff.mp H
    refine J_callS (kc := 0) (ks := 0) (kc' := 0) (ks' := 0) (as := [.long (φ.2.1 a22 k24)]) (st := [.int (φ.1 a19 k21)]) (mf_Ref_lengthOf hw) (ms_Ref_321 hw) d_Ref_showSlave_505 ln_Ref_lengthOf (by decide) (by first | exact Nat.le_of_ble_eq_true rfl | (simp only [List.map_cons, List.map_nil, List.sum_cons, List.sum_nil, va_rf_cat]; exact Nat.le_of_ble_eq_true rfl)) rfl (p_Ref_lengthOf hw hG hq25) ?_ (fun E h' n' x' e1 => by cases e1.1)
    intro v9 h9 n9 x9 e9
    obtain ⟨e91, e92, e93⟩ := e9
    cases e91
    subst e92
    subst e93
    clear x
    rename Bool => x
    show J _ _ _ _ (_ :: _) _ _ _ _ _ _
    refine J_iconst (v := 1) d_Ref_showSlave_508 (by decide) ?_
    refine J_isub d_Ref_showSlave_509 ?_
    refine J_icmp_ne (tgt := 517) d_Ref_showSlave_510 (by decide) ?_ ?_
    · intro c26
      rw [if_neg c26] at H
      refine J_iconst (v := 0) d_Ref_showSlave_517 (by decide) ?_
      refine J.drop [true, false, true, false, false, true, true, false] rfl ?_
      exact p_Ref_showSlave_L518 hw hG  H
    · intro c26
      rw [if_pos c26] at H
      refine J_iconst (v := 1) d_Ref_showSlave_513 (by decide) ?_
      refine J_goto (tgt := 518) d_Ref_showSlave_514 (by decide) ?_
      refine J.drop [true, false, true, false, false, true, true, false] rfl ?_
      exact p_Ref_showSlave_L518 hw hG  H
  · intro c28
    rw [if_pos c28] at H
    refine J_aload_n d_Ref_showSlave_476 rfl ?_
    refine J_iload_n d_Ref_showSlave_477 rfl ?_
    refine J_iconst (v := 4) d_Ref_showSlave_478 (by decide) ?_
    refine J_iadd d_Ref_showSlave_479 ?_
    refine J_iconst (v := 0) d_Ref_showSlave_480 (by decide) ?_
    refine J_lconst (v := 0) d_Ref_showSlave_481 (by decide) ?_
    refine J_iconst (v := 0) d_Ref_showSlave_482 (by decide) ?_
    obtain ⟨q27, hq27, H⟩ := Option.bind_eq_some_iff.mp H
    refine J_callV (kc := 0) (ks := 0) (kc' := 0) (ks' := 0) (a := x0) (ci := 12) (as := [.int (x2 + (4 : Int32)), .int (0 : Int32), .long (0 : Int64), .int (0 : Int32)]) (st := []) (mf_Ref_show hw) (mv_Ref_359 hw) d_Ref_showSlave_483 ln_Ref_show (by decide) (by first | exact Nat.le_of_ble_eq_true rfl | (simp only [List.map_cons, List.map_nil, List.sum_cons, List.sum_nil, va_rf_cat]; exact Nat.le_of_ble_eq_true rfl)) rfl ((hG _).1 _ g15 (by decide)).1 ((hG _).1 _ g15 (by decide)).2 (by unfold pic; rw [g15]; rfl) (jcl_at hw rfl) rfl (p_Ref_show hw hG hq27) ?_ (fun E h' n' x' e1 => by cases e1.1)
    intro v9 h9 n9 x9 e9
    obtain ⟨e91, e92, e93⟩ := e9
    cases e91
    subst e92
    subst e93
    clear x
    rename Bool => x
    show J _ _ _ _ [] _ _ _ _ _ _
    have H := Option.some.inj H
    subst H
    exact J_vret (st := []) d_Ref_showSlave_486 rfl ⟨rfl, rfl, rfl⟩
def f_Ref_showSlave_L461 (Γ : gm_T)  (φ : ph_T) (x0 : Nat) (x1 : Int32) (x2 : Int32) (y0 : Int32) (y1 : Int32) (y2 : Option Nat) : Option (Unit × ph_T) :=
  Option.bind y2 fun a29 =>
  Option.bind (gA Γ a29 0) fun N30 =>
  Option.bind (ix y1 N30) fun k31 =>
  f_Ref_showSlave_L462 Γ  (uI φ a29 k31 y0) x0 x1 x2
set_option maxRecDepth 100000 in
set_option maxHeartbeats 4000000 in
theorem p_Ref_showSlave_L461 {w : jw_T} (hw : jok w) {Γ : gm_T} {n : Nat} (hG : gd w Γ n)  {x : Bool} {φ : ph_T} {x0 : Nat} {x1 : Int32} {x2 : Int32} {y0 : Int32} {y1 : Int32} {y2 : Option Nat} {q : Unit × ph_T} (H : f_Ref_showSlave_L461 Γ  φ x0 x1 x2 y0 y1 y2 = some q) : J w M_Ref_showSlave 461 [some (.ref x0), some (.int x1), some (.int x2), none, none, none, none, none] [.int y0, .int y1, va_rf y2] (pic Γ φ) n x 0 0 (fq Γ n (.inl none) q.2) := by
  unfold f_Ref_showSlave_L461 at H
  obtain ⟨a29, ha29, H⟩ := Option.bind_eq_some_iff.mp H
  rw [j_rf ha29]
  obtain ⟨N30, hN30, H⟩ := Option.bind_eq_some_iff.mp H
  obtain ⟨k31, hk31, H⟩ := Option.bind_eq_some_iff.mp H
  refine F_iast k31 hw hG d_Ref_showSlave_461 (gA_some hN30) (ix_some hk31) ?_
  refine J.drop [true, true, true, false, false, false, false, false] rfl ?_
  exact p_Ref_showSlave_L462 hw hG  H
def f_Ref_showSlave_L401 (Γ : gm_T)  (φ : ph_T) (x0 : Nat) (x1 : Int32) (x2 : Int32) (y0 : Int32) (y1 : Int64) (y2 : Int32) (y3 : Int32) (y4 : Nat) : Option (Unit × ph_T) :=
  @ite _ (Γ y4 = .inr 12) _ (
  Option.bind (f_Ref_show Γ φ y4 y3 y2 y1 y0) fun q33 =>
  @ite _ (Γ x0 = .inr 12) _ (
  Option.bind (q33.2.2.2 x0 37) fun a35 =>
  Option.bind (gA Γ a35 2) fun N36 =>
  Option.bind (ix (x2 + (4 : Int32)) N36) fun k37 =>
  if (q33.2.1 a35 k37) = 0 then
    Option.bind (f_Ref_chooseRead Γ q33.2 x0 x1) fun q38 =>
    Option.bind (q33.2.2.2 x0 79) fun a39 =>
    Option.bind (gA Γ a39 0) fun N40 =>
    Option.bind (ix x1 N40) fun k41 =>
    Option.bind (q38.2.2.2 x0 9) fun a42 =>
    Option.bind (gA Γ a42 0) fun N43 =>
    Option.bind (ix (((5 : Int32) * x1) + (4 : Int32)) N43) fun k44 =>
    Option.bind (f_Ref_tells Γ (uI q38.2 a39 k41 q38.1) ((uI q38.2 a39 k41 q38.1).1 a42 k44) ((uI q38.2 a39 k41 q38.1).1 x0 6)) fun q45 =>
    if q45.1 = 0 then
      f_Ref_showSlave_L461 Γ  q45.2 x0 x1 x2 (-1 : Int32) x1 (q38.2.2.2 x0 79)
    else
      Option.bind (q45.2.2.2 x0 79) fun a46 =>
      Option.bind (gA Γ a46 0) fun N47 =>
      Option.bind (ix x1 N47) fun k48 =>
      f_Ref_showSlave_L461 Γ  q45.2 x0 x1 x2 (q45.2.1 a46 k48) x1 (q38.2.2.2 x0 79)
  else
    f_Ref_showSlave_L462 Γ  q33.2 x0 x1 x2
  ) none
  ) none
set_option maxRecDepth 100000 in
set_option maxHeartbeats 4000000 in
theorem p_Ref_showSlave_L401 {w : jw_T} (hw : jok w) {Γ : gm_T} {n : Nat} (hG : gd w Γ n)  {x : Bool} {φ : ph_T} {x0 : Nat} {x1 : Int32} {x2 : Int32} {y0 : Int32} {y1 : Int64} {y2 : Int32} {y3 : Int32} {y4 : Nat} {q : Unit × ph_T} (H : f_Ref_showSlave_L401 Γ  φ x0 x1 x2 y0 y1 y2 y3 y4 = some q) : J w M_Ref_showSlave 401 [some (.ref x0), some (.int x1), some (.int x2), none, none, none, none, none] [.int y0, .long y1, .int y2, .int y3, .ref y4] (pic Γ φ) n x 0 0 (fq Γ n (.inl none) q.2) := by
  unfold f_Ref_showSlave_L401 at H
  have g32 : Γ y4 = .inr 12 := by
    apply Classical.byContradiction
    intro q9
    rw [if_neg q9] at H
    cases H
  rw [if_pos g32] at H
  obtain ⟨q33, hq33, H⟩ := Option.bind_eq_some_iff.mp H
  refine J_callV (kc := 0) (ks := 0) (kc' := 0) (ks' := 0) (a := y4) (ci := 12) (as := [.int y3, .int y2, .long y1, .int y0]) (st := []) (mf_Ref_show hw) (mv_Ref_359 hw) d_Ref_showSlave_401 ln_Ref_show (by decide) (by first | exact Nat.le_of_ble_eq_true rfl | (simp only [List.map_cons, List.map_nil, List.sum_cons, List.sum_nil, va_rf_cat]; exact Nat.le_of_ble_eq_true rfl)) rfl ((hG _).1 _ g32 (by decide)).1 ((hG _).1 _ g32 (by decide)).2 (by unfold pic; rw [g32]; rfl) (jcl_at hw rfl) rfl (p_Ref_show hw hG hq33) ?_ (fun E h' n' x' e1 => by cases e1.1)
  intro v9 h9 n9 x9 e9
  obtain ⟨e91, e92, e93⟩ := e9
  cases e91
  subst e92
  subst e93
  clear x
  rename Bool => x
  show J _ _ _ _ [] _ _ _ _ _ _
  refine J_aload_n d_Ref_showSlave_404 rfl ?_
  have g34 : Γ x0 = .inr 12 := by
    apply Classical.byContradiction
    intro q9
    rw [if_neg q9] at H
    cases H
  rw [if_pos g34] at H
  refine F_getR (ci := 12) (k := 37) hG (cf_Ref hw) (fl_Ref_100 hw) (by decide) (by decide) rfl d_Ref_showSlave_405 g34 ?_
  refine J_iload_n d_Ref_showSlave_408 rfl ?_
  refine J_iconst (v := 4) d_Ref_showSlave_409 (by decide) ?_
  refine J_iadd d_Ref_showSlave_410 ?_
  obtain ⟨a35, ha35, H⟩ := Option.bind_eq_some_iff.mp H
  rw [j_rf ha35]
  obtain ⟨N36, hN36, H⟩ := Option.bind_eq_some_iff.mp H
  obtain ⟨k37, hk37, H⟩ := Option.bind_eq_some_iff.mp H
  refine F_zald k37 hw hG d_Ref_showSlave_411 (gA_some hN36) (ix_some hk37) ?_
  refine J_if_ne (tgt := 462) d_Ref_showSlave_412 (by decide) ?_ ?_
  · intro c50
    rw [if_neg c50] at H
    refine J.drop [true, true, true, false, false, false, false, false] rfl ?_
    exact p_Ref_showSlave_L462 hw hG  H
  · intro c50
    rw [if_pos c50] at H
    refine J_aload_n d_Ref_showSlave_415 rfl ?_
    refine F_getR (ci := 12) (k := 79) hG (cf_Ref hw) (fl_Ref_217 hw) (by decide) (by decide) rfl d_Ref_showSlave_416 g34 ?_
    refine J_iload_n d_Ref_showSlave_419 rfl ?_
    refine J_aload_n d_Ref_showSlave_420 rfl ?_
    refine J_iload_n d_Ref_showSlave_421 rfl ?_
    obtain ⟨q38, hq38, H⟩ := Option.bind_eq_some_iff.mp H
    refine J_callV (kc := 0) (ks := 0) (kc' := 0) (ks' := 0) (a := x0) (ci := 12) (as := [.int x1]) (st := [.int x1, va_rf (q33.2.2.2 x0 79)]) (mf_Ref_chooseRead hw) (mv_Ref_412 hw) d_Ref_showSlave_422 ln_Ref_chooseRead (by decide) (by first | exact Nat.le_of_ble_eq_true rfl | (simp only [List.map_cons, List.map_nil, List.sum_cons, List.sum_nil, va_rf_cat]; exact Nat.le_of_ble_eq_true rfl)) rfl ((hG _).1 _ g34 (by decide)).1 ((hG _).1 _ g34 (by decide)).2 (by unfold pic; rw [g34]; rfl) (jcl_at hw rfl) rfl (p_Ref_chooseRead hw hG hq38) ?_ (fun E h' n' x' e1 => by cases e1.1)
    intro v9 h9 n9 x9 e9
    obtain ⟨e91, e92, e93⟩ := e9
    cases e91
    subst e92
    subst e93
    clear x
    rename Bool => x
    show J _ _ _ _ (_ :: _) _ _ _ _ _ _
    obtain ⟨a39, ha39, H⟩ := Option.bind_eq_some_iff.mp H
    rw [j_rf ha39]
    obtain ⟨N40, hN40, H⟩ := Option.bind_eq_some_iff.mp H
    obtain ⟨k41, hk41, H⟩ := Option.bind_eq_some_iff.mp H
    refine F_iast k41 hw hG d_Ref_showSlave_425 (gA_some hN40) (ix_some hk41) ?_
    refine J_aload_n d_Ref_showSlave_426 rfl ?_
    refine F_getR (ci := 12) (k := 79) hG (cf_Ref hw) (fl_Ref_217 hw) (by decide) (by decide) rfl d_Ref_showSlave_427 g34 ?_
    show J _ _ _ _ (va_rf (q38.2.2.2 x0 79) :: _) _ _ _ _ _ _
    refine J_iload_n d_Ref_showSlave_430 rfl ?_
    refine J_aload_n d_Ref_showSlave_431 rfl ?_
    refine F_getR (ci := 12) (k := 9) hG (cf_Ref hw) (fl_Ref_16 hw) (by decide) (by decide) rfl d_Ref_showSlave_432 g34 ?_
    show J _ _ _ _ (va_rf (q38.2.2.2 x0 9) :: _) _ _ _ _ _ _
    refine J_iconst (v := 5) d_Ref_showSlave_435 (by decide) ?_
    refine J_iload_n d_Ref_showSlave_436 rfl ?_
    refine J_imul d_Ref_showSlave_437 ?_
    refine J_iconst (v := 4) d_Ref_showSlave_438 (by decide) ?_
    refine J_iadd d_Ref_showSlave_439 ?_
    obtain ⟨a42, ha42, H⟩ := Option.bind_eq_some_iff.mp H
    rw [j_rf ha42]
    obtain ⟨N43, hN43, H⟩ := Option.bind_eq_some_iff.mp H
    obtain ⟨k44, hk44, H⟩ := Option.bind_eq_some_iff.mp H
    refine F_iald k44 hw hG d_Ref_showSlave_440 (gA_some hN43) (ix_some hk44) ?_
    refine J_aload_n d_Ref_showSlave_441 rfl ?_
    refine F_getI (ci := 12) (k := 6) hG (cf_Ref hw) (fl_Ref_348 hw) (by decide) (by decide) rfl d_Ref_showSlave_442 g34 ?_
    obtain ⟨q45, hq45, H⟩ := Option.bind_eq_some_iff.mp H
    refine J_callS (kc := 0) (ks := 0) (kc' := 0) (ks' := 0) (as := [.int ((uI q38.2 a39 k41 q38.1).1 a42 k44), .int ((uI q38.2 a39 k41 q38.1).1 x0 6)]) (st := [.int x1, va_rf (q38.2.2.2 x0 79)]) (mf_Ref_tells hw) (ms_Ref_351 hw) d_Ref_showSlave_445 ln_Ref_tells (by decide) (by first | exact Nat.le_of_ble_eq_true rfl | (simp only [List.map_cons, List.map_nil, List.sum_cons, List.sum_nil, va_rf_cat]; exact Nat.le_of_ble_eq_true rfl)) rfl (p_Ref_tells hw hG hq45) ?_ (fun E h' n' x' e1 => by cases e1.1)
    intro v9 h9 n9 x9 e9
    obtain ⟨e91, e92, e93⟩ := e9
    cases e91
    subst e92
    subst e93
    clear x
    rename Bool => x
    show J _ _ _ _ (_ :: _) _ _ _ _ _ _
    refine J_if_eq (tgt := 460) d_Ref_showSlave_448 (by decide) ?_ ?_
    · intro c49
      rw [if_pos c49] at H
      refine J_iconst (v := -1) d_Ref_showSlave_460 (by decide) ?_
      refine J.drop [true, true, true, false, false, false, false, false] rfl ?_
      exact p_Ref_showSlave_L461 hw hG  H
    · intro c49
      rw [if_neg c49] at H
      refine J_aload_n d_Ref_showSlave_451 rfl ?_
      refine F_getR (ci := 12) (k := 79) hG (cf_Ref hw) (fl_Ref_217 hw) (by decide) (by decide) rfl d_Ref_showSlave_452 g34 ?_
      refine J_iload_n d_Ref_showSlave_455 rfl ?_
      obtain ⟨a46, ha46, H⟩ := Option.bind_eq_some_iff.mp H
      rw [j_rf ha46]
      obtain ⟨N47, hN47, H⟩ := Option.bind_eq_some_iff.mp H
      obtain ⟨k48, hk48, H⟩ := Option.bind_eq_some_iff.mp H
      refine F_iald k48 hw hG d_Ref_showSlave_456 (gA_some hN47) (ix_some hk48) ?_
      refine J_goto (tgt := 461) d_Ref_showSlave_457 (by decide) ?_
      refine J.drop [true, true, true, false, false, false, false, false] rfl ?_
      exact p_Ref_showSlave_L461 hw hG  H
def f_Ref_showSlave_L369 (Γ : gm_T)  (φ : ph_T) (x0 : Nat) (x1 : Int32) (x2 : Int32) (x4 : Int32) (y0 : Int32) (y1 : Int32) (y2 : Nat) : Option (Unit × ph_T) :=
  if x4 = (-1 : Int32) then
    f_Ref_showSlave_L401 Γ  φ x0 x1 x2 (0 : Int32) (0 : Int64) y0 y1 y2
  else
    @ite _ (Γ x0 = .inr 12) _ (
    Option.bind (φ.2.2 x0 61) fun a52 =>
    Option.bind (gA Γ a52 1) fun N53 =>
    Option.bind (ix x4 N53) fun k54 =>
    Option.bind (f_Ref_idOf Γ φ (φ.2.1 a52 k54)) fun q55 =>
    Option.bind (q55.2.2.2 x0 64) fun a56 =>
    Option.bind (gA Γ a56 0) fun N57 =>
    Option.bind (ix x4 N57) fun k58 =>
    f_Ref_showSlave_L401 Γ  q55.2 x0 x1 x2 (q55.1 + ((64 : Int32) * (q55.2.1 a56 k58))) (0 : Int64) y0 y1 y2
    ) none
set_option maxRecDepth 100000 in
set_option maxHeartbeats 4000000 in
theorem p_Ref_showSlave_L369 {w : jw_T} (hw : jok w) {Γ : gm_T} {n : Nat} (hG : gd w Γ n)  {x : Bool} {φ : ph_T} {x0 : Nat} {x1 : Int32} {x2 : Int32} {x4 : Int32} {y0 : Int32} {y1 : Int32} {y2 : Nat} {q : Unit × ph_T} (H : f_Ref_showSlave_L369 Γ  φ x0 x1 x2 x4 y0 y1 y2 = some q) : J w M_Ref_showSlave 369 [some (.ref x0), some (.int x1), some (.int x2), none, some (.int x4), none, none, none] [.int y0, .int y1, .ref y2] (pic Γ φ) n x 0 0 (fq Γ n (.inl none) q.2) := by
  unfold f_Ref_showSlave_L369 at H
  refine J_lconst (v := 0) d_Ref_showSlave_369 (by decide) ?_
  refine J_iload d_Ref_showSlave_370 rfl ?_
  refine J_iconst (v := -1) d_Ref_showSlave_372 (by decide) ?_
  refine J_icmp_ne (tgt := 380) d_Ref_showSlave_373 (by decide) ?_ ?_
  · intro c59
    rw [if_neg c59] at H
    refine J_aload_n d_Ref_showSlave_380 rfl ?_
    have g51 : Γ x0 = .inr 12 := by
      apply Classical.byContradiction
      intro q9
      rw [if_neg q9] at H
      cases H
    rw [if_pos g51] at H
    refine F_getR (ci := 12) (k := 61) hG (cf_Ref hw) (fl_Ref_163 hw) (by decide) (by decide) rfl d_Ref_showSlave_381 g51 ?_
    refine J_iload d_Ref_showSlave_384 rfl ?_
    obtain ⟨a52, ha52, H⟩ := Option.bind_eq_some_iff.mp H
    rw [j_rf ha52]
    obtain ⟨N53, hN53, H⟩ := Option.bind_eq_some_iff.mp H
    obtain ⟨k54, hk54, H⟩ := Option.bind_eq_some_iff.mp H
    refine F_lald k54 hw hG d_Ref_showSlave_386 (gA_some hN53) (ix_some hk54) ?_
    obtain ⟨q55, hq55, H⟩ := Option.bind_eq_some_iff.mp H
    refine J_callS (kc := 0) (ks := 0) (kc' := 0) (ks' := 0) (as := [.long (φ.2.1 a52 k54)]) (st := [.long (0 : Int64), .int y0, .int y1, .ref y2]) (mf_Ref_idOf hw) (ms_Ref_396 hw) d_Ref_showSlave_387 ln_Ref_idOf (by decide) (by first | exact Nat.le_of_ble_eq_true rfl | (simp only [List.map_cons, List.map_nil, List.sum_cons, List.sum_nil, va_rf_cat]; exact Nat.le_of_ble_eq_true rfl)) rfl (p_Ref_idOf hw hG hq55) ?_ (fun E h' n' x' e1 => by cases e1.1)
    intro v9 h9 n9 x9 e9
    obtain ⟨e91, e92, e93⟩ := e9
    cases e91
    subst e92
    subst e93
    clear x
    rename Bool => x
    show J _ _ _ _ (_ :: _) _ _ _ _ _ _
    refine J_bipush (v := 64) d_Ref_showSlave_390 (by decide) ?_
    refine J_aload_n d_Ref_showSlave_392 rfl ?_
    refine F_getR (ci := 12) (k := 64) hG (cf_Ref hw) (fl_Ref_172 hw) (by decide) (by decide) rfl d_Ref_showSlave_393 g51 ?_
    refine J_iload d_Ref_showSlave_396 rfl ?_
    obtain ⟨a56, ha56, H⟩ := Option.bind_eq_some_iff.mp H
    rw [j_rf ha56]
    obtain ⟨N57, hN57, H⟩ := Option.bind_eq_some_iff.mp H
    obtain ⟨k58, hk58, H⟩ := Option.bind_eq_some_iff.mp H
    refine F_iald k58 hw hG d_Ref_showSlave_398 (gA_some hN57) (ix_some hk58) ?_
    refine J_imul d_Ref_showSlave_399 ?_
    refine J_iadd d_Ref_showSlave_400 ?_
    refine J.drop [true, true, true, false, false, false, false, false] rfl ?_
    exact p_Ref_showSlave_L401 hw hG  H
  · intro c59
    rw [if_pos c59] at H
    refine J_iconst (v := 0) d_Ref_showSlave_376 (by decide) ?_
    refine J_goto (tgt := 401) d_Ref_showSlave_377 (by decide) ?_
    refine J.drop [true, true, true, false, false, false, false, false] rfl ?_
    exact p_Ref_showSlave_L401 hw hG  H
def f_Ref_showSlave_L346 (Γ : gm_T)  (φ : ph_T) (x0 : Nat) (x1 : Int32) (x2 : Int32) : Option (Unit × ph_T) :=
  @ite _ (Γ x0 = .inr 12) _ (
  Option.bind (φ.2.2 x0 78) fun a61 =>
  Option.bind (gA Γ a61 0) fun N62 =>
  Option.bind (ix x1 N62) fun k63 =>
  if (φ.1 a61 k63) = (-1 : Int32) then
    f_Ref_showSlave_L369 Γ  φ x0 x1 x2 (φ.1 a61 k63) (0 : Int32) (x2 + (2 : Int32)) x0
  else
    f_Ref_showSlave_L369 Γ  φ x0 x1 x2 (φ.1 a61 k63) (1 : Int32) (x2 + (2 : Int32)) x0
  ) none
set_option maxRecDepth 100000 in
set_option maxHeartbeats 4000000 in
theorem p_Ref_showSlave_L346 {w : jw_T} (hw : jok w) {Γ : gm_T} {n : Nat} (hG : gd w Γ n)  {x : Bool} {φ : ph_T} {x0 : Nat} {x1 : Int32} {x2 : Int32} {q : Unit × ph_T} (H : f_Ref_showSlave_L346 Γ  φ x0 x1 x2 = some q) : J w M_Ref_showSlave 346 [some (.ref x0), some (.int x1), some (.int x2), none, none, none, none, none] [] (pic Γ φ) n x 0 0 (fq Γ n (.inl none) q.2) := by
  unfold f_Ref_showSlave_L346 at H
  refine J_aload_n d_Ref_showSlave_346 rfl ?_
  have g60 : Γ x0 = .inr 12 := by
    apply Classical.byContradiction
    intro q9
    rw [if_neg q9] at H
    cases H
  rw [if_pos g60] at H
  refine F_getR (ci := 12) (k := 78) hG (cf_Ref hw) (fl_Ref_214 hw) (by decide) (by decide) rfl d_Ref_showSlave_347 g60 ?_
  refine J_iload_n d_Ref_showSlave_350 rfl ?_
  obtain ⟨a61, ha61, H⟩ := Option.bind_eq_some_iff.mp H
  rw [j_rf ha61]
  obtain ⟨N62, hN62, H⟩ := Option.bind_eq_some_iff.mp H
  obtain ⟨k63, hk63, H⟩ := Option.bind_eq_some_iff.mp H
  refine F_iald k63 hw hG d_Ref_showSlave_351 (gA_some hN62) (ix_some hk63) ?_
  refine J_istore d_Ref_showSlave_352 (Nat.le_of_ble_eq_true rfl) ?_
  refine J.ls (ls' := [some (.ref x0), some (.int x1), some (.int x2), none, some (.int (φ.1 a61 k63)), none, none, none]) rfl ?_
  refine J_aload_n d_Ref_showSlave_354 rfl ?_
  refine J_iload_n d_Ref_showSlave_355 rfl ?_
  refine J_iconst (v := 2) d_Ref_showSlave_356 (by decide) ?_
  refine J_iadd d_Ref_showSlave_357 ?_
  refine J_iload d_Ref_showSlave_358 rfl ?_
  refine J_iconst (v := -1) d_Ref_showSlave_360 (by decide) ?_
  refine J_icmp_eq (tgt := 368) d_Ref_showSlave_361 (by decide) ?_ ?_
  · intro c64
    rw [if_pos c64] at H
    refine J_iconst (v := 0) d_Ref_showSlave_368 (by decide) ?_
    refine J.drop [true, true, true, false, true, false, false, false] rfl ?_
    exact p_Ref_showSlave_L369 hw hG  H
  · intro c64
    rw [if_neg c64] at H
    refine J_iconst (v := 1) d_Ref_showSlave_364 (by decide) ?_
    refine J_goto (tgt := 369) d_Ref_showSlave_365 (by decide) ?_
    refine J.drop [true, true, true, false, true, false, false, false] rfl ?_
    exact p_Ref_showSlave_L369 hw hG  H
def f_Ref_showSlave_L345 (Γ : gm_T)  (φ : ph_T) (x0 : Nat) (x1 : Int32) (x2 : Int32) (y0 : Int32) (y1 : Int32) (y2 : Option Nat) : Option (Unit × ph_T) :=
  Option.bind y2 fun a65 =>
  Option.bind (gA Γ a65 0) fun N66 =>
  Option.bind (ix y1 N66) fun k67 =>
  f_Ref_showSlave_L346 Γ  (uI φ a65 k67 y0) x0 x1 x2
set_option maxRecDepth 100000 in
set_option maxHeartbeats 4000000 in
theorem p_Ref_showSlave_L345 {w : jw_T} (hw : jok w) {Γ : gm_T} {n : Nat} (hG : gd w Γ n)  {x : Bool} {φ : ph_T} {x0 : Nat} {x1 : Int32} {x2 : Int32} {y0 : Int32} {y1 : Int32} {y2 : Option Nat} {q : Unit × ph_T} (H : f_Ref_showSlave_L345 Γ  φ x0 x1 x2 y0 y1 y2 = some q) : J w M_Ref_showSlave 345 [some (.ref x0), some (.int x1), some (.int x2), none, none, none, none, none] [.int y0, .int y1, va_rf y2] (pic Γ φ) n x 0 0 (fq Γ n (.inl none) q.2) := by
  unfold f_Ref_showSlave_L345 at H
  obtain ⟨a65, ha65, H⟩ := Option.bind_eq_some_iff.mp H
  rw [j_rf ha65]
  obtain ⟨N66, hN66, H⟩ := Option.bind_eq_some_iff.mp H
  obtain ⟨k67, hk67, H⟩ := Option.bind_eq_some_iff.mp H
  refine F_iast k67 hw hG d_Ref_showSlave_345 (gA_some hN66) (ix_some hk67) ?_
  refine J.drop [true, true, true, false, false, false, false, false] rfl ?_
  exact p_Ref_showSlave_L346 hw hG  H
def f_Ref_showSlave_L287 (Γ : gm_T)  (φ : ph_T) (x0 : Nat) (x1 : Int32) (x2 : Int32) (y0 : Int32) (y1 : Int32) (y2 : Option Nat) : Option (Unit × ph_T) :=
  Option.bind y2 fun a68 =>
  Option.bind (gA Γ a68 2) fun N69 =>
  Option.bind (ix y1 N69) fun k70 =>
  @ite _ (y0 = 0 ∨ y0 = 1) _ (
  @ite _ (Γ x0 = .inr 12) _ (
  Option.bind (φ.2.2 x0 37) fun a73 =>
  Option.bind (gA Γ a73 2) fun N74 =>
  Option.bind (ix (x2 + (2 : Int32)) N74) fun k75 =>
  if ((uI φ a68 k70 y0).1 a73 k75) = 0 then
    Option.bind (f_Ref_chooseWrite Γ (uI φ a68 k70 y0) x0 x1) fun q76 =>
    Option.bind (φ.2.2 x0 78) fun a77 =>
    Option.bind (gA Γ a77 0) fun N78 =>
    Option.bind (ix x1 N78) fun k79 =>
    Option.bind (q76.2.2.2 x0 9) fun a80 =>
    Option.bind (gA Γ a80 0) fun N81 =>
    Option.bind (ix (((5 : Int32) * x1) + (2 : Int32)) N81) fun k82 =>
    Option.bind (f_Ref_tells Γ (uI q76.2 a77 k79 q76.1) ((uI q76.2 a77 k79 q76.1).1 a80 k82) ((uI q76.2 a77 k79 q76.1).1 x0 6)) fun q83 =>
    if q83.1 = 0 then
      f_Ref_showSlave_L345 Γ  q83.2 x0 x1 x2 (-1 : Int32) x1 (q76.2.2.2 x0 78)
    else
      Option.bind (q83.2.2.2 x0 78) fun a84 =>
      Option.bind (gA Γ a84 0) fun N85 =>
      Option.bind (ix x1 N85) fun k86 =>
      f_Ref_showSlave_L345 Γ  q83.2 x0 x1 x2 (q83.2.1 a84 k86) x1 (q76.2.2.2 x0 78)
  else
    f_Ref_showSlave_L346 Γ  (uI φ a68 k70 y0) x0 x1 x2
  ) none
  ) none
set_option maxRecDepth 100000 in
set_option maxHeartbeats 4000000 in
theorem p_Ref_showSlave_L287 {w : jw_T} (hw : jok w) {Γ : gm_T} {n : Nat} (hG : gd w Γ n)  {x : Bool} {φ : ph_T} {x0 : Nat} {x1 : Int32} {x2 : Int32} {y0 : Int32} {y1 : Int32} {y2 : Option Nat} {q : Unit × ph_T} (H : f_Ref_showSlave_L287 Γ  φ x0 x1 x2 y0 y1 y2 = some q) : J w M_Ref_showSlave 287 [some (.ref x0), some (.int x1), some (.int x2), none, none, none, none, none] [.int y0, .int y1, va_rf y2] (pic Γ φ) n x 0 0 (fq Γ n (.inl none) q.2) := by
  unfold f_Ref_showSlave_L287 at H
  obtain ⟨a68, ha68, H⟩ := Option.bind_eq_some_iff.mp H
  rw [j_rf ha68]
  obtain ⟨N69, hN69, H⟩ := Option.bind_eq_some_iff.mp H
  obtain ⟨k70, hk70, H⟩ := Option.bind_eq_some_iff.mp H
  have z71 : y0 = 0 ∨ y0 = 1 := by
    apply Classical.byContradiction
    intro q9
    rw [if_neg q9] at H
    cases H
  rw [if_pos z71] at H
  refine F_zast k70 hw hG d_Ref_showSlave_287 (gA_some hN69) (ix_some hk70) z71 ?_
  refine J_aload_n d_Ref_showSlave_288 rfl ?_
  have g72 : Γ x0 = .inr 12 := by
    apply Classical.byContradiction
    intro q9
    rw [if_neg q9] at H
    cases H
  rw [if_pos g72] at H
  refine F_getR (ci := 12) (k := 37) hG (cf_Ref hw) (fl_Ref_100 hw) (by decide) (by decide) rfl d_Ref_showSlave_289 g72 ?_
  show J _ _ _ _ (va_rf (φ.2.2 x0 37) :: _) _ _ _ _ _ _
  refine J_iload_n d_Ref_showSlave_292 rfl ?_
  refine J_iconst (v := 2) d_Ref_showSlave_293 (by decide) ?_
  refine J_iadd d_Ref_showSlave_294 ?_
  obtain ⟨a73, ha73, H⟩ := Option.bind_eq_some_iff.mp H
  rw [j_rf ha73]
  obtain ⟨N74, hN74, H⟩ := Option.bind_eq_some_iff.mp H
  obtain ⟨k75, hk75, H⟩ := Option.bind_eq_some_iff.mp H
  refine F_zald k75 hw hG d_Ref_showSlave_295 (gA_some hN74) (ix_some hk75) ?_
  refine J_if_ne (tgt := 346) d_Ref_showSlave_296 (by decide) ?_ ?_
  · intro c88
    rw [if_neg c88] at H
    refine J.drop [true, true, true, false, false, false, false, false] rfl ?_
    exact p_Ref_showSlave_L346 hw hG  H
  · intro c88
    rw [if_pos c88] at H
    refine J_aload_n d_Ref_showSlave_299 rfl ?_
    refine F_getR (ci := 12) (k := 78) hG (cf_Ref hw) (fl_Ref_214 hw) (by decide) (by decide) rfl d_Ref_showSlave_300 g72 ?_
    show J _ _ _ _ (va_rf (φ.2.2 x0 78) :: _) _ _ _ _ _ _
    refine J_iload_n d_Ref_showSlave_303 rfl ?_
    refine J_aload_n d_Ref_showSlave_304 rfl ?_
    refine J_iload_n d_Ref_showSlave_305 rfl ?_
    obtain ⟨q76, hq76, H⟩ := Option.bind_eq_some_iff.mp H
    refine J_callV (kc := 0) (ks := 0) (kc' := 0) (ks' := 0) (a := x0) (ci := 12) (as := [.int x1]) (st := [.int x1, va_rf (φ.2.2 x0 78)]) (mf_Ref_chooseWrite hw) (mv_Ref_409 hw) d_Ref_showSlave_306 ln_Ref_chooseWrite (by decide) (by first | exact Nat.le_of_ble_eq_true rfl | (simp only [List.map_cons, List.map_nil, List.sum_cons, List.sum_nil, va_rf_cat]; exact Nat.le_of_ble_eq_true rfl)) rfl ((hG _).1 _ g72 (by decide)).1 ((hG _).1 _ g72 (by decide)).2 (by unfold pic; rw [g72]; rfl) (jcl_at hw rfl) rfl (p_Ref_chooseWrite hw hG hq76) ?_ (fun E h' n' x' e1 => by cases e1.1)
    intro v9 h9 n9 x9 e9
    obtain ⟨e91, e92, e93⟩ := e9
    cases e91
    subst e92
    subst e93
    clear x
    rename Bool => x
    show J _ _ _ _ (_ :: _) _ _ _ _ _ _
    obtain ⟨a77, ha77, H⟩ := Option.bind_eq_some_iff.mp H
    rw [j_rf ha77]
    obtain ⟨N78, hN78, H⟩ := Option.bind_eq_some_iff.mp H
    obtain ⟨k79, hk79, H⟩ := Option.bind_eq_some_iff.mp H
    refine F_iast k79 hw hG d_Ref_showSlave_309 (gA_some hN78) (ix_some hk79) ?_
    refine J_aload_n d_Ref_showSlave_310 rfl ?_
    refine F_getR (ci := 12) (k := 78) hG (cf_Ref hw) (fl_Ref_214 hw) (by decide) (by decide) rfl d_Ref_showSlave_311 g72 ?_
    show J _ _ _ _ (va_rf (q76.2.2.2 x0 78) :: _) _ _ _ _ _ _
    refine J_iload_n d_Ref_showSlave_314 rfl ?_
    refine J_aload_n d_Ref_showSlave_315 rfl ?_
    refine F_getR (ci := 12) (k := 9) hG (cf_Ref hw) (fl_Ref_16 hw) (by decide) (by decide) rfl d_Ref_showSlave_316 g72 ?_
    show J _ _ _ _ (va_rf (q76.2.2.2 x0 9) :: _) _ _ _ _ _ _
    refine J_iconst (v := 5) d_Ref_showSlave_319 (by decide) ?_
    refine J_iload_n d_Ref_showSlave_320 rfl ?_
    refine J_imul d_Ref_showSlave_321 ?_
    refine J_iconst (v := 2) d_Ref_showSlave_322 (by decide) ?_
    refine J_iadd d_Ref_showSlave_323 ?_
    obtain ⟨a80, ha80, H⟩ := Option.bind_eq_some_iff.mp H
    rw [j_rf ha80]
    obtain ⟨N81, hN81, H⟩ := Option.bind_eq_some_iff.mp H
    obtain ⟨k82, hk82, H⟩ := Option.bind_eq_some_iff.mp H
    refine F_iald k82 hw hG d_Ref_showSlave_324 (gA_some hN81) (ix_some hk82) ?_
    refine J_aload_n d_Ref_showSlave_325 rfl ?_
    refine F_getI (ci := 12) (k := 6) hG (cf_Ref hw) (fl_Ref_348 hw) (by decide) (by decide) rfl d_Ref_showSlave_326 g72 ?_
    obtain ⟨q83, hq83, H⟩ := Option.bind_eq_some_iff.mp H
    refine J_callS (kc := 0) (ks := 0) (kc' := 0) (ks' := 0) (as := [.int ((uI q76.2 a77 k79 q76.1).1 a80 k82), .int ((uI q76.2 a77 k79 q76.1).1 x0 6)]) (st := [.int x1, va_rf (q76.2.2.2 x0 78)]) (mf_Ref_tells hw) (ms_Ref_351 hw) d_Ref_showSlave_329 ln_Ref_tells (by decide) (by first | exact Nat.le_of_ble_eq_true rfl | (simp only [List.map_cons, List.map_nil, List.sum_cons, List.sum_nil, va_rf_cat]; exact Nat.le_of_ble_eq_true rfl)) rfl (p_Ref_tells hw hG hq83) ?_ (fun E h' n' x' e1 => by cases e1.1)
    intro v9 h9 n9 x9 e9
    obtain ⟨e91, e92, e93⟩ := e9
    cases e91
    subst e92
    subst e93
    clear x
    rename Bool => x
    show J _ _ _ _ (_ :: _) _ _ _ _ _ _
    refine J_if_eq (tgt := 344) d_Ref_showSlave_332 (by decide) ?_ ?_
    · intro c87
      rw [if_pos c87] at H
      refine J_iconst (v := -1) d_Ref_showSlave_344 (by decide) ?_
      refine J.drop [true, true, true, false, false, false, false, false] rfl ?_
      exact p_Ref_showSlave_L345 hw hG  H
    · intro c87
      rw [if_neg c87] at H
      refine J_aload_n d_Ref_showSlave_335 rfl ?_
      refine F_getR (ci := 12) (k := 78) hG (cf_Ref hw) (fl_Ref_214 hw) (by decide) (by decide) rfl d_Ref_showSlave_336 g72 ?_
      refine J_iload_n d_Ref_showSlave_339 rfl ?_
      obtain ⟨a84, ha84, H⟩ := Option.bind_eq_some_iff.mp H
      rw [j_rf ha84]
      obtain ⟨N85, hN85, H⟩ := Option.bind_eq_some_iff.mp H
      obtain ⟨k86, hk86, H⟩ := Option.bind_eq_some_iff.mp H
      refine F_iald k86 hw hG d_Ref_showSlave_340 (gA_some hN85) (ix_some hk86) ?_
      refine J_goto (tgt := 345) d_Ref_showSlave_341 (by decide) ?_
      refine J.drop [true, true, true, false, false, false, false, false] rfl ?_
      exact p_Ref_showSlave_L345 hw hG  H
def f_Ref_showSlave_L286 (Γ : gm_T)  (φ : ph_T) (x0 : Nat) (x1 : Int32) (x2 : Int32) (y0 : Int32) (y1 : Option Nat) : Option (Unit × ph_T) :=
  f_Ref_showSlave_L287 Γ  φ x0 x1 x2 (0 : Int32) y0 y1
set_option maxRecDepth 100000 in
set_option maxHeartbeats 4000000 in
theorem p_Ref_showSlave_L286 {w : jw_T} (hw : jok w) {Γ : gm_T} {n : Nat} (hG : gd w Γ n)  {x : Bool} {φ : ph_T} {x0 : Nat} {x1 : Int32} {x2 : Int32} {y0 : Int32} {y1 : Option Nat} {q : Unit × ph_T} (H : f_Ref_showSlave_L286 Γ  φ x0 x1 x2 y0 y1 = some q) : J w M_Ref_showSlave 286 [some (.ref x0), some (.int x1), some (.int x2), none, none, none, none, none] [.int y0, va_rf y1] (pic Γ φ) n x 0 0 (fq Γ n (.inl none) q.2) := by
  unfold f_Ref_showSlave_L286 at H
  refine J_iconst (v := 0) d_Ref_showSlave_286 (by decide) ?_
  refine J.drop [true, true, true, false, false, false, false, false] rfl ?_
  exact p_Ref_showSlave_L287 hw hG  H
def f_Ref_showSlave_L244 (Γ : gm_T)  (φ : ph_T) (x0 : Nat) (x1 : Int32) (x2 : Int32) (y0 : Int32) (y1 : Int32) (y2 : Option Nat) : Option (Unit × ph_T) :=
  Option.bind y2 fun a89 =>
  Option.bind (gA Γ a89 2) fun N90 =>
  Option.bind (ix y1 N90) fun k91 =>
  @ite _ (y0 = 0 ∨ y0 = 1) _ (
  @ite _ (Γ x0 = .inr 12) _ (
  Option.bind (φ.2.2 x0 9) fun a94 =>
  Option.bind (gA Γ a94 0) fun N95 =>
  Option.bind (ix (((5 : Int32) * x1) + (3 : Int32)) N95) fun k96 =>
  Option.bind (f_Ref_tells Γ (uI φ a89 k91 y0) ((uI φ a89 k91 y0).1 a94 k96) ((uI φ a89 k91 y0).1 x0 6)) fun q97 =>
  if q97.1 = 0 then
    f_Ref_showSlave_L286 Γ  q97.2 x0 x1 x2 (x2 + (3 : Int32)) (φ.2.2 x0 34)
  else
    Option.bind (q97.2.2.2 x0 67) fun a98 =>
    Option.bind (gA Γ a98 0) fun N99 =>
    Option.bind (ix x1 N99) fun k100 =>
    if (4 : Int32) ≤ (q97.2.1 a98 k100) then
      f_Ref_showSlave_L286 Γ  q97.2 x0 x1 x2 (x2 + (3 : Int32)) (φ.2.2 x0 34)
    else
      f_Ref_showSlave_L287 Γ  q97.2 x0 x1 x2 (1 : Int32) (x2 + (3 : Int32)) (φ.2.2 x0 34)
  ) none
  ) none
set_option maxRecDepth 100000 in
set_option maxHeartbeats 4000000 in
theorem p_Ref_showSlave_L244 {w : jw_T} (hw : jok w) {Γ : gm_T} {n : Nat} (hG : gd w Γ n)  {x : Bool} {φ : ph_T} {x0 : Nat} {x1 : Int32} {x2 : Int32} {y0 : Int32} {y1 : Int32} {y2 : Option Nat} {q : Unit × ph_T} (H : f_Ref_showSlave_L244 Γ  φ x0 x1 x2 y0 y1 y2 = some q) : J w M_Ref_showSlave 244 [some (.ref x0), some (.int x1), some (.int x2), none, none, none, none, none] [.int y0, .int y1, va_rf y2] (pic Γ φ) n x 0 0 (fq Γ n (.inl none) q.2) := by
  unfold f_Ref_showSlave_L244 at H
  obtain ⟨a89, ha89, H⟩ := Option.bind_eq_some_iff.mp H
  rw [j_rf ha89]
  obtain ⟨N90, hN90, H⟩ := Option.bind_eq_some_iff.mp H
  obtain ⟨k91, hk91, H⟩ := Option.bind_eq_some_iff.mp H
  have z92 : y0 = 0 ∨ y0 = 1 := by
    apply Classical.byContradiction
    intro q9
    rw [if_neg q9] at H
    cases H
  rw [if_pos z92] at H
  refine F_zast k91 hw hG d_Ref_showSlave_244 (gA_some hN90) (ix_some hk91) z92 ?_
  refine J_aload_n d_Ref_showSlave_245 rfl ?_
  have g93 : Γ x0 = .inr 12 := by
    apply Classical.byContradiction
    intro q9
    rw [if_neg q9] at H
    cases H
  rw [if_pos g93] at H
  refine F_getR (ci := 12) (k := 34) hG (cf_Ref hw) (fl_Ref_91 hw) (by decide) (by decide) rfl d_Ref_showSlave_246 g93 ?_
  show J _ _ _ _ (va_rf (φ.2.2 x0 34) :: _) _ _ _ _ _ _
  refine J_iload_n d_Ref_showSlave_249 rfl ?_
  refine J_iconst (v := 3) d_Ref_showSlave_250 (by decide) ?_
  refine J_iadd d_Ref_showSlave_251 ?_
  refine J_aload_n d_Ref_showSlave_252 rfl ?_
  refine F_getR (ci := 12) (k := 9) hG (cf_Ref hw) (fl_Ref_16 hw) (by decide) (by decide) rfl d_Ref_showSlave_253 g93 ?_
  show J _ _ _ _ (va_rf (φ.2.2 x0 9) :: _) _ _ _ _ _ _
  refine J_iconst (v := 5) d_Ref_showSlave_256 (by decide) ?_
  refine J_iload_n d_Ref_showSlave_257 rfl ?_
  refine J_imul d_Ref_showSlave_258 ?_
  refine J_iconst (v := 3) d_Ref_showSlave_259 (by decide) ?_
  refine J_iadd d_Ref_showSlave_260 ?_
  obtain ⟨a94, ha94, H⟩ := Option.bind_eq_some_iff.mp H
  rw [j_rf ha94]
  obtain ⟨N95, hN95, H⟩ := Option.bind_eq_some_iff.mp H
  obtain ⟨k96, hk96, H⟩ := Option.bind_eq_some_iff.mp H
  refine F_iald k96 hw hG d_Ref_showSlave_261 (gA_some hN95) (ix_some hk96) ?_
  refine J_aload_n d_Ref_showSlave_262 rfl ?_
  refine F_getI (ci := 12) (k := 6) hG (cf_Ref hw) (fl_Ref_348 hw) (by decide) (by decide) rfl d_Ref_showSlave_263 g93 ?_
  obtain ⟨q97, hq97, H⟩ := Option.bind_eq_some_iff.mp H
  refine J_callS (kc := 0) (ks := 0) (kc' := 0) (ks' := 0) (as := [.int ((uI φ a89 k91 y0).1 a94 k96), .int ((uI φ a89 k91 y0).1 x0 6)]) (st := [.int (x2 + (3 : Int32)), va_rf (φ.2.2 x0 34)]) (mf_Ref_tells hw) (ms_Ref_351 hw) d_Ref_showSlave_266 ln_Ref_tells (by decide) (by first | exact Nat.le_of_ble_eq_true rfl | (simp only [List.map_cons, List.map_nil, List.sum_cons, List.sum_nil, va_rf_cat]; exact Nat.le_of_ble_eq_true rfl)) rfl (p_Ref_tells hw hG hq97) ?_ (fun E h' n' x' e1 => by cases e1.1)
  intro v9 h9 n9 x9 e9
  obtain ⟨e91, e92, e93⟩ := e9
  cases e91
  subst e92
  subst e93
  clear x
  rename Bool => x
  show J _ _ _ _ (_ :: _) _ _ _ _ _ _
  refine J_if_eq (tgt := 286) d_Ref_showSlave_269 (by decide) ?_ ?_
  · intro c102
    rw [if_pos c102] at H
    refine J.drop [true, true, true, false, false, false, false, false] rfl ?_
    exact p_Ref_showSlave_L286 hw hG  H
  · intro c102
    rw [if_neg c102] at H
    refine J_aload_n d_Ref_showSlave_272 rfl ?_
    refine F_getR (ci := 12) (k := 67) hG (cf_Ref hw) (fl_Ref_181 hw) (by decide) (by decide) rfl d_Ref_showSlave_273 g93 ?_
    refine J_iload_n d_Ref_showSlave_276 rfl ?_
    obtain ⟨a98, ha98, H⟩ := Option.bind_eq_some_iff.mp H
    rw [j_rf ha98]
    obtain ⟨N99, hN99, H⟩ := Option.bind_eq_some_iff.mp H
    obtain ⟨k100, hk100, H⟩ := Option.bind_eq_some_iff.mp H
    refine F_iald k100 hw hG d_Ref_showSlave_277 (gA_some hN99) (ix_some hk100) ?_
    refine J_iconst (v := 4) d_Ref_showSlave_278 (by decide) ?_
    refine J_icmp_ge (tgt := 286) d_Ref_showSlave_279 (by decide) ?_ ?_
    · intro c101
      rw [if_pos c101] at H
      refine J.drop [true, true, true, false, false, false, false, false] rfl ?_
      exact p_Ref_showSlave_L286 hw hG  H
    · intro c101
      rw [if_neg c101] at H
      refine J_iconst (v := 1) d_Ref_showSlave_282 (by decide) ?_
      refine J_goto (tgt := 287) d_Ref_showSlave_283 (by decide) ?_
      refine J.drop [true, true, true, false, false, false, false, false] rfl ?_
      exact p_Ref_showSlave_L287 hw hG  H
def f_Ref_showSlave_L243 (Γ : gm_T)  (φ : ph_T) (x0 : Nat) (x1 : Int32) (x2 : Int32) (y0 : Int32) (y1 : Option Nat) : Option (Unit × ph_T) :=
  f_Ref_showSlave_L244 Γ  φ x0 x1 x2 (0 : Int32) y0 y1
set_option maxRecDepth 100000 in
set_option maxHeartbeats 4000000 in
theorem p_Ref_showSlave_L243 {w : jw_T} (hw : jok w) {Γ : gm_T} {n : Nat} (hG : gd w Γ n)  {x : Bool} {φ : ph_T} {x0 : Nat} {x1 : Int32} {x2 : Int32} {y0 : Int32} {y1 : Option Nat} {q : Unit × ph_T} (H : f_Ref_showSlave_L243 Γ  φ x0 x1 x2 y0 y1 = some q) : J w M_Ref_showSlave 243 [some (.ref x0), some (.int x1), some (.int x2), none, none, none, none, none] [.int y0, va_rf y1] (pic Γ φ) n x 0 0 (fq Γ n (.inl none) q.2) := by
  unfold f_Ref_showSlave_L243 at H
  refine J_iconst (v := 0) d_Ref_showSlave_243 (by decide) ?_
  refine J.drop [true, true, true, false, false, false, false, false] rfl ?_
  exact p_Ref_showSlave_L244 hw hG  H
def f_Ref_showSlave_L207 (Γ : gm_T)  (φ : ph_T) (x0 : Nat) (x1 : Int32) (x2 : Int32) (x3 : Int32) (y0 : Int32) (y1 : Int32) (y2 : Option Nat) : Option (Unit × ph_T) :=
  Option.bind y2 fun a103 =>
  Option.bind (gA Γ a103 2) fun N104 =>
  Option.bind (ix y1 N104) fun k105 =>
  @ite _ (y0 = 0 ∨ y0 = 1) _ (
  @ite _ (Γ x0 = .inr 12) _ (
  Option.bind (φ.2.2 x0 9) fun a108 =>
  Option.bind (gA Γ a108 0) fun N109 =>
  Option.bind (ix (((5 : Int32) * x1) + (1 : Int32)) N109) fun k110 =>
  Option.bind (f_Ref_tells Γ (uI φ a103 k105 y0) ((uI φ a103 k105 y0).1 a108 k110) ((uI φ a103 k105 y0).1 x0 6)) fun q111 =>
  if q111.1 = 0 then
    f_Ref_showSlave_L243 Γ  q111.2 x0 x1 x2 (x2 + (1 : Int32)) (φ.2.2 x0 34)
  else
    if x3 = 0 then
      f_Ref_showSlave_L243 Γ  q111.2 x0 x1 x2 (x2 + (1 : Int32)) (φ.2.2 x0 34)
    else
      f_Ref_showSlave_L244 Γ  q111.2 x0 x1 x2 (1 : Int32) (x2 + (1 : Int32)) (φ.2.2 x0 34)
  ) none
  ) none
set_option maxRecDepth 100000 in
set_option maxHeartbeats 4000000 in
theorem p_Ref_showSlave_L207 {w : jw_T} (hw : jok w) {Γ : gm_T} {n : Nat} (hG : gd w Γ n)  {x : Bool} {φ : ph_T} {x0 : Nat} {x1 : Int32} {x2 : Int32} {x3 : Int32} {y0 : Int32} {y1 : Int32} {y2 : Option Nat} {q : Unit × ph_T} (H : f_Ref_showSlave_L207 Γ  φ x0 x1 x2 x3 y0 y1 y2 = some q) : J w M_Ref_showSlave 207 [some (.ref x0), some (.int x1), some (.int x2), some (.int x3), none, none, none, none] [.int y0, .int y1, va_rf y2] (pic Γ φ) n x 0 0 (fq Γ n (.inl none) q.2) := by
  unfold f_Ref_showSlave_L207 at H
  obtain ⟨a103, ha103, H⟩ := Option.bind_eq_some_iff.mp H
  rw [j_rf ha103]
  obtain ⟨N104, hN104, H⟩ := Option.bind_eq_some_iff.mp H
  obtain ⟨k105, hk105, H⟩ := Option.bind_eq_some_iff.mp H
  have z106 : y0 = 0 ∨ y0 = 1 := by
    apply Classical.byContradiction
    intro q9
    rw [if_neg q9] at H
    cases H
  rw [if_pos z106] at H
  refine F_zast k105 hw hG d_Ref_showSlave_207 (gA_some hN104) (ix_some hk105) z106 ?_
  refine J_aload_n d_Ref_showSlave_208 rfl ?_
  have g107 : Γ x0 = .inr 12 := by
    apply Classical.byContradiction
    intro q9
    rw [if_neg q9] at H
    cases H
  rw [if_pos g107] at H
  refine F_getR (ci := 12) (k := 34) hG (cf_Ref hw) (fl_Ref_91 hw) (by decide) (by decide) rfl d_Ref_showSlave_209 g107 ?_
  show J _ _ _ _ (va_rf (φ.2.2 x0 34) :: _) _ _ _ _ _ _
  refine J_iload_n d_Ref_showSlave_212 rfl ?_
  refine J_iconst (v := 1) d_Ref_showSlave_213 (by decide) ?_
  refine J_iadd d_Ref_showSlave_214 ?_
  refine J_aload_n d_Ref_showSlave_215 rfl ?_
  refine F_getR (ci := 12) (k := 9) hG (cf_Ref hw) (fl_Ref_16 hw) (by decide) (by decide) rfl d_Ref_showSlave_216 g107 ?_
  show J _ _ _ _ (va_rf (φ.2.2 x0 9) :: _) _ _ _ _ _ _
  refine J_iconst (v := 5) d_Ref_showSlave_219 (by decide) ?_
  refine J_iload_n d_Ref_showSlave_220 rfl ?_
  refine J_imul d_Ref_showSlave_221 ?_
  refine J_iconst (v := 1) d_Ref_showSlave_222 (by decide) ?_
  refine J_iadd d_Ref_showSlave_223 ?_
  obtain ⟨a108, ha108, H⟩ := Option.bind_eq_some_iff.mp H
  rw [j_rf ha108]
  obtain ⟨N109, hN109, H⟩ := Option.bind_eq_some_iff.mp H
  obtain ⟨k110, hk110, H⟩ := Option.bind_eq_some_iff.mp H
  refine F_iald k110 hw hG d_Ref_showSlave_224 (gA_some hN109) (ix_some hk110) ?_
  refine J_aload_n d_Ref_showSlave_225 rfl ?_
  refine F_getI (ci := 12) (k := 6) hG (cf_Ref hw) (fl_Ref_348 hw) (by decide) (by decide) rfl d_Ref_showSlave_226 g107 ?_
  obtain ⟨q111, hq111, H⟩ := Option.bind_eq_some_iff.mp H
  refine J_callS (kc := 0) (ks := 0) (kc' := 0) (ks' := 0) (as := [.int ((uI φ a103 k105 y0).1 a108 k110), .int ((uI φ a103 k105 y0).1 x0 6)]) (st := [.int (x2 + (1 : Int32)), va_rf (φ.2.2 x0 34)]) (mf_Ref_tells hw) (ms_Ref_351 hw) d_Ref_showSlave_229 ln_Ref_tells (by decide) (by first | exact Nat.le_of_ble_eq_true rfl | (simp only [List.map_cons, List.map_nil, List.sum_cons, List.sum_nil, va_rf_cat]; exact Nat.le_of_ble_eq_true rfl)) rfl (p_Ref_tells hw hG hq111) ?_ (fun E h' n' x' e1 => by cases e1.1)
  intro v9 h9 n9 x9 e9
  obtain ⟨e91, e92, e93⟩ := e9
  cases e91
  subst e92
  subst e93
  clear x
  rename Bool => x
  show J _ _ _ _ (_ :: _) _ _ _ _ _ _
  refine J_if_eq (tgt := 243) d_Ref_showSlave_232 (by decide) ?_ ?_
  · intro c113
    rw [if_pos c113] at H
    refine J.drop [true, true, true, false, false, false, false, false] rfl ?_
    exact p_Ref_showSlave_L243 hw hG  H
  · intro c113
    rw [if_neg c113] at H
    refine J_iload_n d_Ref_showSlave_235 rfl ?_
    refine J_if_eq (tgt := 243) d_Ref_showSlave_236 (by decide) ?_ ?_
    · intro c112
      rw [if_pos c112] at H
      refine J.drop [true, true, true, false, false, false, false, false] rfl ?_
      exact p_Ref_showSlave_L243 hw hG  H
    · intro c112
      rw [if_neg c112] at H
      refine J_iconst (v := 1) d_Ref_showSlave_239 (by decide) ?_
      refine J_goto (tgt := 244) d_Ref_showSlave_240 (by decide) ?_
      refine J.drop [true, true, true, false, false, false, false, false] rfl ?_
      exact p_Ref_showSlave_L244 hw hG  H
def f_Ref_showSlave_L206 (Γ : gm_T)  (φ : ph_T) (x0 : Nat) (x1 : Int32) (x2 : Int32) (x3 : Int32) (y0 : Int32) (y1 : Option Nat) : Option (Unit × ph_T) :=
  f_Ref_showSlave_L207 Γ  φ x0 x1 x2 x3 (0 : Int32) y0 y1
set_option maxRecDepth 100000 in
set_option maxHeartbeats 4000000 in
theorem p_Ref_showSlave_L206 {w : jw_T} (hw : jok w) {Γ : gm_T} {n : Nat} (hG : gd w Γ n)  {x : Bool} {φ : ph_T} {x0 : Nat} {x1 : Int32} {x2 : Int32} {x3 : Int32} {y0 : Int32} {y1 : Option Nat} {q : Unit × ph_T} (H : f_Ref_showSlave_L206 Γ  φ x0 x1 x2 x3 y0 y1 = some q) : J w M_Ref_showSlave 206 [some (.ref x0), some (.int x1), some (.int x2), some (.int x3), none, none, none, none] [.int y0, va_rf y1] (pic Γ φ) n x 0 0 (fq Γ n (.inl none) q.2) := by
  unfold f_Ref_showSlave_L206 at H
  refine J_iconst (v := 0) d_Ref_showSlave_206 (by decide) ?_
  refine J.drop [true, true, true, true, false, false, false, false] rfl ?_
  exact p_Ref_showSlave_L207 hw hG  H
def f_Ref_showSlave_L158 (Γ : gm_T) (Kc105 : ph_T → Nat → Int32 → Int32 → Int32 → Int32 → Option (Unit × ph_T)) (φ : ph_T) (x0 : Nat) (x1 : Int32) (x2 : Int32) (x4 : Int32) (y0 : Int32) : Option (Unit × ph_T) :=
  Kc105 φ x0 x1 x2 y0 (x4 + (1 : Int32))
set_option maxRecDepth 100000 in
set_option maxHeartbeats 4000000 in
theorem p_Ref_showSlave_L158 {w : jw_T} (hw : jok w) {Γ : gm_T} {n : Nat} (hG : gd w Γ n) {Kc105 : ph_T → Nat → Int32 → Int32 → Int32 → Int32 → Option (Unit × ph_T)} (hKc105 : ∀ {x : Bool} {φ : ph_T} {x0 : Nat} {x1 : Int32} {x2 : Int32} {x3 : Int32} {x4 : Int32} {q : Unit × ph_T}, Kc105 φ x0 x1 x2 x3 x4 = some q → J w M_Ref_showSlave 105 [some (.ref x0), some (.int x1), some (.int x2), some (.int x3), some (.int x4), none, none, none] [] (pic Γ φ) n x 0 0 (fq Γ n (.inl none) q.2)) {x : Bool} {φ : ph_T} {x0 : Nat} {x1 : Int32} {x2 : Int32} {x4 : Int32} {y0 : Int32} {q : Unit × ph_T} (H : f_Ref_showSlave_L158 Γ Kc105 φ x0 x1 x2 x4 y0 = some q) : J w M_Ref_showSlave 158 [some (.ref x0), some (.int x1), some (.int x2), none, some (.int x4), none, none, none] [.int y0] (pic Γ φ) n x 0 0 (fq Γ n (.inl none) q.2) := by
  unfold f_Ref_showSlave_L158 at H
  refine J_istore_n d_Ref_showSlave_158 (Nat.le_of_ble_eq_true rfl) ?_
  refine J.ls (ls' := [some (.ref x0), some (.int x1), some (.int x2), some (.int y0), some (.int x4), none, none, none]) rfl ?_
  refine J_iinc (v := x4 + 1) d_Ref_showSlave_159 rfl (by rw [show Int32.ofInt 1 = (1 : Int32) from by decide]) ?_
  refine J.ls (ls' := [some (.ref x0), some (.int x1), some (.int x2), some (.int y0), some (.int (x4 + (1 : Int32))), none, none, none]) rfl ?_
  refine J_goto (tgt := 105) d_Ref_showSlave_162 (by decide) ?_
  refine J.drop [true, true, true, true, true, false, false, false] rfl ?_
  exact hKc105 H
def f_Ref_showSlave_L153 (Γ : gm_T) (Kc105 : ph_T → Nat → Int32 → Int32 → Int32 → Int32 → Option (Unit × ph_T)) (φ : ph_T) (x0 : Nat) (x1 : Int32) (x2 : Int32) (x4 : Int32) : Option (Unit × ph_T) :=
  f_Ref_showSlave_L158 Γ Kc105 φ x0 x1 x2 x4 (1 : Int32)
set_option maxRecDepth 100000 in
set_option maxHeartbeats 4000000 in
theorem p_Ref_showSlave_L153 {w : jw_T} (hw : jok w) {Γ : gm_T} {n : Nat} (hG : gd w Γ n) {Kc105 : ph_T → Nat → Int32 → Int32 → Int32 → Int32 → Option (Unit × ph_T)} (hKc105 : ∀ {x : Bool} {φ : ph_T} {x0 : Nat} {x1 : Int32} {x2 : Int32} {x3 : Int32} {x4 : Int32} {q : Unit × ph_T}, Kc105 φ x0 x1 x2 x3 x4 = some q → J w M_Ref_showSlave 105 [some (.ref x0), some (.int x1), some (.int x2), some (.int x3), some (.int x4), none, none, none] [] (pic Γ φ) n x 0 0 (fq Γ n (.inl none) q.2)) {x : Bool} {φ : ph_T} {x0 : Nat} {x1 : Int32} {x2 : Int32} {x4 : Int32} {q : Unit × ph_T} (H : f_Ref_showSlave_L153 Γ Kc105 φ x0 x1 x2 x4 = some q) : J w M_Ref_showSlave 153 [some (.ref x0), some (.int x1), some (.int x2), none, some (.int x4), none, none, none] [] (pic Γ φ) n x 0 0 (fq Γ n (.inl none) q.2) := by
  unfold f_Ref_showSlave_L153 at H
  refine J_iconst (v := 1) d_Ref_showSlave_153 (by decide) ?_
  refine J_goto (tgt := 158) d_Ref_showSlave_154 (by decide) ?_
  refine J.drop [true, true, true, false, true, false, false, false] rfl ?_
  exact p_Ref_showSlave_L158 hw hG hKc105 H
def f_Ref_showSlave_L105 (Γ : gm_T)  : Nat → ph_T → Nat → Int32 → Int32 → Int32 → Int32 → Option (Unit × ph_T)
  | 0, _, _, _, _, _, _ => none
  | fu + 1, φ, x0, x1, x2, x3, x4 =>
    @ite _ (Γ x0 = .inr 12) _ (
    Option.bind (φ.2.2 x0 58) fun a115 =>
    Option.bind (gA Γ a115 0) fun N116 =>
    Option.bind (ix x1 N116) fun k117 =>
    if (φ.1 a115 k117) ≤ x4 then
      Option.bind (φ.2.2 x0 9) fun a118 =>
      Option.bind (gA Γ a118 0) fun N119 =>
      Option.bind (ix (((5 : Int32) * x1) + (0 : Int32)) N119) fun k120 =>
      Option.bind (f_Ref_tells Γ φ (φ.1 a118 k120) (φ.1 x0 6)) fun q121 =>
      if q121.1 = 0 then
        f_Ref_showSlave_L206 Γ  q121.2 x0 x1 x2 x3 (x2 + (0 : Int32)) (φ.2.2 x0 34)
      else
        Option.bind (q121.2.2.2 x0 58) fun a122 =>
        Option.bind (gA Γ a122 0) fun N123 =>
        Option.bind (ix x1 N123) fun k124 =>
        if (4 : Int32) ≤ (q121.2.1 a122 k124) then
          f_Ref_showSlave_L206 Γ  q121.2 x0 x1 x2 x3 (x2 + (0 : Int32)) (φ.2.2 x0 34)
        else
          f_Ref_showSlave_L207 Γ  q121.2 x0 x1 x2 x3 (1 : Int32) (x2 + (0 : Int32)) (φ.2.2 x0 34)
    else
      Option.bind (φ.2.2 x0 59) fun a127 =>
      Option.bind (gA Γ a127 0) fun N128 =>
      Option.bind (ix (((4 : Int32) * x1) + x4) N128) fun k129 =>
      if x3 = 0 then
        Option.bind (φ.2.2 x0 62) fun a130 =>
        Option.bind (gA Γ a130 0) fun N131 =>
        Option.bind (ix (φ.1 a127 k129) N131) fun k132 =>
        Option.bind (φ.2.2 x0 61) fun a133 =>
        Option.bind (gA Γ a133 1) fun N134 =>
        Option.bind (ix (φ.1 a127 k129) N134) fun k135 =>
        Option.bind (f_Ref_lengthOf Γ φ (φ.2.1 a133 k135)) fun q136 =>
        if q136.1 ≤ (φ.1 a130 k132) then
          f_Ref_showSlave_L158 Γ (f_Ref_showSlave_L105 Γ  fu) q136.2 x0 x1 x2 x4 (0 : Int32)
        else
          f_Ref_showSlave_L153 Γ (f_Ref_showSlave_L105 Γ  fu) q136.2 x0 x1 x2 x4
      else
        f_Ref_showSlave_L153 Γ (f_Ref_showSlave_L105 Γ  fu) φ x0 x1 x2 x4
    ) none
set_option maxRecDepth 100000 in
set_option maxHeartbeats 4000000 in
theorem p_Ref_showSlave_L105 {w : jw_T} (hw : jok w) {Γ : gm_T} {n : Nat} (hG : gd w Γ n)  : ∀ (fu : Nat) {x : Bool} {φ : ph_T} {x0 : Nat} {x1 : Int32} {x2 : Int32} {x3 : Int32} {x4 : Int32} {q : Unit × ph_T}, f_Ref_showSlave_L105 Γ  fu φ x0 x1 x2 x3 x4 = some q → J w M_Ref_showSlave 105 [some (.ref x0), some (.int x1), some (.int x2), some (.int x3), some (.int x4), none, none, none] [] (pic Γ φ) n x 0 0 (fq Γ n (.inl none) q.2) := by
  intro fu
  induction fu with
  | zero =>
    intro x φ x0 x1 x2 x3 x4 q H
    cases H
  | succ fu ih =>
    intro x φ x0 x1 x2 x3 x4 q H
    unfold f_Ref_showSlave_L105 at H
    refine J_iload d_Ref_showSlave_105 rfl ?_
    refine J_aload_n d_Ref_showSlave_107 rfl ?_
    have g114 : Γ x0 = .inr 12 := by
      apply Classical.byContradiction
      intro q9
      rw [if_neg q9] at H
      cases H
    rw [if_pos g114] at H
    refine F_getR (ci := 12) (k := 58) hG (cf_Ref hw) (fl_Ref_154 hw) (by decide) (by decide) rfl d_Ref_showSlave_108 g114 ?_
    refine J_iload_n d_Ref_showSlave_111 rfl ?_
    obtain ⟨a115, ha115, H⟩ := Option.bind_eq_some_iff.mp H
    rw [j_rf ha115]
    obtain ⟨N116, hN116, H⟩ := Option.bind_eq_some_iff.mp H
    obtain ⟨k117, hk117, H⟩ := Option.bind_eq_some_iff.mp H
    refine F_iald k117 hw hG d_Ref_showSlave_112 (gA_some hN116) (ix_some hk117) ?_
    refine J_icmp_ge (tgt := 165) d_Ref_showSlave_113 (by decide) ?_ ?_
    · intro c139
      rw [if_pos c139] at H
      refine J_aload_n d_Ref_showSlave_165 rfl ?_
      refine F_getR (ci := 12) (k := 34) hG (cf_Ref hw) (fl_Ref_91 hw) (by decide) (by decide) rfl d_Ref_showSlave_166 g114 ?_
      refine J_iload_n d_Ref_showSlave_169 rfl ?_
      refine J_iconst (v := 0) d_Ref_showSlave_170 (by decide) ?_
      refine J_iadd d_Ref_showSlave_171 ?_
      refine J_aload_n d_Ref_showSlave_172 rfl ?_
      refine F_getR (ci := 12) (k := 9) hG (cf_Ref hw) (fl_Ref_16 hw) (by decide) (by decide) rfl d_Ref_showSlave_173 g114 ?_
      refine J_iconst (v := 5) d_Ref_showSlave_176 (by decide) ?_
      refine J_iload_n d_Ref_showSlave_177 rfl ?_
      refine J_imul d_Ref_showSlave_178 ?_
      refine J_iconst (v := 0) d_Ref_showSlave_179 (by decide) ?_
      refine J_iadd d_Ref_showSlave_180 ?_
      obtain ⟨a118, ha118, H⟩ := Option.bind_eq_some_iff.mp H
      rw [j_rf ha118]
      obtain ⟨N119, hN119, H⟩ := Option.bind_eq_some_iff.mp H
      obtain ⟨k120, hk120, H⟩ := Option.bind_eq_some_iff.mp H
      refine F_iald k120 hw hG d_Ref_showSlave_181 (gA_some hN119) (ix_some hk120) ?_
      refine J_aload_n d_Ref_showSlave_182 rfl ?_
      refine F_getI (ci := 12) (k := 6) hG (cf_Ref hw) (fl_Ref_348 hw) (by decide) (by decide) rfl d_Ref_showSlave_183 g114 ?_
      obtain ⟨q121, hq121, H⟩ := Option.bind_eq_some_iff.mp H
      refine J_callS (kc := 0) (ks := 0) (kc' := 0) (ks' := 0) (as := [.int (φ.1 a118 k120), .int (φ.1 x0 6)]) (st := [.int (x2 + (0 : Int32)), va_rf (φ.2.2 x0 34)]) (mf_Ref_tells hw) (ms_Ref_351 hw) d_Ref_showSlave_186 ln_Ref_tells (by decide) (by first | exact Nat.le_of_ble_eq_true rfl | (simp only [List.map_cons, List.map_nil, List.sum_cons, List.sum_nil, va_rf_cat]; exact Nat.le_of_ble_eq_true rfl)) rfl (p_Ref_tells hw hG hq121) ?_ (fun E h' n' x' e1 => by cases e1.1)
      intro v9 h9 n9 x9 e9
      obtain ⟨e91, e92, e93⟩ := e9
      cases e91
      subst e92
      subst e93
      clear x
      rename Bool => x
      show J _ _ _ _ (_ :: _) _ _ _ _ _ _
      refine J_if_eq (tgt := 206) d_Ref_showSlave_189 (by decide) ?_ ?_
      · intro c126
        rw [if_pos c126] at H
        refine J.drop [true, true, true, true, false, false, false, false] rfl ?_
        exact p_Ref_showSlave_L206 hw hG  H
      · intro c126
        rw [if_neg c126] at H
        refine J_aload_n d_Ref_showSlave_192 rfl ?_
        refine F_getR (ci := 12) (k := 58) hG (cf_Ref hw) (fl_Ref_154 hw) (by decide) (by decide) rfl d_Ref_showSlave_193 g114 ?_
        refine J_iload_n d_Ref_showSlave_196 rfl ?_
        obtain ⟨a122, ha122, H⟩ := Option.bind_eq_some_iff.mp H
        rw [j_rf ha122]
        obtain ⟨N123, hN123, H⟩ := Option.bind_eq_some_iff.mp H
        obtain ⟨k124, hk124, H⟩ := Option.bind_eq_some_iff.mp H
        refine F_iald k124 hw hG d_Ref_showSlave_197 (gA_some hN123) (ix_some hk124) ?_
        refine J_iconst (v := 4) d_Ref_showSlave_198 (by decide) ?_
        refine J_icmp_ge (tgt := 206) d_Ref_showSlave_199 (by decide) ?_ ?_
        · intro c125
          rw [if_pos c125] at H
          refine J.drop [true, true, true, true, false, false, false, false] rfl ?_
          exact p_Ref_showSlave_L206 hw hG  H
        · intro c125
          rw [if_neg c125] at H
          refine J_iconst (v := 1) d_Ref_showSlave_202 (by decide) ?_
          refine J_goto (tgt := 207) d_Ref_showSlave_203 (by decide) ?_
          refine J.drop [true, true, true, true, false, false, false, false] rfl ?_
          exact p_Ref_showSlave_L207 hw hG  H
    · intro c139
      rw [if_neg c139] at H
      refine J_aload_n d_Ref_showSlave_116 rfl ?_
      refine F_getR (ci := 12) (k := 59) hG (cf_Ref hw) (fl_Ref_157 hw) (by decide) (by decide) rfl d_Ref_showSlave_117 g114 ?_
      refine J_iconst (v := 4) d_Ref_showSlave_120 (by decide) ?_
      refine J_iload_n d_Ref_showSlave_121 rfl ?_
      refine J_imul d_Ref_showSlave_122 ?_
      refine J_iload d_Ref_showSlave_123 rfl ?_
      refine J_iadd d_Ref_showSlave_125 ?_
      obtain ⟨a127, ha127, H⟩ := Option.bind_eq_some_iff.mp H
      rw [j_rf ha127]
      obtain ⟨N128, hN128, H⟩ := Option.bind_eq_some_iff.mp H
      obtain ⟨k129, hk129, H⟩ := Option.bind_eq_some_iff.mp H
      refine F_iald k129 hw hG d_Ref_showSlave_126 (gA_some hN128) (ix_some hk129) ?_
      refine J_istore d_Ref_showSlave_127 (Nat.le_of_ble_eq_true rfl) ?_
      refine J.ls (ls' := [some (.ref x0), some (.int x1), some (.int x2), some (.int x3), some (.int x4), some (.int (φ.1 a127 k129)), none, none]) rfl ?_
      refine J_iload_n d_Ref_showSlave_129 rfl ?_
      refine J_if_ne (tgt := 153) d_Ref_showSlave_130 (by decide) ?_ ?_
      · intro c138
        rw [if_neg c138] at H
        refine J.drop [true, true, true, false, true, false, false, false] rfl ?_
        exact p_Ref_showSlave_L153 hw hG ih H
      · intro c138
        rw [if_pos c138] at H
        refine J_aload_n d_Ref_showSlave_133 rfl ?_
        refine F_getR (ci := 12) (k := 62) hG (cf_Ref hw) (fl_Ref_166 hw) (by decide) (by decide) rfl d_Ref_showSlave_134 g114 ?_
        refine J_iload d_Ref_showSlave_137 rfl ?_
        obtain ⟨a130, ha130, H⟩ := Option.bind_eq_some_iff.mp H
        rw [j_rf ha130]
        obtain ⟨N131, hN131, H⟩ := Option.bind_eq_some_iff.mp H
        obtain ⟨k132, hk132, H⟩ := Option.bind_eq_some_iff.mp H
        refine F_iald k132 hw hG d_Ref_showSlave_139 (gA_some hN131) (ix_some hk132) ?_
        refine J_aload_n d_Ref_showSlave_140 rfl ?_
        refine F_getR (ci := 12) (k := 61) hG (cf_Ref hw) (fl_Ref_163 hw) (by decide) (by decide) rfl d_Ref_showSlave_141 g114 ?_
        refine J_iload d_Ref_showSlave_144 rfl ?_
        obtain ⟨a133, ha133, H⟩ := Option.bind_eq_some_iff.mp H
        rw [j_rf ha133]
        obtain ⟨N134, hN134, H⟩ := Option.bind_eq_some_iff.mp H
        obtain ⟨k135, hk135, H⟩ := Option.bind_eq_some_iff.mp H
        refine F_lald k135 hw hG d_Ref_showSlave_146 (gA_some hN134) (ix_some hk135) ?_
        obtain ⟨q136, hq136, H⟩ := Option.bind_eq_some_iff.mp H
        refine J_callS (kc := 0) (ks := 0) (kc' := 0) (ks' := 0) (as := [.long (φ.2.1 a133 k135)]) (st := [.int (φ.1 a130 k132)]) (mf_Ref_lengthOf hw) (ms_Ref_321 hw) d_Ref_showSlave_147 ln_Ref_lengthOf (by decide) (by first | exact Nat.le_of_ble_eq_true rfl | (simp only [List.map_cons, List.map_nil, List.sum_cons, List.sum_nil, va_rf_cat]; exact Nat.le_of_ble_eq_true rfl)) rfl (p_Ref_lengthOf hw hG hq136) ?_ (fun E h' n' x' e1 => by cases e1.1)
        intro v9 h9 n9 x9 e9
        obtain ⟨e91, e92, e93⟩ := e9
        cases e91
        subst e92
        subst e93
        clear x
        rename Bool => x
        show J _ _ _ _ (_ :: _) _ _ _ _ _ _
        refine J_icmp_ge (tgt := 157) d_Ref_showSlave_150 (by decide) ?_ ?_
        · intro c137
          rw [if_pos c137] at H
          refine J_iconst (v := 0) d_Ref_showSlave_157 (by decide) ?_
          refine J.drop [true, true, true, false, true, false, false, false] rfl ?_
          exact p_Ref_showSlave_L158 hw hG ih H
        · intro c137
          rw [if_neg c137] at H
          refine J.drop [true, true, true, false, true, false, false, false] rfl ?_
          exact p_Ref_showSlave_L153 hw hG ih H
def f_Ref_showSlave_L94 (Γ : gm_T) (Kc8 : ph_T → Nat → Int32 → Int32 → Int32 → Option (Unit × ph_T)) (φ : ph_T) (x0 : Nat) (x1 : Int32) (x2 : Int32) (x3 : Int32) : Option (Unit × ph_T) :=
  Kc8 φ x0 x1 x2 (x3 + (1 : Int32))
set_option maxRecDepth 100000 in
set_option maxHeartbeats 4000000 in
theorem p_Ref_showSlave_L94 {w : jw_T} (hw : jok w) {Γ : gm_T} {n : Nat} (hG : gd w Γ n) {Kc8 : ph_T → Nat → Int32 → Int32 → Int32 → Option (Unit × ph_T)} (hKc8 : ∀ {x : Bool} {φ : ph_T} {x0 : Nat} {x1 : Int32} {x2 : Int32} {x3 : Int32} {q : Unit × ph_T}, Kc8 φ x0 x1 x2 x3 = some q → J w M_Ref_showSlave 8 [some (.ref x0), some (.int x1), some (.int x2), some (.int x3), none, none, none, none] [] (pic Γ φ) n x 0 0 (fq Γ n (.inl none) q.2)) {x : Bool} {φ : ph_T} {x0 : Nat} {x1 : Int32} {x2 : Int32} {x3 : Int32} {q : Unit × ph_T} (H : f_Ref_showSlave_L94 Γ Kc8 φ x0 x1 x2 x3 = some q) : J w M_Ref_showSlave 94 [some (.ref x0), some (.int x1), some (.int x2), some (.int x3), none, none, none, none] [] (pic Γ φ) n x 0 0 (fq Γ n (.inl none) q.2) := by
  unfold f_Ref_showSlave_L94 at H
  refine J_iinc (v := x3 + 1) d_Ref_showSlave_94 rfl (by rw [show Int32.ofInt 1 = (1 : Int32) from by decide]) ?_
  refine J.ls (ls' := [some (.ref x0), some (.int x1), some (.int x2), some (.int (x3 + (1 : Int32))), none, none, none, none]) rfl ?_
  refine J_goto (tgt := 8) d_Ref_showSlave_97 (by decide) ?_
  refine J.drop [true, true, true, true, false, false, false, false] rfl ?_
  exact hKc8 H
def f_Ref_showSlave_L73 (Γ : gm_T) (Kc8 : ph_T → Nat → Int32 → Int32 → Int32 → Option (Unit × ph_T)) (φ : ph_T) (x0 : Nat) (x1 : Int32) (x2 : Int32) (x3 : Int32) (x4 : Int32) (y0 : Int32) (y1 : Int32) (y2 : Nat) : Option (Unit × ph_T) :=
  @ite _ (Γ x0 = .inr 12) _ (
  Option.bind (φ.2.2 x0 39) fun a141 =>
  Option.bind (gA Γ a141 1) fun N142 =>
  Option.bind (ix ((4 : Int32) * x4) N142) fun k143 =>
  Option.bind (φ.2.2 x0 40) fun a144 =>
  Option.bind (gA Γ a144 0) fun N145 =>
  Option.bind (ix ((4 : Int32) * x4) N145) fun k146 =>
  @ite _ (Γ y2 = .inr 12) _ (
  Option.bind (f_Ref_show Γ φ y2 y1 y0 (φ.2.1 a141 k143) (φ.1 a144 k146)) fun q148 =>
  f_Ref_showSlave_L94 Γ Kc8 q148.2 x0 x1 x2 x3
  ) none
  ) none
set_option maxRecDepth 100000 in
set_option maxHeartbeats 4000000 in
theorem p_Ref_showSlave_L73 {w : jw_T} (hw : jok w) {Γ : gm_T} {n : Nat} (hG : gd w Γ n) {Kc8 : ph_T → Nat → Int32 → Int32 → Int32 → Option (Unit × ph_T)} (hKc8 : ∀ {x : Bool} {φ : ph_T} {x0 : Nat} {x1 : Int32} {x2 : Int32} {x3 : Int32} {q : Unit × ph_T}, Kc8 φ x0 x1 x2 x3 = some q → J w M_Ref_showSlave 8 [some (.ref x0), some (.int x1), some (.int x2), some (.int x3), none, none, none, none] [] (pic Γ φ) n x 0 0 (fq Γ n (.inl none) q.2)) {x : Bool} {φ : ph_T} {x0 : Nat} {x1 : Int32} {x2 : Int32} {x3 : Int32} {x4 : Int32} {y0 : Int32} {y1 : Int32} {y2 : Nat} {q : Unit × ph_T} (H : f_Ref_showSlave_L73 Γ Kc8 φ x0 x1 x2 x3 x4 y0 y1 y2 = some q) : J w M_Ref_showSlave 73 [some (.ref x0), some (.int x1), some (.int x2), some (.int x3), some (.int x4), none, none, none] [.int y0, .int y1, .ref y2] (pic Γ φ) n x 0 0 (fq Γ n (.inl none) q.2) := by
  unfold f_Ref_showSlave_L73 at H
  refine J_aload_n d_Ref_showSlave_73 rfl ?_
  have g140 : Γ x0 = .inr 12 := by
    apply Classical.byContradiction
    intro q9
    rw [if_neg q9] at H
    cases H
  rw [if_pos g140] at H
  refine F_getR (ci := 12) (k := 39) hG (cf_Ref hw) (fl_Ref_106 hw) (by decide) (by decide) rfl d_Ref_showSlave_74 g140 ?_
  refine J_iconst (v := 4) d_Ref_showSlave_77 (by decide) ?_
  refine J_iload d_Ref_showSlave_78 rfl ?_
  refine J_imul d_Ref_showSlave_80 ?_
  obtain ⟨a141, ha141, H⟩ := Option.bind_eq_some_iff.mp H
  rw [j_rf ha141]
  obtain ⟨N142, hN142, H⟩ := Option.bind_eq_some_iff.mp H
  obtain ⟨k143, hk143, H⟩ := Option.bind_eq_some_iff.mp H
  refine F_lald k143 hw hG d_Ref_showSlave_81 (gA_some hN142) (ix_some hk143) ?_
  refine J_aload_n d_Ref_showSlave_82 rfl ?_
  refine F_getR (ci := 12) (k := 40) hG (cf_Ref hw) (fl_Ref_109 hw) (by decide) (by decide) rfl d_Ref_showSlave_83 g140 ?_
  refine J_iconst (v := 4) d_Ref_showSlave_86 (by decide) ?_
  refine J_iload d_Ref_showSlave_87 rfl ?_
  refine J_imul d_Ref_showSlave_89 ?_
  obtain ⟨a144, ha144, H⟩ := Option.bind_eq_some_iff.mp H
  rw [j_rf ha144]
  obtain ⟨N145, hN145, H⟩ := Option.bind_eq_some_iff.mp H
  obtain ⟨k146, hk146, H⟩ := Option.bind_eq_some_iff.mp H
  refine F_iald k146 hw hG d_Ref_showSlave_90 (gA_some hN145) (ix_some hk146) ?_
  have g147 : Γ y2 = .inr 12 := by
    apply Classical.byContradiction
    intro q9
    rw [if_neg q9] at H
    cases H
  rw [if_pos g147] at H
  obtain ⟨q148, hq148, H⟩ := Option.bind_eq_some_iff.mp H
  refine J_callV (kc := 0) (ks := 0) (kc' := 0) (ks' := 0) (a := y2) (ci := 12) (as := [.int y1, .int y0, .long (φ.2.1 a141 k143), .int (φ.1 a144 k146)]) (st := []) (mf_Ref_show hw) (mv_Ref_359 hw) d_Ref_showSlave_91 ln_Ref_show (by decide) (by first | exact Nat.le_of_ble_eq_true rfl | (simp only [List.map_cons, List.map_nil, List.sum_cons, List.sum_nil, va_rf_cat]; exact Nat.le_of_ble_eq_true rfl)) rfl ((hG _).1 _ g147 (by decide)).1 ((hG _).1 _ g147 (by decide)).2 (by unfold pic; rw [g147]; rfl) (jcl_at hw rfl) rfl (p_Ref_show hw hG hq148) ?_ (fun E h' n' x' e1 => by cases e1.1)
  intro v9 h9 n9 x9 e9
  obtain ⟨e91, e92, e93⟩ := e9
  cases e91
  subst e92
  subst e93
  clear x
  rename Bool => x
  show J _ _ _ _ [] _ _ _ _ _ _
  refine J.drop [true, true, true, true, false, false, false, false] rfl ?_
  exact p_Ref_showSlave_L94 hw hG hKc8 H
def f_Ref_showSlave_L23 (Γ : gm_T) (Kc8 : ph_T → Nat → Int32 → Int32 → Int32 → Option (Unit × ph_T)) (φ : ph_T) (x0 : Nat) (x1 : Int32) (x2 : Int32) (x3 : Int32) : Option (Unit × ph_T) :=
  @ite _ (Γ x0 = .inr 12) _ (
  Option.bind (f_Ref_rowOf Γ φ x0 (1 : Int32) x1 x3) fun q150 =>
  Option.bind (f_Ref_hasRoom Γ q150.2 x0 q150.1) fun q151 =>
  Option.bind (φ.2.2 x0 34) fun a152 =>
  Option.bind (gA Γ a152 2) fun N153 =>
  Option.bind (ix (x2 + x3) N153) fun k154 =>
  @ite _ (q151.1 = 0 ∨ q151.1 = 1) _ (
  f_Ref_showSlave_L94 Γ Kc8 (uI q151.2 a152 k154 q151.1) x0 x1 x2 x3
  ) none
  ) none
set_option maxRecDepth 100000 in
set_option maxHeartbeats 4000000 in
theorem p_Ref_showSlave_L23 {w : jw_T} (hw : jok w) {Γ : gm_T} {n : Nat} (hG : gd w Γ n) {Kc8 : ph_T → Nat → Int32 → Int32 → Int32 → Option (Unit × ph_T)} (hKc8 : ∀ {x : Bool} {φ : ph_T} {x0 : Nat} {x1 : Int32} {x2 : Int32} {x3 : Int32} {q : Unit × ph_T}, Kc8 φ x0 x1 x2 x3 = some q → J w M_Ref_showSlave 8 [some (.ref x0), some (.int x1), some (.int x2), some (.int x3), none, none, none, none] [] (pic Γ φ) n x 0 0 (fq Γ n (.inl none) q.2)) {x : Bool} {φ : ph_T} {x0 : Nat} {x1 : Int32} {x2 : Int32} {x3 : Int32} {q : Unit × ph_T} (H : f_Ref_showSlave_L23 Γ Kc8 φ x0 x1 x2 x3 = some q) : J w M_Ref_showSlave 23 [some (.ref x0), some (.int x1), some (.int x2), some (.int x3), none, none, none, none] [] (pic Γ φ) n x 0 0 (fq Γ n (.inl none) q.2) := by
  unfold f_Ref_showSlave_L23 at H
  refine J_aload_n d_Ref_showSlave_23 rfl ?_
  have g149 : Γ x0 = .inr 12 := by
    apply Classical.byContradiction
    intro q9
    rw [if_neg q9] at H
    cases H
  rw [if_pos g149] at H
  refine F_getR (ci := 12) (k := 34) hG (cf_Ref hw) (fl_Ref_91 hw) (by decide) (by decide) rfl d_Ref_showSlave_24 g149 ?_
  refine J_iload_n d_Ref_showSlave_27 rfl ?_
  refine J_iload_n d_Ref_showSlave_28 rfl ?_
  refine J_iadd d_Ref_showSlave_29 ?_
  refine J_aload_n d_Ref_showSlave_30 rfl ?_
  refine J_aload_n d_Ref_showSlave_31 rfl ?_
  refine J_iconst (v := 1) d_Ref_showSlave_32 (by decide) ?_
  refine J_iload_n d_Ref_showSlave_33 rfl ?_
  refine J_iload_n d_Ref_showSlave_34 rfl ?_
  obtain ⟨q150, hq150, H⟩ := Option.bind_eq_some_iff.mp H
  refine J_callV (kc := 0) (ks := 0) (kc' := 0) (ks' := 0) (a := x0) (ci := 12) (as := [.int (1 : Int32), .int x1, .int x3]) (st := [.ref x0, .int (x2 + x3), va_rf (φ.2.2 x0 34)]) (mf_Ref_rowOf hw) (mv_Ref_388 hw) d_Ref_showSlave_35 ln_Ref_rowOf (by decide) (by first | exact Nat.le_of_ble_eq_true rfl | (simp only [List.map_cons, List.map_nil, List.sum_cons, List.sum_nil, va_rf_cat]; exact Nat.le_of_ble_eq_true rfl)) rfl ((hG _).1 _ g149 (by decide)).1 ((hG _).1 _ g149 (by decide)).2 (by unfold pic; rw [g149]; rfl) (jcl_at hw rfl) rfl (p_Ref_rowOf hw hG hq150) ?_ (fun E h' n' x' e1 => by cases e1.1)
  intro v9 h9 n9 x9 e9
  obtain ⟨e91, e92, e93⟩ := e9
  cases e91
  subst e92
  subst e93
  clear x
  rename Bool => x
  show J _ _ _ _ (_ :: _) _ _ _ _ _ _
  obtain ⟨q151, hq151, H⟩ := Option.bind_eq_some_iff.mp H
  refine J_callV (kc := 0) (ks := 0) (kc' := 0) (ks' := 0) (a := x0) (ci := 12) (as := [.int q150.1]) (st := [.int (x2 + x3), va_rf (φ.2.2 x0 34)]) (mf_Ref_hasRoom hw) (mv_Ref_392 hw) d_Ref_showSlave_38 ln_Ref_hasRoom (by decide) (by first | exact Nat.le_of_ble_eq_true rfl | (simp only [List.map_cons, List.map_nil, List.sum_cons, List.sum_nil, va_rf_cat]; exact Nat.le_of_ble_eq_true rfl)) rfl ((hG _).1 _ g149 (by decide)).1 ((hG _).1 _ g149 (by decide)).2 (by unfold pic; rw [g149]; rfl) (jcl_at hw rfl) rfl (p_Ref_hasRoom hw hG hq151) ?_ (fun E h' n' x' e1 => by cases e1.1)
  intro v9 h9 n9 x9 e9
  obtain ⟨e91, e92, e93⟩ := e9
  cases e91
  subst e92
  subst e93
  clear x
  rename Bool => x
  show J _ _ _ _ (_ :: _) _ _ _ _ _ _
  obtain ⟨a152, ha152, H⟩ := Option.bind_eq_some_iff.mp H
  rw [j_rf ha152]
  obtain ⟨N153, hN153, H⟩ := Option.bind_eq_some_iff.mp H
  obtain ⟨k154, hk154, H⟩ := Option.bind_eq_some_iff.mp H
  have z155 : q151.1 = 0 ∨ q151.1 = 1 := by
    apply Classical.byContradiction
    intro q9
    rw [if_neg q9] at H
    cases H
  rw [if_pos z155] at H
  refine F_zast k154 hw hG d_Ref_showSlave_41 (gA_some hN153) (ix_some hk154) z155 ?_
  refine J_goto (tgt := 94) d_Ref_showSlave_42 (by decide) ?_
  refine J.drop [true, true, true, true, false, false, false, false] rfl ?_
  exact p_Ref_showSlave_L94 hw hG hKc8 H
def f_Ref_showSlave_L8 (Γ : gm_T)  : Nat → ph_T → Nat → Int32 → Int32 → Int32 → Option (Unit × ph_T)
  | 0, _, _, _, _, _ => none
  | fu + 1, φ, x0, x1, x2, x3 =>
    if (5 : Int32) ≤ x3 then
      f_Ref_showSlave_L105 Γ  jF φ x0 x1 x2 (0 : Int32) (0 : Int32)
    else
      if x3 = (2 : Int32) then
        f_Ref_showSlave_L23 Γ (f_Ref_showSlave_L8 Γ  fu) φ x0 x1 x2 x3
      else
        if x3 = (4 : Int32) then
          f_Ref_showSlave_L23 Γ (f_Ref_showSlave_L8 Γ  fu) φ x0 x1 x2 x3
        else
          @ite _ (Γ x0 = .inr 12) _ (
          Option.bind (f_Ref_rowOf Γ φ x0 (1 : Int32) x1 x3) fun q157 =>
          Option.bind (q157.2.2.2 x0 42) fun a158 =>
          Option.bind (gA Γ a158 0) fun N159 =>
          Option.bind (ix q157.1 N159) fun k160 =>
          if (q157.2.1 a158 k160) ≤ 0 then
            f_Ref_showSlave_L73 Γ (f_Ref_showSlave_L8 Γ  fu) q157.2 x0 x1 x2 x3 q157.1 (0 : Int32) (x2 + x3) x0
          else
            f_Ref_showSlave_L73 Γ (f_Ref_showSlave_L8 Γ  fu) q157.2 x0 x1 x2 x3 q157.1 (1 : Int32) (x2 + x3) x0
          ) none
set_option maxRecDepth 100000 in
set_option maxHeartbeats 4000000 in
theorem p_Ref_showSlave_L8 {w : jw_T} (hw : jok w) {Γ : gm_T} {n : Nat} (hG : gd w Γ n)  : ∀ (fu : Nat) {x : Bool} {φ : ph_T} {x0 : Nat} {x1 : Int32} {x2 : Int32} {x3 : Int32} {q : Unit × ph_T}, f_Ref_showSlave_L8 Γ  fu φ x0 x1 x2 x3 = some q → J w M_Ref_showSlave 8 [some (.ref x0), some (.int x1), some (.int x2), some (.int x3), none, none, none, none] [] (pic Γ φ) n x 0 0 (fq Γ n (.inl none) q.2) := by
  intro fu
  induction fu with
  | zero =>
    intro x φ x0 x1 x2 x3 q H
    cases H
  | succ fu ih =>
    intro x φ x0 x1 x2 x3 q H
    unfold f_Ref_showSlave_L8 at H
    refine J_iload_n d_Ref_showSlave_8 rfl ?_
    refine J_iconst (v := 5) d_Ref_showSlave_9 (by decide) ?_
    refine J_icmp_ge (tgt := 100) d_Ref_showSlave_10 (by decide) ?_ ?_
    · intro c164
      rw [if_pos c164] at H
      refine J_iconst (v := 0) d_Ref_showSlave_100 (by decide) ?_
      refine J_istore_n d_Ref_showSlave_101 (Nat.le_of_ble_eq_true rfl) ?_
      refine J.ls (ls' := [some (.ref x0), some (.int x1), some (.int x2), some (.int (0 : Int32)), none, none, none, none]) rfl ?_
      refine J_iconst (v := 0) d_Ref_showSlave_102 (by decide) ?_
      refine J_istore d_Ref_showSlave_103 (Nat.le_of_ble_eq_true rfl) ?_
      refine J.ls (ls' := [some (.ref x0), some (.int x1), some (.int x2), some (.int (0 : Int32)), some (.int (0 : Int32)), none, none, none]) rfl ?_
      refine J.drop [true, true, true, true, true, false, false, false] rfl ?_
      exact p_Ref_showSlave_L105 hw hG  _ H
    · intro c164
      rw [if_neg c164] at H
      refine J_iload_n d_Ref_showSlave_13 rfl ?_
      refine J_iconst (v := 2) d_Ref_showSlave_14 (by decide) ?_
      refine J_icmp_eq (tgt := 23) d_Ref_showSlave_15 (by decide) ?_ ?_
      · intro c163
        rw [if_pos c163] at H
        refine J.drop [true, true, true, true, false, false, false, false] rfl ?_
        exact p_Ref_showSlave_L23 hw hG ih H
      · intro c163
        rw [if_neg c163] at H
        refine J_iload_n d_Ref_showSlave_18 rfl ?_
        refine J_iconst (v := 4) d_Ref_showSlave_19 (by decide) ?_
        refine J_icmp_ne (tgt := 45) d_Ref_showSlave_20 (by decide) ?_ ?_
        · intro c162
          rw [if_neg c162] at H
          refine J_aload_n d_Ref_showSlave_45 rfl ?_
          refine J_iconst (v := 1) d_Ref_showSlave_46 (by decide) ?_
          refine J_iload_n d_Ref_showSlave_47 rfl ?_
          refine J_iload_n d_Ref_showSlave_48 rfl ?_
          have g156 : Γ x0 = .inr 12 := by
            apply Classical.byContradiction
            intro q9
            rw [if_neg q9] at H
            cases H
          rw [if_pos g156] at H
          obtain ⟨q157, hq157, H⟩ := Option.bind_eq_some_iff.mp H
          refine J_callV (kc := 0) (ks := 0) (kc' := 0) (ks' := 0) (a := x0) (ci := 12) (as := [.int (1 : Int32), .int x1, .int x3]) (st := []) (mf_Ref_rowOf hw) (mv_Ref_388 hw) d_Ref_showSlave_49 ln_Ref_rowOf (by decide) (by first | exact Nat.le_of_ble_eq_true rfl | (simp only [List.map_cons, List.map_nil, List.sum_cons, List.sum_nil, va_rf_cat]; exact Nat.le_of_ble_eq_true rfl)) rfl ((hG _).1 _ g156 (by decide)).1 ((hG _).1 _ g156 (by decide)).2 (by unfold pic; rw [g156]; rfl) (jcl_at hw rfl) rfl (p_Ref_rowOf hw hG hq157) ?_ (fun E h' n' x' e1 => by cases e1.1)
          intro v9 h9 n9 x9 e9
          obtain ⟨e91, e92, e93⟩ := e9
          cases e91
          subst e92
          subst e93
          clear x
          rename Bool => x
          show J _ _ _ _ (_ :: _) _ _ _ _ _ _
          refine J_istore d_Ref_showSlave_52 (Nat.le_of_ble_eq_true rfl) ?_
          refine J.ls (ls' := [some (.ref x0), some (.int x1), some (.int x2), some (.int x3), some (.int q157.1), none, none, none]) rfl ?_
          refine J_aload_n d_Ref_showSlave_54 rfl ?_
          refine J_iload_n d_Ref_showSlave_55 rfl ?_
          refine J_iload_n d_Ref_showSlave_56 rfl ?_
          refine J_iadd d_Ref_showSlave_57 ?_
          refine J_aload_n d_Ref_showSlave_58 rfl ?_
          refine F_getR (ci := 12) (k := 42) hG (cf_Ref hw) (fl_Ref_115 hw) (by decide) (by decide) rfl d_Ref_showSlave_59 g156 ?_
          refine J_iload d_Ref_showSlave_62 rfl ?_
          obtain ⟨a158, ha158, H⟩ := Option.bind_eq_some_iff.mp H
          rw [j_rf ha158]
          obtain ⟨N159, hN159, H⟩ := Option.bind_eq_some_iff.mp H
          obtain ⟨k160, hk160, H⟩ := Option.bind_eq_some_iff.mp H
          refine F_iald k160 hw hG d_Ref_showSlave_64 (gA_some hN159) (ix_some hk160) ?_
          refine J_if_le (tgt := 72) d_Ref_showSlave_65 (by decide) ?_ ?_
          · intro c161
            rw [if_pos c161] at H
            refine J_iconst (v := 0) d_Ref_showSlave_72 (by decide) ?_
            refine J.drop [true, true, true, true, true, false, false, false] rfl ?_
            exact p_Ref_showSlave_L73 hw hG ih H
          · intro c161
            rw [if_neg c161] at H
            refine J_iconst (v := 1) d_Ref_showSlave_68 (by decide) ?_
            refine J_goto (tgt := 73) d_Ref_showSlave_69 (by decide) ?_
            refine J.drop [true, true, true, true, true, false, false, false] rfl ?_
            exact p_Ref_showSlave_L73 hw hG ih H
        · intro c162
          rw [if_pos c162] at H
          refine J.drop [true, true, true, true, false, false, false, false] rfl ?_
          exact p_Ref_showSlave_L23 hw hG ih H
def f_Ref_showSlave (Γ : gm_T) (φ : ph_T) (this : Nat) (p0 : Int32) : Option (Unit × ph_T) :=
  f_Ref_showSlave_L8 Γ  jF φ this p0 ((5 : Int32) * ((4 : Int32) + p0)) (0 : Int32)
set_option maxRecDepth 100000 in
set_option maxHeartbeats 4000000 in
theorem p_Ref_showSlave {w : jw_T} (hw : jok w) {Γ : gm_T} {n : Nat} (hG : gd w Γ n) {x : Bool} {φ : ph_T} {this : Nat} {p0 : Int32} {q : Unit × ph_T} (H : f_Ref_showSlave Γ φ this p0 = some q) : jc w M_Ref_showSlave [.ref this, .int p0] (pic Γ φ) n x 0 0 (fq Γ n (.inl none) q.2) := by
  refine jc.of (by simp only [jent_r, jent_i, jent_l, jent_a, jent_0]; exact Nat.le_of_ble_eq_true rfl) ?_
  have hls : jents [.ref this, .int p0] (jm_nL M_Ref_showSlave) = [some (.ref this), some (.int p0), none, none, none, none, none, none] := by simp only [jents, jent_r, jent_i, jent_l, jent_a, jent_0]; rfl
  rw [hls]
  clear hls
  unfold f_Ref_showSlave at H
  refine J_iconst (v := 5) d_Ref_showSlave_0 (by decide) ?_
  refine J_iconst (v := 4) d_Ref_showSlave_1 (by decide) ?_
  refine J_iload_n d_Ref_showSlave_2 rfl ?_
  refine J_iadd d_Ref_showSlave_3 ?_
  refine J_imul d_Ref_showSlave_4 ?_
  refine J_istore_n d_Ref_showSlave_5 (Nat.le_of_ble_eq_true rfl) ?_
  refine J.ls (ls' := [some (.ref this), some (.int p0), some (.int ((5 : Int32) * ((4 : Int32) + p0))), none, none, none, none, none]) rfl ?_
  refine J_iconst (v := 0) d_Ref_showSlave_6 (by decide) ?_
  refine J_istore_n d_Ref_showSlave_7 (Nat.le_of_ble_eq_true rfl) ?_
  refine J.ls (ls' := [some (.ref this), some (.int p0), some (.int ((5 : Int32) * ((4 : Int32) + p0))), some (.int (0 : Int32)), none, none, none, none]) rfl ?_
  refine J.drop [true, true, true, true, false, false, false, false] rfl ?_
  exact p_Ref_showSlave_L8 hw hG  _ H
