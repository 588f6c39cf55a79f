theorem ln_Ref_request : (parseMethodDescriptor y_Ref_request.desc).map (fun q => q.parameters.length) = some 5 := by decide +kernel
def f_Ref_request_L365 (Γ : gm_T)  (φ : ph_T) (x0 : Nat) (x2 : Int32) (x3 : Int32) (x4 : Int32) (x5 : Int64) (x7 : Int32) (y0 : Int32) (y1 : Int32) (y2 : Option Nat) : Option (Int32 × ph_T) :=
  Option.bind y2 fun a1 =>
  Option.bind (gA Γ a1 2) fun N2 =>
  Option.bind (ix y1 N2) fun k3 =>
  @ite _ (y0 = 0 ∨ y0 = 1) _ (
  @ite _ (Γ x0 = .inr 12) _ (
  Option.bind (φ.2.2 x0 23) fun a6 =>
  Option.bind (gA Γ a6 0) fun N7 =>
  Option.bind (ix x7 N7) fun k8 =>
  Option.bind (φ.2.2 x0 24) fun a9 =>
  Option.bind (gA Γ a9 0) fun N10 =>
  Option.bind (ix x7 N10) fun k11 =>
  Option.bind (φ.2.2 x0 25) fun a12 =>
  Option.bind (gA Γ a12 0) fun N13 =>
  Option.bind (ix x7 N13) fun k14 =>
  Option.bind (φ.2.2 x0 26) fun a15 =>
  Option.bind (gA Γ a15 1) fun N16 =>
  Option.bind (ix x7 N16) fun k17 =>
  Option.bind (φ.2.2 x0 27) fun a18 =>
  Option.bind (gA Γ a18 0) fun N19 =>
  Option.bind (ix x7 N19) fun k20 =>
  Option.bind (φ.2.2 x0 28) fun a21 =>
  Option.bind (gA Γ a21 0) fun N22 =>
  Option.bind (ix x7 N22) fun k23 =>
  Option.bind (φ.2.2 x0 29) fun a24 =>
  Option.bind (gA Γ a24 0) fun N25 =>
  Option.bind (ix x7 N25) fun k26 =>
  Option.bind (φ.2.2 x0 30) fun a27 =>
  Option.bind (gA Γ a27 0) fun N28 =>
  Option.bind (ix x7 N28) fun k29 =>
  Option.bind (φ.2.2 x0 31) fun a30 =>
  Option.bind (gA Γ a30 0) fun N31 =>
  Option.bind (ix x7 N31) fun k32 =>
  some (x7, (uI (uI (uI (uI (uI (uI (uL (uI (uI (uI (uI φ a1 k3 y0) a6 k8 (x2 >>> ((11 : Int32) &&& 31))) a9 k11 x3) a12 k14 x4) a15 k17 x5) a18 k20 ((uI (uI (uI (uI φ a1 k3 y0) a6 k8 (x2 >>> ((11 : Int32) &&& 31))) a9 k11 x3) a12 k14 x4).1 x0 6)) a21 k23 (-1 : Int32)) a24 k26 (-1 : Int32)) a27 k29 (0 : Int32)) a30 k32 (0 : Int32)) x0 15 (((uI (uI (uI (uI (uI (uL (uI (uI (uI (uI φ a1 k3 y0) a6 k8 (x2 >>> ((11 : Int32) &&& 31))) a9 k11 x3) a12 k14 x4) a15 k17 x5) a18 k20 ((uI (uI (uI (uI φ a1 k3 y0) a6 k8 (x2 >>> ((11 : Int32) &&& 31))) a9 k11 x3) a12 k14 x4).1 x0 6)) a21 k23 (-1 : Int32)) a24 k26 (-1 : Int32)) a27 k29 (0 : Int32)) a30 k32 (0 : Int32)).1 x0 15) + (1 : Int32))))
  ) none
  ) none
set_option maxRecDepth 100000 in
set_option maxHeartbeats 4000000 in
theorem p_Ref_request_L365 {w : jw_T} (hw : jok w) {Γ : gm_T} {n : Nat} (hG : gd w Γ n)  {x : Bool} {φ : ph_T} {x0 : Nat} {x2 : Int32} {x3 : Int32} {x4 : Int32} {x5 : Int64} {x7 : Int32} {y0 : Int32} {y1 : Int32} {y2 : Option Nat} {q : Int32 × ph_T} (H : f_Ref_request_L365 Γ  φ x0 x2 x3 x4 x5 x7 y0 y1 y2 = some q) : J w M_Ref_request 365 [some (.ref x0), none, some (.int x2), some (.int x3), some (.int x4), some (.long x5), none, some (.int x7), none, none, none, none, none] [.int y0, .int y1, va_rf y2] (pic Γ φ) n x 0 0 (fq Γ n (.inl (some (.int q.1))) q.2) := by
  unfold f_Ref_request_L365 at H
  obtain ⟨a1, ha1, H⟩ := Option.bind_eq_some_iff.mp H
  rw [j_rf ha1]
  obtain ⟨N2, hN2, H⟩ := Option.bind_eq_some_iff.mp H
  obtain ⟨k3, hk3, H⟩ := Option.bind_eq_some_iff.mp H
  have z4 : y0 = 0 ∨ y0 = 1 := by
    apply Classical.byContradiction
    intro q9
    rw [if_neg q9] at H
    cases H
  rw [if_pos z4] at H
  refine F_zast k3 hw hG d_Ref_request_365 (gA_some hN2) (ix_some hk3) z4 ?_
  refine J_aload_n d_Ref_request_366 rfl ?_
  have g5 : Γ x0 = .inr 12 := by
    apply Classical.byContradiction
    intro q9
    rw [if_neg q9] at H
    cases H
  rw [if_pos g5] at H
  refine F_getR (ci := 12) (k := 23) hG (cf_Ref hw) (fl_Ref_57 hw) (by decide) (by decide) rfl d_Ref_request_367 g5 ?_
  show J _ _ _ _ (va_rf (φ.2.2 x0 23) :: _) _ _ _ _ _ _
  refine J_iload d_Ref_request_370 rfl ?_
  refine J_iload_n d_Ref_request_372 rfl ?_
  refine J_bipush (v := 11) d_Ref_request_373 (by decide) ?_
  refine J_ishr d_Ref_request_375 ?_
  obtain ⟨a6, ha6, H⟩ := Option.bind_eq_some_iff.mp H
  rw [j_rf ha6]
  obtain ⟨N7, hN7, H⟩ := Option.bind_eq_some_iff.mp H
  obtain ⟨k8, hk8, H⟩ := Option.bind_eq_some_iff.mp H
  refine F_iast k8 hw hG d_Ref_request_376 (gA_some hN7) (ix_some hk8) ?_
  refine J_aload_n d_Ref_request_377 rfl ?_
  refine F_getR (ci := 12) (k := 24) hG (cf_Ref hw) (fl_Ref_60 hw) (by decide) (by decide) rfl d_Ref_request_378 g5 ?_
  show J _ _ _ _ (va_rf (φ.2.2 x0 24) :: _) _ _ _ _ _ _
  refine J_iload d_Ref_request_381 rfl ?_
  refine J_iload_n d_Ref_request_383 rfl ?_
  obtain ⟨a9, ha9, H⟩ := Option.bind_eq_some_iff.mp H
  rw [j_rf ha9]
  obtain ⟨N10, hN10, H⟩ := Option.bind_eq_some_iff.mp H
  obtain ⟨k11, hk11, H⟩ := Option.bind_eq_some_iff.mp H
  refine F_iast k11 hw hG d_Ref_request_384 (gA_some hN10) (ix_some hk11) ?_
  refine J_aload_n d_Ref_request_385 rfl ?_
  refine F_getR (ci := 12) (k := 25) hG (cf_Ref hw) (fl_Ref_63 hw) (by decide) (by decide) rfl d_Ref_request_386 g5 ?_
  show J _ _ _ _ (va_rf (φ.2.2 x0 25) :: _) _ _ _ _ _ _
  refine J_iload d_Ref_request_389 rfl ?_
  refine J_iload d_Ref_request_391 rfl ?_
  obtain ⟨a12, ha12, H⟩ := Option.bind_eq_some_iff.mp H
  rw [j_rf ha12]
  obtain ⟨N13, hN13, H⟩ := Option.bind_eq_some_iff.mp H
  obtain ⟨k14, hk14, H⟩ := Option.bind_eq_some_iff.mp H
  refine F_iast k14 hw hG d_Ref_request_393 (gA_some hN13) (ix_some hk14) ?_
  refine J_aload_n d_Ref_request_394 rfl ?_
  refine F_getR (ci := 12) (k := 26) hG (cf_Ref hw) (fl_Ref_66 hw) (by decide) (by decide) rfl d_Ref_request_395 g5 ?_
  show J _ _ _ _ (va_rf (φ.2.2 x0 26) :: _) _ _ _ _ _ _
  refine J_iload d_Ref_request_398 rfl ?_
  refine J_lload d_Ref_request_400 rfl ?_
  obtain ⟨a15, ha15, H⟩ := Option.bind_eq_some_iff.mp H
  rw [j_rf ha15]
  obtain ⟨N16, hN16, H⟩ := Option.bind_eq_some_iff.mp H
  obtain ⟨k17, hk17, H⟩ := Option.bind_eq_some_iff.mp H
  refine F_last k17 hw hG d_Ref_request_402 (gA_some hN16) (ix_some hk17) ?_
  refine J_aload_n d_Ref_request_403 rfl ?_
  refine F_getR (ci := 12) (k := 27) hG (cf_Ref hw) (fl_Ref_70 hw) (by decide) (by decide) rfl d_Ref_request_404 g5 ?_
  show J _ _ _ _ (va_rf (φ.2.2 x0 27) :: _) _ _ _ _ _ _
  refine J_iload d_Ref_request_407 rfl ?_
  refine J_aload_n d_Ref_request_409 rfl ?_
  refine F_getI (ci := 12) (k := 6) hG (cf_Ref hw) (fl_Ref_348 hw) (by decide) (by decide) rfl d_Ref_request_410 g5 ?_
  show J _ _ _ _ (.int ((uI (uI (uI (uI φ a1 k3 y0) a6 k8 (x2 >>> ((11 : Int32) &&& 31))) a9 k11 x3) a12 k14 x4).1 x0 6) :: _) _ _ _ _ _ _
  obtain ⟨a18, ha18, H⟩ := Option.bind_eq_some_iff.mp H
  rw [j_rf ha18]
  obtain ⟨N19, hN19, H⟩ := Option.bind_eq_some_iff.mp H
  obtain ⟨k20, hk20, H⟩ := Option.bind_eq_some_iff.mp H
  refine F_iast k20 hw hG d_Ref_request_413 (gA_some hN19) (ix_some hk20) ?_
  refine J_aload_n d_Ref_request_414 rfl ?_
  refine F_getR (ci := 12) (k := 28) hG (cf_Ref hw) (fl_Ref_73 hw) (by decide) (by decide) rfl d_Ref_request_415 g5 ?_
  show J _ _ _ _ (va_rf (φ.2.2 x0 28) :: _) _ _ _ _ _ _
  refine J_iload d_Ref_request_418 rfl ?_
  refine J_iconst (v := -1) d_Ref_request_420 (by decide) ?_
  obtain ⟨a21, ha21, H⟩ := Option.bind_eq_some_iff.mp H
  rw [j_rf ha21]
  obtain ⟨N22, hN22, H⟩ := Option.bind_eq_some_iff.mp H
  obtain ⟨k23, hk23, H⟩ := Option.bind_eq_some_iff.mp H
  refine F_iast k23 hw hG d_Ref_request_421 (gA_some hN22) (ix_some hk23) ?_
  refine J_aload_n d_Ref_request_422 rfl ?_
  refine F_getR (ci := 12) (k := 29) hG (cf_Ref hw) (fl_Ref_76 hw) (by decide) (by decide) rfl d_Ref_request_423 g5 ?_
  show J _ _ _ _ (va_rf (φ.2.2 x0 29) :: _) _ _ _ _ _ _
  refine J_iload d_Ref_request_426 rfl ?_
  refine J_iconst (v := -1) d_Ref_request_428 (by decide) ?_
  obtain ⟨a24, ha24, H⟩ := Option.bind_eq_some_iff.mp H
  rw [j_rf ha24]
  obtain ⟨N25, hN25, H⟩ := Option.bind_eq_some_iff.mp H
  obtain ⟨k26, hk26, H⟩ := Option.bind_eq_some_iff.mp H
  refine F_iast k26 hw hG d_Ref_request_429 (gA_some hN25) (ix_some hk26) ?_
  refine J_aload_n d_Ref_request_430 rfl ?_
  refine F_getR (ci := 12) (k := 30) hG (cf_Ref hw) (fl_Ref_79 hw) (by decide) (by decide) rfl d_Ref_request_431 g5 ?_
  show J _ _ _ _ (va_rf (φ.2.2 x0 30) :: _) _ _ _ _ _ _
  refine J_iload d_Ref_request_434 rfl ?_
  refine J_iconst (v := 0) d_Ref_request_436 (by decide) ?_
  obtain ⟨a27, ha27, H⟩ := Option.bind_eq_some_iff.mp H
  rw [j_rf ha27]
  obtain ⟨N28, hN28, H⟩ := Option.bind_eq_some_iff.mp H
  obtain ⟨k29, hk29, H⟩ := Option.bind_eq_some_iff.mp H
  refine F_iast k29 hw hG d_Ref_request_437 (gA_some hN28) (ix_some hk29) ?_
  refine J_aload_n d_Ref_request_438 rfl ?_
  refine F_getR (ci := 12) (k := 31) hG (cf_Ref hw) (fl_Ref_82 hw) (by decide) (by decide) rfl d_Ref_request_439 g5 ?_
  show J _ _ _ _ (va_rf (φ.2.2 x0 31) :: _) _ _ _ _ _ _
  refine J_iload d_Ref_request_442 rfl ?_
  refine J_iconst (v := 0) d_Ref_request_444 (by decide) ?_
  obtain ⟨a30, ha30, H⟩ := Option.bind_eq_some_iff.mp H
  rw [j_rf ha30]
  obtain ⟨N31, hN31, H⟩ := Option.bind_eq_some_iff.mp H
  obtain ⟨k32, hk32, H⟩ := Option.bind_eq_some_iff.mp H
  refine F_iast k32 hw hG d_Ref_request_445 (gA_some hN31) (ix_some hk32) ?_
  refine J_aload_n d_Ref_request_446 rfl ?_
  refine J_dup d_Ref_request_447 rfl ?_
  refine F_getI (ci := 12) (k := 15) hG (cf_Ref hw) (fl_Ref_337 hw) (by decide) (by decide) rfl d_Ref_request_448 g5 ?_
  refine J_iconst (v := 1) d_Ref_request_451 (by decide) ?_
  refine J_iadd d_Ref_request_452 ?_
  refine F_putI (ci := 12) (k := 15) hG (cf_Ref hw) (fl_Ref_337 hw) (by decide) (by decide) rfl d_Ref_request_453 rfl rfl rfl g5 ?_
  refine J_iload d_Ref_request_456 rfl ?_
  have H := Option.some.inj H
  subst H
  exact J_iret (st := []) d_Ref_request_458 rfl rfl ⟨rfl, rfl, rfl⟩
def f_Ref_request_L343 (Γ : gm_T)  (φ : ph_T) (x0 : Nat) (x2 : Int32) (x3 : Int32) (x4 : Int32) (x5 : Int64) (x7 : Int32) (y0 : Int32) (y1 : Int32) (y2 : Option Nat) : Option (Int32 × ph_T) :=
  Option.bind y2 fun a33 =>
  Option.bind (gA Γ a33 2) fun N34 =>
  Option.bind (ix y1 N34) fun k35 =>
  @ite _ (y0 = 0 ∨ y0 = 1) _ (
  @ite _ (Γ x0 = .inr 12) _ (
  if ((x2 >>> ((10 : Int32) &&& 31)) &&& (1 : Int32)) = (1 : Int32) then
    f_Ref_request_L365 Γ  (uI φ a33 k35 y0) x0 x2 x3 x4 x5 x7 (1 : Int32) x7 (φ.2.2 x0 22)
  else
    f_Ref_request_L365 Γ  (uI φ a33 k35 y0) x0 x2 x3 x4 x5 x7 (0 : Int32) x7 (φ.2.2 x0 22)
  ) none
  ) none
set_option maxRecDepth 100000 in
set_option maxHeartbeats 4000000 in
theorem p_Ref_request_L343 {w : jw_T} (hw : jok w) {Γ : gm_T} {n : Nat} (hG : gd w Γ n)  {x : Bool} {φ : ph_T} {x0 : Nat} {x2 : Int32} {x3 : Int32} {x4 : Int32} {x5 : Int64} {x7 : Int32} {y0 : Int32} {y1 : Int32} {y2 : Option Nat} {q : Int32 × ph_T} (H : f_Ref_request_L343 Γ  φ x0 x2 x3 x4 x5 x7 y0 y1 y2 = some q) : J w M_Ref_request 343 [some (.ref x0), none, some (.int x2), some (.int x3), some (.int x4), some (.long x5), none, some (.int x7), none, none, none, none, none] [.int y0, .int y1, va_rf y2] (pic Γ φ) n x 0 0 (fq Γ n (.inl (some (.int q.1))) q.2) := by
  unfold f_Ref_request_L343 at H
  obtain ⟨a33, ha33, H⟩ := Option.bind_eq_some_iff.mp H
  rw [j_rf ha33]
  obtain ⟨N34, hN34, H⟩ := Option.bind_eq_some_iff.mp H
  obtain ⟨k35, hk35, H⟩ := Option.bind_eq_some_iff.mp H
  have z36 : y0 = 0 ∨ y0 = 1 := by
    apply Classical.byContradiction
    intro q9
    rw [if_neg q9] at H
    cases H
  rw [if_pos z36] at H
  refine F_zast k35 hw hG d_Ref_request_343 (gA_some hN34) (ix_some hk35) z36 ?_
  refine J_aload_n d_Ref_request_344 rfl ?_
  have g37 : Γ x0 = .inr 12 := by
    apply Classical.byContradiction
    intro q9
    rw [if_neg q9] at H
    cases H
  rw [if_pos g37] at H
  refine F_getR (ci := 12) (k := 22) hG (cf_Ref hw) (fl_Ref_54 hw) (by decide) (by decide) rfl d_Ref_request_345 g37 ?_
  show J _ _ _ _ (va_rf (φ.2.2 x0 22) :: _) _ _ _ _ _ _
  refine J_iload d_Ref_request_348 rfl ?_
  refine J_iload_n d_Ref_request_350 rfl ?_
  refine J_bipush (v := 10) d_Ref_request_351 (by decide) ?_
  refine J_ishr d_Ref_request_353 ?_
  refine J_iconst (v := 1) d_Ref_request_354 (by decide) ?_
  refine J_iand d_Ref_request_355 ?_
  refine J_iconst (v := 1) d_Ref_request_356 (by decide) ?_
  refine J_icmp_ne (tgt := 364) d_Ref_request_357 (by decide) ?_ ?_
  · intro c38
    rw [if_neg c38] at H
    refine J_iconst (v := 0) d_Ref_request_364 (by decide) ?_
    refine J.drop [true, false, true, true, true, true, false, true, false, false, false, false, false] rfl ?_
    exact p_Ref_request_L365 hw hG  H
  · intro c38
    rw [if_pos c38] at H
    refine J_iconst (v := 1) d_Ref_request_360 (by decide) ?_
    refine J_goto (tgt := 365) d_Ref_request_361 (by decide) ?_
    refine J.drop [true, false, true, true, true, true, false, true, false, false, false, false, false] rfl ?_
    exact p_Ref_request_L365 hw hG  H
def f_Ref_request_L255 (Γ : gm_T)  (φ : ph_T) (x0 : Nat) (x1 : Int32) (x2 : Int32) (x3 : Int32) (x4 : Int32) (x5 : Int64) (x7 : Int32) (x10 : Int32) (y0 : Int32) (y1 : Nat) : Option (Int32 × ph_T) :=
  @ite _ (Γ y1 = .inr 12) _ (
  @ite _ (Γ x0 = .inr 12) _ (
  if ((uI φ y1 0 y0).1 x0 0) ≤ 0 then
    Option.bind (φ.2.2 x0 16) fun a41 =>
    Option.bind (gA Γ a41 0) fun N42 =>
    Option.bind (ix x7 N42) fun k43 =>
    Option.bind (φ.2.2 x0 17) fun a44 =>
    Option.bind (gA Γ a44 0) fun N45 =>
    Option.bind (ix x7 N45) fun k46 =>
    Option.bind (φ.2.2 x0 18) fun a47 =>
    Option.bind (gA Γ a47 0) fun N48 =>
    Option.bind (ix x7 N48) fun k49 =>
    Option.bind (φ.2.2 x0 19) fun a50 =>
    Option.bind (gA Γ a50 0) fun N51 =>
    Option.bind (ix x7 N51) fun k52 =>
    Option.bind (φ.2.2 x0 20) fun a53 =>
    Option.bind (gA Γ a53 2) fun N54 =>
    Option.bind (ix x7 N54) fun k55 =>
    @ite _ (x10 = 0 ∨ x10 = 1) _ (
    if ((x2 >>> ((9 : Int32) &&& 31)) &&& (1 : Int32)) = (1 : Int32) then
      f_Ref_request_L343 Γ  (uI (uI (uI (uI (uI (uI φ y1 0 y0) a41 k43 x1) a44 k46 ((x2 &&& (15 : Int32)) + (1 : Int32))) a47 k49 ((x2 >>> ((4 : Int32) &&& 31)) &&& (3 : Int32))) a50 k52 ((x2 >>> ((6 : Int32) &&& 31)) &&& (3 : Int32))) a53 k55 x10) x0 x2 x3 x4 x5 x7 (1 : Int32) x7 (φ.2.2 x0 21)
    else
      f_Ref_request_L343 Γ  (uI (uI (uI (uI (uI (uI φ y1 0 y0) a41 k43 x1) a44 k46 ((x2 &&& (15 : Int32)) + (1 : Int32))) a47 k49 ((x2 >>> ((4 : Int32) &&& 31)) &&& (3 : Int32))) a50 k52 ((x2 >>> ((6 : Int32) &&& 31)) &&& (3 : Int32))) a53 k55 x10) x0 x2 x3 x4 x5 x7 (0 : Int32) x7 (φ.2.2 x0 21)
    ) none
  else
    some ((0 : Int32), (uI φ y1 0 y0))
  ) none
  ) none
set_option maxRecDepth 100000 in
set_option maxHeartbeats 4000000 in
theorem p_Ref_request_L255 {w : jw_T} (hw : jok w) {Γ : gm_T} {n : Nat} (hG : gd w Γ n)  {x : Bool} {φ : ph_T} {x0 : Nat} {x1 : Int32} {x2 : Int32} {x3 : Int32} {x4 : Int32} {x5 : Int64} {x7 : Int32} {x10 : Int32} {y0 : Int32} {y1 : Nat} {q : Int32 × ph_T} (H : f_Ref_request_L255 Γ  φ x0 x1 x2 x3 x4 x5 x7 x10 y0 y1 = some q) : J w M_Ref_request 255 [some (.ref x0), some (.int x1), some (.int x2), some (.int x3), some (.int x4), some (.long x5), none, some (.int x7), none, none, some (.int x10), none, none] [.int y0, .ref y1] (pic Γ φ) n x 0 0 (fq Γ n (.inl (some (.int q.1))) q.2) := by
  unfold f_Ref_request_L255 at H
  have g39 : Γ y1 = .inr 12 := by
    apply Classical.byContradiction
    intro q9
    rw [if_neg q9] at H
    cases H
  rw [if_pos g39] at H
  refine F_putI (ci := 12) (k := 0) hG (cf_Ref hw) (fl_Ref_303 hw) (by decide) (by decide) rfl d_Ref_request_255 rfl rfl rfl g39 ?_
  refine J_aload_n d_Ref_request_258 rfl ?_
  have g40 : Γ x0 = .inr 12 := by
    apply Classical.byContradiction
    intro q9
    rw [if_neg q9] at H
    cases H
  rw [if_pos g40] at H
  refine F_getI (ci := 12) (k := 0) hG (cf_Ref hw) (fl_Ref_303 hw) (by decide) (by decide) rfl d_Ref_request_259 g40 ?_
  refine J_if_le (tgt := 267) d_Ref_request_262 (by decide) ?_ ?_
  · intro c58
    rw [if_pos c58] at H
    refine J_aload_n d_Ref_request_267 rfl ?_
    refine F_getR (ci := 12) (k := 16) hG (cf_Ref hw) (fl_Ref_36 hw) (by decide) (by decide) rfl d_Ref_request_268 g40 ?_
    show J _ _ _ _ (va_rf (φ.2.2 x0 16) :: _) _ _ _ _ _ _
    refine J_iload d_Ref_request_271 rfl ?_
    refine J_iload_n d_Ref_request_273 rfl ?_
    obtain ⟨a41, ha41, H⟩ := Option.bind_eq_some_iff.mp H
    rw [j_rf ha41]
    obtain ⟨N42, hN42, H⟩ := Option.bind_eq_some_iff.mp H
    obtain ⟨k43, hk43, H⟩ := Option.bind_eq_some_iff.mp H
    refine F_iast k43 hw hG d_Ref_request_274 (gA_some hN42) (ix_some hk43) ?_
    refine J_aload_n d_Ref_request_275 rfl ?_
    refine F_getR (ci := 12) (k := 17) hG (cf_Ref hw) (fl_Ref_39 hw) (by decide) (by decide) rfl d_Ref_request_276 g40 ?_
    show J _ _ _ _ (va_rf (φ.2.2 x0 17) :: _) _ _ _ _ _ _
    refine J_iload d_Ref_request_279 rfl ?_
    refine J_iload_n d_Ref_request_281 rfl ?_
    refine J_bipush (v := 15) d_Ref_request_282 (by decide) ?_
    refine J_iand d_Ref_request_284 ?_
    refine J_iconst (v := 1) d_Ref_request_285 (by decide) ?_
    refine J_iadd d_Ref_request_286 ?_
    obtain ⟨a44, ha44, H⟩ := Option.bind_eq_some_iff.mp H
    rw [j_rf ha44]
    obtain ⟨N45, hN45, H⟩ := Option.bind_eq_some_iff.mp H
    obtain ⟨k46, hk46, H⟩ := Option.bind_eq_some_iff.mp H
    refine F_iast k46 hw hG d_Ref_request_287 (gA_some hN45) (ix_some hk46) ?_
    refine J_aload_n d_Ref_request_288 rfl ?_
    refine F_getR (ci := 12) (k := 18) hG (cf_Ref hw) (fl_Ref_42 hw) (by decide) (by decide) rfl d_Ref_request_289 g40 ?_
    show J _ _ _ _ (va_rf (φ.2.2 x0 18) :: _) _ _ _ _ _ _
    refine J_iload d_Ref_request_292 rfl ?_
    refine J_iload_n d_Ref_request_294 rfl ?_
    refine J_iconst (v := 4) d_Ref_request_295 (by decide) ?_
    refine J_ishr d_Ref_request_296 ?_
    refine J_iconst (v := 3) d_Ref_request_297 (by decide) ?_
    refine J_iand d_Ref_request_298 ?_
    obtain ⟨a47, ha47, H⟩ := Option.bind_eq_some_iff.mp H
    rw [j_rf ha47]
    obtain ⟨N48, hN48, H⟩ := Option.bind_eq_some_iff.mp H
    obtain ⟨k49, hk49, H⟩ := Option.bind_eq_some_iff.mp H
    refine F_iast k49 hw hG d_Ref_request_299 (gA_some hN48) (ix_some hk49) ?_
    refine J_aload_n d_Ref_request_300 rfl ?_
    refine F_getR (ci := 12) (k := 19) hG (cf_Ref hw) (fl_Ref_45 hw) (by decide) (by decide) rfl d_Ref_request_301 g40 ?_
    show J _ _ _ _ (va_rf (φ.2.2 x0 19) :: _) _ _ _ _ _ _
    refine J_iload d_Ref_request_304 rfl ?_
    refine J_iload_n d_Ref_request_306 rfl ?_
    refine J_bipush (v := 6) d_Ref_request_307 (by decide) ?_
    refine J_ishr d_Ref_request_309 ?_
    refine J_iconst (v := 3) d_Ref_request_310 (by decide) ?_
    refine J_iand d_Ref_request_311 ?_
    obtain ⟨a50, ha50, H⟩ := Option.bind_eq_some_iff.mp H
    rw [j_rf ha50]
    obtain ⟨N51, hN51, H⟩ := Option.bind_eq_some_iff.mp H
    obtain ⟨k52, hk52, H⟩ := Option.bind_eq_some_iff.mp H
    refine F_iast k52 hw hG d_Ref_request_312 (gA_some hN51) (ix_some hk52) ?_
    refine J_aload_n d_Ref_request_313 rfl ?_
    refine F_getR (ci := 12) (k := 20) hG (cf_Ref hw) (fl_Ref_48 hw) (by decide) (by decide) rfl d_Ref_request_314 g40 ?_
    show J _ _ _ _ (va_rf (φ.2.2 x0 20) :: _) _ _ _ _ _ _
    refine J_iload d_Ref_request_317 rfl ?_
    refine J_iload d_Ref_request_319 rfl ?_
    obtain ⟨a53, ha53, H⟩ := Option.bind_eq_some_iff.mp H
    rw [j_rf ha53]
    obtain ⟨N54, hN54, H⟩ := Option.bind_eq_some_iff.mp H
    obtain ⟨k55, hk55, H⟩ := Option.bind_eq_some_iff.mp H
    have z56 : x10 = 0 ∨ x10 = 1 := by
      apply Classical.byContradiction
      intro q9
      rw [if_neg q9] at H
      cases H
    rw [if_pos z56] at H
    refine F_zast k55 hw hG d_Ref_request_321 (gA_some hN54) (ix_some hk55) z56 ?_
    refine J_aload_n d_Ref_request_322 rfl ?_
    refine F_getR (ci := 12) (k := 21) hG (cf_Ref hw) (fl_Ref_51 hw) (by decide) (by decide) rfl d_Ref_request_323 g40 ?_
    show J _ _ _ _ (va_rf (φ.2.2 x0 21) :: _) _ _ _ _ _ _
    refine J_iload d_Ref_request_326 rfl ?_
    refine J_iload_n d_Ref_request_328 rfl ?_
    refine J_bipush (v := 9) d_Ref_request_329 (by decide) ?_
    refine J_ishr d_Ref_request_331 ?_
    refine J_iconst (v := 1) d_Ref_request_332 (by decide) ?_
    refine J_iand d_Ref_request_333 ?_
    refine J_iconst (v := 1) d_Ref_request_334 (by decide) ?_
    refine J_icmp_ne (tgt := 342) d_Ref_request_335 (by decide) ?_ ?_
    · intro c57
      rw [if_neg c57] at H
      refine J_iconst (v := 0) d_Ref_request_342 (by decide) ?_
      refine J.drop [true, false, true, true, true, true, false, true, false, false, false, false, false] rfl ?_
      exact p_Ref_request_L343 hw hG  H
    · intro c57
      rw [if_pos c57] at H
      refine J_iconst (v := 1) d_Ref_request_338 (by decide) ?_
      refine J_goto (tgt := 343) d_Ref_request_339 (by decide) ?_
      refine J.drop [true, false, true, true, true, true, false, true, false, false, false, false, false] rfl ?_
      exact p_Ref_request_L343 hw hG  H
  · intro c58
    rw [if_neg c58] at H
    refine J_iconst (v := 0) d_Ref_request_265 (by decide) ?_
    have H := Option.some.inj H
    subst H
    exact J_iret (st := []) d_Ref_request_266 rfl rfl ⟨rfl, rfl, rfl⟩
def f_Ref_request_L250 (Γ : gm_T)  (φ : ph_T) (x0 : Nat) (x1 : Int32) (x2 : Int32) (x3 : Int32) (x4 : Int32) (x5 : Int64) (x7 : Int32) (x10 : Int32) (y0 : Nat) : Option (Int32 × ph_T) :=
  f_Ref_request_L255 Γ  φ x0 x1 x2 x3 x4 x5 x7 x10 (3 : Int32) y0
set_option maxRecDepth 100000 in
set_option maxHeartbeats 4000000 in
theorem p_Ref_request_L250 {w : jw_T} (hw : jok w) {Γ : gm_T} {n : Nat} (hG : gd w Γ n)  {x : Bool} {φ : ph_T} {x0 : Nat} {x1 : Int32} {x2 : Int32} {x3 : Int32} {x4 : Int32} {x5 : Int64} {x7 : Int32} {x10 : Int32} {y0 : Nat} {q : Int32 × ph_T} (H : f_Ref_request_L250 Γ  φ x0 x1 x2 x3 x4 x5 x7 x10 y0 = some q) : J w M_Ref_request 250 [some (.ref x0), some (.int x1), some (.int x2), some (.int x3), some (.int x4), some (.long x5), none, some (.int x7), none, none, some (.int x10), none, none] [.ref y0] (pic Γ φ) n x 0 0 (fq Γ n (.inl (some (.int q.1))) q.2) := by
  unfold f_Ref_request_L250 at H
  refine J_iconst (v := 3) d_Ref_request_250 (by decide) ?_
  refine J_goto (tgt := 255) d_Ref_request_251 (by decide) ?_
  refine J.drop [true, true, true, true, true, true, false, true, false, false, true, false, false] rfl ?_
  exact p_Ref_request_L255 hw hG  H
def f_Ref_request_L212 (Γ : gm_T) (Kc162 : ph_T → Nat → Int32 → Int32 → Int32 → Int32 → Int64 → Int32 → Int64 → Int32 → Int32 → Int32 → Option (Int32 × ph_T)) (φ : ph_T) (x0 : Nat) (x1 : Int32) (x2 : Int32) (x3 : Int32) (x4 : Int32) (x5 : Int64) (x7 : Int32) (x8 : Int64) (x10 : Int32) (x12 : Int32) (y0 : Int32) (y1 : Int32) : Option (Int32 × ph_T) :=
  Kc162 φ x0 x1 x2 x3 x4 x5 x7 x8 x10 (y1 + y0) (x12 + (1 : Int32))
set_option maxRecDepth 100000 in
set_option maxHeartbeats 4000000 in
theorem p_Ref_request_L212 {w : jw_T} (hw : jok w) {Γ : gm_T} {n : Nat} (hG : gd w Γ n) {Kc162 : ph_T → Nat → Int32 → Int32 → Int32 → Int32 → Int64 → Int32 → Int64 → Int32 → Int32 → Int32 → Option (Int32 × ph_T)} (hKc162 : ∀ {x : Bool} {φ : ph_T} {x0 : Nat} {x1 : Int32} {x2 : Int32} {x3 : Int32} {x4 : Int32} {x5 : Int64} {x7 : Int32} {x8 : Int64} {x10 : Int32} {x11 : Int32} {x12 : Int32} {q : Int32 × ph_T}, Kc162 φ x0 x1 x2 x3 x4 x5 x7 x8 x10 x11 x12 = some q → J w M_Ref_request 162 [some (.ref x0), some (.int x1), some (.int x2), some (.int x3), some (.int x4), some (.long x5), none, some (.int x7), some (.long x8), none, some (.int x10), some (.int x11), some (.int x12)] [] (pic Γ φ) n x 0 0 (fq Γ n (.inl (some (.int q.1))) q.2)) {x : Bool} {φ : ph_T} {x0 : Nat} {x1 : Int32} {x2 : Int32} {x3 : Int32} {x4 : Int32} {x5 : Int64} {x7 : Int32} {x8 : Int64} {x10 : Int32} {x12 : Int32} {y0 : Int32} {y1 : Int32} {q : Int32 × ph_T} (H : f_Ref_request_L212 Γ Kc162 φ x0 x1 x2 x3 x4 x5 x7 x8 x10 x12 y0 y1 = some q) : J w M_Ref_request 212 [some (.ref x0), some (.int x1), some (.int x2), some (.int x3), some (.int x4), some (.long x5), none, some (.int x7), some (.long x8), none, some (.int x10), none, some (.int x12)] [.int y0, .int y1] (pic Γ φ) n x 0 0 (fq Γ n (.inl (some (.int q.1))) q.2) := by
  unfold f_Ref_request_L212 at H
  refine J_iadd d_Ref_request_212 ?_
  refine J_istore d_Ref_request_213 (Nat.le_of_ble_eq_true rfl) ?_
  refine J.ls (ls' := [some (.ref x0), some (.int x1), some (.int x2), some (.int x3), some (.int x4), some (.long x5), none, some (.int x7), some (.long x8), none, some (.int x10), some (.int (y1 + y0)), some (.int x12)]) rfl ?_
  refine J_iinc (v := x12 + 1) d_Ref_request_215 rfl (by rw [show Int32.ofInt 1 = (1 : Int32) from by decide]) ?_
  refine J.ls (ls' := [some (.ref x0), some (.int x1), some (.int x2), some (.int x3), some (.int x4), some (.long x5), none, some (.int x7), some (.long x8), none, some (.int x10), some (.int (y1 + y0)), some (.int (x12 + (1 : Int32)))]) rfl ?_
  refine J_goto (tgt := 162) d_Ref_request_218 (by decide) ?_
  refine J.drop [true, true, true, true, true, true, false, true, true, false, true, true, true] rfl ?_
  exact hKc162 H
def f_Ref_request_L211 (Γ : gm_T) (Kc162 : ph_T → Nat → Int32 → Int32 → Int32 → Int32 → Int64 → Int32 → Int64 → Int32 → Int32 → Int32 → Option (Int32 × ph_T)) (φ : ph_T) (x0 : Nat) (x1 : Int32) (x2 : Int32) (x3 : Int32) (x4 : Int32) (x5 : Int64) (x7 : Int32) (x8 : Int64) (x10 : Int32) (x12 : Int32) (y0 : Int32) : Option (Int32 × ph_T) :=
  f_Ref_request_L212 Γ Kc162 φ x0 x1 x2 x3 x4 x5 x7 x8 x10 x12 (0 : Int32) y0
set_option maxRecDepth 100000 in
set_option maxHeartbeats 4000000 in
theorem p_Ref_request_L211 {w : jw_T} (hw : jok w) {Γ : gm_T} {n : Nat} (hG : gd w Γ n) {Kc162 : ph_T → Nat → Int32 → Int32 → Int32 → Int32 → Int64 → Int32 → Int64 → Int32 → Int32 → Int32 → Option (Int32 × ph_T)} (hKc162 : ∀ {x : Bool} {φ : ph_T} {x0 : Nat} {x1 : Int32} {x2 : Int32} {x3 : Int32} {x4 : Int32} {x5 : Int64} {x7 : Int32} {x8 : Int64} {x10 : Int32} {x11 : Int32} {x12 : Int32} {q : Int32 × ph_T}, Kc162 φ x0 x1 x2 x3 x4 x5 x7 x8 x10 x11 x12 = some q → J w M_Ref_request 162 [some (.ref x0), some (.int x1), some (.int x2), some (.int x3), some (.int x4), some (.long x5), none, some (.int x7), some (.long x8), none, some (.int x10), some (.int x11), some (.int x12)] [] (pic Γ φ) n x 0 0 (fq Γ n (.inl (some (.int q.1))) q.2)) {x : Bool} {φ : ph_T} {x0 : Nat} {x1 : Int32} {x2 : Int32} {x3 : Int32} {x4 : Int32} {x5 : Int64} {x7 : Int32} {x8 : Int64} {x10 : Int32} {x12 : Int32} {y0 : Int32} {q : Int32 × ph_T} (H : f_Ref_request_L211 Γ Kc162 φ x0 x1 x2 x3 x4 x5 x7 x8 x10 x12 y0 = some q) : J w M_Ref_request 211 [some (.ref x0), some (.int x1), some (.int x2), some (.int x3), some (.int x4), some (.long x5), none, some (.int x7), some (.long x8), none, some (.int x10), none, some (.int x12)] [.int y0] (pic Γ φ) n x 0 0 (fq Γ n (.inl (some (.int q.1))) q.2) := by
  unfold f_Ref_request_L211 at H
  refine J_iconst (v := 0) d_Ref_request_211 (by decide) ?_
  refine J.drop [true, true, true, true, true, true, false, true, true, false, true, false, true] rfl ?_
  exact p_Ref_request_L212 hw hG hKc162 H
def f_Ref_request_L162 (Γ : gm_T)  : Nat → ph_T → Nat → Int32 → Int32 → Int32 → Int32 → Int64 → Int32 → Int64 → Int32 → Int32 → Int32 → Option (Int32 × ph_T)
  | 0, _, _, _, _, _, _, _, _, _, _, _, _ => none
  | fu + 1, φ, x0, x1, x2, x3, x4, x5, x7, x8, x10, x11, x12 =>
    @ite _ (Γ x0 = .inr 12) _ (
    if (φ.1 x0 15) ≤ x12 then
      Option.bind (f_Ref_breaks Γ φ x8) fun q60 =>
      if q60.1 ≤ 0 then
        if (q60.2.1 x0 15) = (64 : Int32) then
          f_Ref_request_L250 Γ  q60.2 x0 x1 x2 x3 x4 x5 x7 x10 x0
        else
          if x11 = (8 : Int32) then
            f_Ref_request_L250 Γ  q60.2 x0 x1 x2 x3 x4 x5 x7 x10 x0
          else
            f_Ref_request_L255 Γ  q60.2 x0 x1 x2 x3 x4 x5 x7 x10 (0 : Int32) x0
      else
        f_Ref_request_L255 Γ  q60.2 x0 x1 x2 x3 x4 x5 x7 x10 (2 : Int32) x0
    else
      Option.bind (φ.2.2 x0 16) fun a64 =>
      Option.bind (gA Γ a64 0) fun N65 =>
      Option.bind (ix x12 N65) fun k66 =>
      if (φ.1 a64 k66) = x1 then
        Option.bind (φ.2.2 x0 20) fun a67 =>
        Option.bind (gA Γ a67 2) fun N68 =>
        Option.bind (ix x12 N68) fun k69 =>
        if (φ.1 a67 k69) = x10 then
          Option.bind (φ.2.2 x0 28) fun a70 =>
          Option.bind (gA Γ a70 0) fun N71 =>
          Option.bind (ix x12 N71) fun k72 =>
          if (φ.1 a70 k72) = (-1 : Int32) then
            f_Ref_request_L212 Γ (f_Ref_request_L162 Γ  fu) φ x0 x1 x2 x3 x4 x5 x7 x8 x10 x12 (1 : Int32) x11
          else
            f_Ref_request_L211 Γ (f_Ref_request_L162 Γ  fu) φ x0 x1 x2 x3 x4 x5 x7 x8 x10 x12 x11
        else
          f_Ref_request_L211 Γ (f_Ref_request_L162 Γ  fu) φ x0 x1 x2 x3 x4 x5 x7 x8 x10 x12 x11
      else
        f_Ref_request_L211 Γ (f_Ref_request_L162 Γ  fu) φ x0 x1 x2 x3 x4 x5 x7 x8 x10 x12 x11
    ) none
set_option maxRecDepth 100000 in
set_option maxHeartbeats 4000000 in
theorem p_Ref_request_L162 {w : jw_T} (hw : jok w) {Γ : gm_T} {n : Nat} (hG : gd w Γ n)  : ∀ (fu : Nat) {x : Bool} {φ : ph_T} {x0 : Nat} {x1 : Int32} {x2 : Int32} {x3 : Int32} {x4 : Int32} {x5 : Int64} {x7 : Int32} {x8 : Int64} {x10 : Int32} {x11 : Int32} {x12 : Int32} {q : Int32 × ph_T}, f_Ref_request_L162 Γ  fu φ x0 x1 x2 x3 x4 x5 x7 x8 x10 x11 x12 = some q → J w M_Ref_request 162 [some (.ref x0), some (.int x1), some (.int x2), some (.int x3), some (.int x4), some (.long x5), none, some (.int x7), some (.long x8), none, some (.int x10), some (.int x11), some (.int x12)] [] (pic Γ φ) n x 0 0 (fq Γ n (.inl (some (.int q.1))) q.2) := by
  intro fu
  induction fu with
  | zero =>
    intro x φ x0 x1 x2 x3 x4 x5 x7 x8 x10 x11 x12 q H
    cases H
  | succ fu ih =>
    intro x φ x0 x1 x2 x3 x4 x5 x7 x8 x10 x11 x12 q H
    unfold f_Ref_request_L162 at H
    refine J_iload d_Ref_request_162 rfl ?_
    refine J_aload_n d_Ref_request_164 rfl ?_
    have g59 : Γ x0 = .inr 12 := by
      apply Classical.byContradiction
      intro q9
      rw [if_neg q9] at H
      cases H
    rw [if_pos g59] at H
    refine F_getI (ci := 12) (k := 15) hG (cf_Ref hw) (fl_Ref_337 hw) (by decide) (by decide) rfl d_Ref_request_165 g59 ?_
    refine J_icmp_ge (tgt := 221) d_Ref_request_168 (by decide) ?_ ?_
    · intro c76
      rw [if_pos c76] at H
      refine J_aload_n d_Ref_request_221 rfl ?_
      refine J_lload d_Ref_request_222 rfl ?_
      obtain ⟨q60, hq60, H⟩ := Option.bind_eq_some_iff.mp H
      refine J_callS (kc := 0) (ks := 0) (kc' := 0) (ks' := 0) (as := [.long x8]) (st := [.ref x0]) (mf_Ref_breaks hw) (ms_Ref_419 hw) d_Ref_request_224 ln_Ref_breaks (by decide) (by first | exact Nat.le_of_ble_eq_true rfl | (simp only [List.map_cons, List.map_nil, List.sum_cons, List.sum_nil, va_rf_cat]; exact Nat.le_of_ble_eq_true rfl)) rfl (p_Ref_breaks hw hG hq60) ?_ (fun E h' n' x' e1 => by cases e1.1)
      intro v9 h9 n9 x9 e9
      obtain ⟨e91, e92, e93⟩ := e9
      cases e91
      subst e92
      subst e93
      clear x
      rename Bool => x
      show J _ _ _ _ (_ :: _) _ _ _ _ _ _
      refine J_if_le (tgt := 234) d_Ref_request_227 (by decide) ?_ ?_
      · intro c63
        rw [if_pos c63] at H
        refine J_aload_n d_Ref_request_234 rfl ?_
        refine F_getI (ci := 12) (k := 15) hG (cf_Ref hw) (fl_Ref_337 hw) (by decide) (by decide) rfl d_Ref_request_235 g59 ?_
        refine J_bipush (v := 64) d_Ref_request_238 (by decide) ?_
        refine J_icmp_eq (tgt := 250) d_Ref_request_240 (by decide) ?_ ?_
        · intro c62
          rw [if_pos c62] at H
          refine J.drop [true, true, true, true, true, true, false, true, false, false, true, false, false] rfl ?_
          exact p_Ref_request_L250 hw hG  H
        · intro c62
          rw [if_neg c62] at H
          refine J_iload d_Ref_request_243 rfl ?_
          refine J_bipush (v := 8) d_Ref_request_245 (by decide) ?_
          refine J_icmp_ne (tgt := 254) d_Ref_request_247 (by decide) ?_ ?_
          · intro c61
            rw [if_neg c61] at H
            refine J_iconst (v := 0) d_Ref_request_254 (by decide) ?_
            refine J.drop [true, true, true, true, true, true, false, true, false, false, true, false, false] rfl ?_
            exact p_Ref_request_L255 hw hG  H
          · intro c61
            rw [if_pos c61] at H
            refine J.drop [true, true, true, true, true, true, false, true, false, false, true, false, false] rfl ?_
            exact p_Ref_request_L250 hw hG  H
      · intro c63
        rw [if_neg c63] at H
        refine J_iconst (v := 2) d_Ref_request_230 (by decide) ?_
        refine J_goto (tgt := 255) d_Ref_request_231 (by decide) ?_
        refine J.drop [true, true, true, true, true, true, false, true, false, false, true, false, false] rfl ?_
        exact p_Ref_request_L255 hw hG  H
    · intro c76
      rw [if_neg c76] at H
      refine J_iload d_Ref_request_171 rfl ?_
      refine J_aload_n d_Ref_request_173 rfl ?_
      refine F_getR (ci := 12) (k := 16) hG (cf_Ref hw) (fl_Ref_36 hw) (by decide) (by decide) rfl d_Ref_request_174 g59 ?_
      refine J_iload d_Ref_request_177 rfl ?_
      obtain ⟨a64, ha64, H⟩ := Option.bind_eq_some_iff.mp H
      rw [j_rf ha64]
      obtain ⟨N65, hN65, H⟩ := Option.bind_eq_some_iff.mp H
      obtain ⟨k66, hk66, H⟩ := Option.bind_eq_some_iff.mp H
      refine F_iald k66 hw hG d_Ref_request_179 (gA_some hN65) (ix_some hk66) ?_
      refine J_iload_n d_Ref_request_180 rfl ?_
      refine J_icmp_ne (tgt := 211) d_Ref_request_181 (by decide) ?_ ?_
      · intro c75
        rw [if_neg c75] at H
        refine J.drop [true, true, true, true, true, true, false, true, true, false, true, false, true] rfl ?_
        exact p_Ref_request_L211 hw hG ih H
      · intro c75
        rw [if_pos c75] at H
        refine J_aload_n d_Ref_request_184 rfl ?_
        refine F_getR (ci := 12) (k := 20) hG (cf_Ref hw) (fl_Ref_48 hw) (by decide) (by decide) rfl d_Ref_request_185 g59 ?_
        refine J_iload d_Ref_request_188 rfl ?_
        obtain ⟨a67, ha67, H⟩ := Option.bind_eq_some_iff.mp H
        rw [j_rf ha67]
        obtain ⟨N68, hN68, H⟩ := Option.bind_eq_some_iff.mp H
        obtain ⟨k69, hk69, H⟩ := Option.bind_eq_some_iff.mp H
        refine F_zald k69 hw hG d_Ref_request_190 (gA_some hN68) (ix_some hk69) ?_
        refine J_iload d_Ref_request_191 rfl ?_
        refine J_icmp_ne (tgt := 211) d_Ref_request_193 (by decide) ?_ ?_
        · intro c74
          rw [if_neg c74] at H
          refine J.drop [true, true, true, true, true, true, false, true, true, false, true, false, true] rfl ?_
          exact p_Ref_request_L211 hw hG ih H
        · intro c74
          rw [if_pos c74] at H
          refine J_aload_n d_Ref_request_196 rfl ?_
          refine F_getR (ci := 12) (k := 28) hG (cf_Ref hw) (fl_Ref_73 hw) (by decide) (by decide) rfl d_Ref_request_197 g59 ?_
          refine J_iload d_Ref_request_200 rfl ?_
          obtain ⟨a70, ha70, H⟩ := Option.bind_eq_some_iff.mp H
          rw [j_rf ha70]
          obtain ⟨N71, hN71, H⟩ := Option.bind_eq_some_iff.mp H
          obtain ⟨k72, hk72, H⟩ := Option.bind_eq_some_iff.mp H
          refine F_iald k72 hw hG d_Ref_request_202 (gA_some hN71) (ix_some hk72) ?_
          refine J_iconst (v := -1) d_Ref_request_203 (by decide) ?_
          refine J_icmp_ne (tgt := 211) d_Ref_request_204 (by decide) ?_ ?_
          · intro c73
            rw [if_neg c73] at H
            refine J.drop [true, true, true, true, true, true, false, true, true, false, true, false, true] rfl ?_
            exact p_Ref_request_L211 hw hG ih H
          · intro c73
            rw [if_pos c73] at H
            refine J_iconst (v := 1) d_Ref_request_207 (by decide) ?_
            refine J_goto (tgt := 212) d_Ref_request_208 (by decide) ?_
            refine J.drop [true, true, true, true, true, true, false, true, true, false, true, false, true] rfl ?_
            exact p_Ref_request_L212 hw hG ih H
def f_Ref_request_L154 (Γ : gm_T)  (φ : ph_T) (x0 : Nat) (x1 : Int32) (x2 : Int32) (x3 : Int32) (x4 : Int32) (x5 : Int64) (x7 : Int32) (x8 : Int64) (y0 : Int32) : Option (Int32 × ph_T) :=
  f_Ref_request_L162 Γ  jF φ x0 x1 x2 x3 x4 x5 x7 x8 y0 (0 : Int32) (0 : Int32)
set_option maxRecDepth 100000 in
set_option maxHeartbeats 4000000 in
theorem p_Ref_request_L154 {w : jw_T} (hw : jok w) {Γ : gm_T} {n : Nat} (hG : gd w Γ n)  {x : Bool} {φ : ph_T} {x0 : Nat} {x1 : Int32} {x2 : Int32} {x3 : Int32} {x4 : Int32} {x5 : Int64} {x7 : Int32} {x8 : Int64} {y0 : Int32} {q : Int32 × ph_T} (H : f_Ref_request_L154 Γ  φ x0 x1 x2 x3 x4 x5 x7 x8 y0 = some q) : J w M_Ref_request 154 [some (.ref x0), some (.int x1), some (.int x2), some (.int x3), some (.int x4), some (.long x5), none, some (.int x7), some (.long x8), none, none, none, none] [.int y0] (pic Γ φ) n x 0 0 (fq Γ n (.inl (some (.int q.1))) q.2) := by
  unfold f_Ref_request_L154 at H
  refine J_istore d_Ref_request_154 (Nat.le_of_ble_eq_true rfl) ?_
  refine J.ls (ls' := [some (.ref x0), some (.int x1), some (.int x2), some (.int x3), some (.int x4), some (.long x5), none, some (.int x7), some (.long x8), none, some (.int y0), none, none]) rfl ?_
  refine J_iconst (v := 0) d_Ref_request_156 (by decide) ?_
  refine J_istore d_Ref_request_157 (Nat.le_of_ble_eq_true rfl) ?_
  refine J.ls (ls' := [some (.ref x0), some (.int x1), some (.int x2), some (.int x3), some (.int x4), some (.long x5), none, some (.int x7), some (.long x8), none, some (.int y0), some (.int (0 : Int32)), none]) rfl ?_
  refine J_iconst (v := 0) d_Ref_request_159 (by decide) ?_
  refine J_istore d_Ref_request_160 (Nat.le_of_ble_eq_true rfl) ?_
  refine J.ls (ls' := [some (.ref x0), some (.int x1), some (.int x2), some (.int x3), some (.int x4), some (.long x5), none, some (.int x7), some (.long x8), none, some (.int y0), some (.int (0 : Int32)), some (.int (0 : Int32))]) rfl ?_
  refine J.drop [true, true, true, true, true, true, false, true, true, false, true, true, true] rfl ?_
  exact p_Ref_request_L162 hw hG  _ H
def f_Ref_request_L69 (Γ : gm_T)  (φ : ph_T) (x0 : Nat) (x1 : Int32) (x2 : Int32) (x3 : Int32) (x4 : Int32) (x5 : Int64) (x7 : Int32) (y0 : Int32) (y1 : Nat) : Option (Int32 × ph_T) :=
  @ite _ (Γ y1 = .inr 12) _ (
  @ite _ (Γ x0 = .inr 12) _ (
  if ((uI φ y1 0 y0).1 x0 0) ≤ 0 then
    if ((x2 >>> ((8 : Int32) &&& 31)) &&& (1 : Int32)) = (1 : Int32) then
      f_Ref_request_L154 Γ  (uI φ y1 0 y0) x0 x1 x2 x3 x4 x5 x7 ((((((Int32.toInt64 x4) + ((64 : Int64) * (Int32.toInt64 x3))) + (((Int32.toInt64 x2) &&& (15 : Int64)) <<< (Int32.toInt64 (22 : Int32) &&& 63))) + (((Int32.toInt64 (x2 >>> ((4 : Int32) &&& 31))) &&& (3 : Int64)) <<< (Int32.toInt64 (26 : Int32) &&& 63))) + (((Int32.toInt64 (x2 >>> ((6 : Int32) &&& 31))) &&& (3 : Int64)) <<< (Int32.toInt64 (28 : Int32) &&& 63))) + (((Int32.toInt64 (x2 >>> ((9 : Int32) &&& 31))) &&& (1 : Int64)) <<< (Int32.toInt64 (30 : Int32) &&& 63))) (1 : Int32)
    else
      f_Ref_request_L154 Γ  (uI φ y1 0 y0) x0 x1 x2 x3 x4 x5 x7 ((((((Int32.toInt64 x4) + ((64 : Int64) * (Int32.toInt64 x3))) + (((Int32.toInt64 x2) &&& (15 : Int64)) <<< (Int32.toInt64 (22 : Int32) &&& 63))) + (((Int32.toInt64 (x2 >>> ((4 : Int32) &&& 31))) &&& (3 : Int64)) <<< (Int32.toInt64 (26 : Int32) &&& 63))) + (((Int32.toInt64 (x2 >>> ((6 : Int32) &&& 31))) &&& (3 : Int64)) <<< (Int32.toInt64 (28 : Int32) &&& 63))) + (((Int32.toInt64 (x2 >>> ((9 : Int32) &&& 31))) &&& (1 : Int64)) <<< (Int32.toInt64 (30 : Int32) &&& 63))) (0 : Int32)
  else
    some ((0 : Int32), (uI φ y1 0 y0))
  ) none
  ) none
set_option maxRecDepth 100000 in
set_option maxHeartbeats 4000000 in
theorem p_Ref_request_L69 {w : jw_T} (hw : jok w) {Γ : gm_T} {n : Nat} (hG : gd w Γ n)  {x : Bool} {φ : ph_T} {x0 : Nat} {x1 : Int32} {x2 : Int32} {x3 : Int32} {x4 : Int32} {x5 : Int64} {x7 : Int32} {y0 : Int32} {y1 : Nat} {q : Int32 × ph_T} (H : f_Ref_request_L69 Γ  φ x0 x1 x2 x3 x4 x5 x7 y0 y1 = some q) : J w M_Ref_request 69 [some (.ref x0), some (.int x1), some (.int x2), some (.int x3), some (.int x4), some (.long x5), none, some (.int x7), none, none, none, none, none] [.int y0, .ref y1] (pic Γ φ) n x 0 0 (fq Γ n (.inl (some (.int q.1))) q.2) := by
  unfold f_Ref_request_L69 at H
  have g77 : Γ y1 = .inr 12 := by
    apply Classical.byContradiction
    intro q9
    rw [if_neg q9] at H
    cases H
  rw [if_pos g77] at H
  refine F_putI (ci := 12) (k := 0) hG (cf_Ref hw) (fl_Ref_303 hw) (by decide) (by decide) rfl d_Ref_request_69 rfl rfl rfl g77 ?_
  refine J_aload_n d_Ref_request_72 rfl ?_
  have g78 : Γ x0 = .inr 12 := by
    apply Classical.byContradiction
    intro q9
    rw [if_neg q9] at H
    cases H
  rw [if_pos g78] at H
  refine F_getI (ci := 12) (k := 0) hG (cf_Ref hw) (fl_Ref_303 hw) (by decide) (by decide) rfl d_Ref_request_73 g78 ?_
  refine J_if_le (tgt := 81) d_Ref_request_76 (by decide) ?_ ?_
  · intro c80
    rw [if_pos c80] at H
    refine J_iload d_Ref_request_81 rfl ?_
    refine J_i2l d_Ref_request_83 ?_
    refine J_ldc2 (v := 64) d_Ref_request_84 (kn_Ref_340 hw) ?_
    refine J_iload_n d_Ref_request_87 rfl ?_
    refine J_i2l d_Ref_request_88 ?_
    refine J_lmul d_Ref_request_89 ?_
    refine J_ladd d_Ref_request_90 ?_
    refine J_iload_n d_Ref_request_91 rfl ?_
    refine J_i2l d_Ref_request_92 ?_
    refine J_ldc2 (v := 15) d_Ref_request_93 (kn_Ref_310 hw) ?_
    refine J_land d_Ref_request_96 ?_
    refine J_bipush (v := 22) d_Ref_request_97 (by decide) ?_
    refine J_lshl d_Ref_request_99 ?_
    refine J_ladd d_Ref_request_100 ?_
    refine J_iload_n d_Ref_request_101 rfl ?_
    refine J_iconst (v := 4) d_Ref_request_102 (by decide) ?_
    refine J_ishr d_Ref_request_103 ?_
    refine J_i2l d_Ref_request_104 ?_
    refine J_ldc2 (v := 3) d_Ref_request_105 (kn_Ref_312 hw) ?_
    refine J_land d_Ref_request_108 ?_
    refine J_bipush (v := 26) d_Ref_request_109 (by decide) ?_
    refine J_lshl d_Ref_request_111 ?_
    refine J_ladd d_Ref_request_112 ?_
    refine J_iload_n d_Ref_request_113 rfl ?_
    refine J_bipush (v := 6) d_Ref_request_114 (by decide) ?_
    refine J_ishr d_Ref_request_116 ?_
    refine J_i2l d_Ref_request_117 ?_
    refine J_ldc2 (v := 3) d_Ref_request_118 (kn_Ref_312 hw) ?_
    refine J_land d_Ref_request_121 ?_
    refine J_bipush (v := 28) d_Ref_request_122 (by decide) ?_
    refine J_lshl d_Ref_request_124 ?_
    refine J_ladd d_Ref_request_125 ?_
    refine J_iload_n d_Ref_request_126 rfl ?_
    refine J_bipush (v := 9) d_Ref_request_127 (by decide) ?_
    refine J_ishr d_Ref_request_129 ?_
    refine J_i2l d_Ref_request_130 ?_
    refine J_lconst (v := 1) d_Ref_request_131 (by decide) ?_
    refine J_land d_Ref_request_132 ?_
    refine J_bipush (v := 30) d_Ref_request_133 (by decide) ?_
    refine J_lshl d_Ref_request_135 ?_
    refine J_ladd d_Ref_request_136 ?_
    refine J_lstore d_Ref_request_137 (Nat.le_of_ble_eq_true rfl) ?_
    refine J.ls (ls' := [some (.ref x0), some (.int x1), some (.int x2), some (.int x3), some (.int x4), some (.long x5), none, some (.int x7), some (.long ((((((Int32.toInt64 x4) + ((64 : Int64) * (Int32.toInt64 x3))) + (((Int32.toInt64 x2) &&& (15 : Int64)) <<< (Int32.toInt64 (22 : Int32) &&& 63))) + (((Int32.toInt64 (x2 >>> ((4 : Int32) &&& 31))) &&& (3 : Int64)) <<< (Int32.toInt64 (26 : Int32) &&& 63))) + (((Int32.toInt64 (x2 >>> ((6 : Int32) &&& 31))) &&& (3 : Int64)) <<< (Int32.toInt64 (28 : Int32) &&& 63))) + (((Int32.toInt64 (x2 >>> ((9 : Int32) &&& 31))) &&& (1 : Int64)) <<< (Int32.toInt64 (30 : Int32) &&& 63)))), none, none, none, none]) rfl ?_
    refine J_iload_n d_Ref_request_139 rfl ?_
    refine J_bipush (v := 8) d_Ref_request_140 (by decide) ?_
    refine J_ishr d_Ref_request_142 ?_
    refine J_iconst (v := 1) d_Ref_request_143 (by decide) ?_
    refine J_iand d_Ref_request_144 ?_
    refine J_iconst (v := 1) d_Ref_request_145 (by decide) ?_
    refine J_icmp_ne (tgt := 153) d_Ref_request_146 (by decide) ?_ ?_
    · intro c79
      rw [if_neg c79] at H
      refine J_iconst (v := 0) d_Ref_request_153 (by decide) ?_
      refine J.drop [true, true, true, true, true, true, false, true, true, false, false, false, false] rfl ?_
      exact p_Ref_request_L154 hw hG  H
    · intro c79
      rw [if_pos c79] at H
      refine J_iconst (v := 1) d_Ref_request_149 (by decide) ?_
      refine J_goto (tgt := 154) d_Ref_request_150 (by decide) ?_
      refine J.drop [true, true, true, true, true, true, false, true, true, false, false, false, false] rfl ?_
      exact p_Ref_request_L154 hw hG  H
  · intro c80
    rw [if_neg c80] at H
    refine J_iconst (v := 0) d_Ref_request_79 (by decide) ?_
    have H := Option.some.inj H
    subst H
    exact J_iret (st := []) d_Ref_request_80 rfl rfl ⟨rfl, rfl, rfl⟩
def f_Ref_request_L64 (Γ : gm_T)  (φ : ph_T) (x0 : Nat) (x1 : Int32) (x2 : Int32) (x3 : Int32) (x4 : Int32) (x5 : Int64) (x7 : Int32) (y0 : Nat) : Option (Int32 × ph_T) :=
  f_Ref_request_L69 Γ  φ x0 x1 x2 x3 x4 x5 x7 (2 : Int32) y0
set_option maxRecDepth 100000 in
set_option maxHeartbeats 4000000 in
theorem p_Ref_request_L64 {w : jw_T} (hw : jok w) {Γ : gm_T} {n : Nat} (hG : gd w Γ n)  {x : Bool} {φ : ph_T} {x0 : Nat} {x1 : Int32} {x2 : Int32} {x3 : Int32} {x4 : Int32} {x5 : Int64} {x7 : Int32} {y0 : Nat} {q : Int32 × ph_T} (H : f_Ref_request_L64 Γ  φ x0 x1 x2 x3 x4 x5 x7 y0 = some q) : J w M_Ref_request 64 [some (.ref x0), some (.int x1), some (.int x2), some (.int x3), some (.int x4), some (.long x5), none, some (.int x7), none, none, none, none, none] [.ref y0] (pic Γ φ) n x 0 0 (fq Γ n (.inl (some (.int q.1))) q.2) := by
  unfold f_Ref_request_L64 at H
  refine J_iconst (v := 2) d_Ref_request_64 (by decide) ?_
  refine J_goto (tgt := 69) d_Ref_request_65 (by decide) ?_
  refine J.drop [true, true, true, true, true, true, false, true, false, false, false, false, false] rfl ?_
  exact p_Ref_request_L69 hw hG  H
def f_Ref_request_L35 (Γ : gm_T)  (φ : ph_T) (x0 : Nat) (x1 : Int32) (x2 : Int32) (x3 : Int32) (x4 : Int32) (x5 : Int64) (x7 : Int32) (y0 : Nat) : Option (Int32 × ph_T) :=
  f_Ref_request_L69 Γ  φ x0 x1 x2 x3 x4 x5 x7 (1 : Int32) y0
set_option maxRecDepth 100000 in
set_option maxHeartbeats 4000000 in
theorem p_Ref_request_L35 {w : jw_T} (hw : jok w) {Γ : gm_T} {n : Nat} (hG : gd w Γ n)  {x : Bool} {φ : ph_T} {x0 : Nat} {x1 : Int32} {x2 : Int32} {x3 : Int32} {x4 : Int32} {x5 : Int64} {x7 : Int32} {y0 : Nat} {q : Int32 × ph_T} (H : f_Ref_request_L35 Γ  φ x0 x1 x2 x3 x4 x5 x7 y0 = some q) : J w M_Ref_request 35 [some (.ref x0), some (.int x1), some (.int x2), some (.int x3), some (.int x4), some (.long x5), none, some (.int x7), none, none, none, none, none] [.ref y0] (pic Γ φ) n x 0 0 (fq Γ n (.inl (some (.int q.1))) q.2) := by
  unfold f_Ref_request_L35 at H
  refine J_iconst (v := 1) d_Ref_request_35 (by decide) ?_
  refine J_goto (tgt := 69) d_Ref_request_36 (by decide) ?_
  refine J.drop [true, true, true, true, true, true, false, true, false, false, false, false, false] rfl ?_
  exact p_Ref_request_L69 hw hG  H
def f_Ref_request (Γ : gm_T) (φ : ph_T) (this : Nat) (p0 : Int32) (p1 : Int32) (p2 : Int32) (p3 : Int32) (p4 : Int64) : Option (Int32 × ph_T) :=
  @ite _ (Γ this = .inr 12) _ (
  Option.bind (f_Ref_in Γ φ (Int32.toInt64 p0) (0 : Int64) ((Int32.toInt64 (φ.1 this 1)) - (1 : Int64))) fun q82 =>
  if q82.1 = 0 then
    f_Ref_request_L35 Γ  q82.2 this p0 p1 p2 p3 p4 (φ.1 this 15) this
  else
    Option.bind (f_Ref_in Γ q82.2 (Int32.toInt64 p2) (0 : Int64) (65535 : Int64)) fun q83 =>
    if q83.1 = 0 then
      f_Ref_request_L35 Γ  q83.2 this p0 p1 p2 p3 p4 (φ.1 this 15) this
    else
      Option.bind (f_Ref_in Γ q83.2 (Int32.toInt64 p1) (0 : Int64) (32767 : Int64)) fun q84 =>
      if q84.1 = 0 then
        f_Ref_request_L64 Γ  q84.2 this p0 p1 p2 p3 p4 (φ.1 this 15) this
      else
        Option.bind (f_Ref_in Γ q84.2 (Int32.toInt64 p3) (0 : Int64) (15 : Int64)) fun q85 =>
        if q85.1 = 0 then
          f_Ref_request_L64 Γ  q85.2 this p0 p1 p2 p3 p4 (φ.1 this 15) this
        else
          f_Ref_request_L69 Γ  q85.2 this p0 p1 p2 p3 p4 (φ.1 this 15) (0 : Int32) this
  ) none
set_option maxRecDepth 100000 in
set_option maxHeartbeats 4000000 in
theorem p_Ref_request {w : jw_T} (hw : jok w) {Γ : gm_T} {n : Nat} (hG : gd w Γ n) {x : Bool} {φ : ph_T} {this : Nat} {p0 : Int32} {p1 : Int32} {p2 : Int32} {p3 : Int32} {p4 : Int64} {q : Int32 × ph_T} (H : f_Ref_request Γ φ this p0 p1 p2 p3 p4 = some q) : jc w M_Ref_request [.ref this, .int p0, .int p1, .int p2, .int p3, .long p4] (pic Γ φ) n x 0 0 (fq Γ n (.inl (some (.int q.1))) q.2) := by
  refine jc.of (by simp only [jent_r, jent_i, jent_l, jent_a, jent_0]; exact Nat.le_of_ble_eq_true rfl) ?_
  have hls : jents [.ref this, .int p0, .int p1, .int p2, .int p3, .long p4] (jm_nL M_Ref_request) = [some (.ref this), some (.int p0), some (.int p1), some (.int p2), some (.int p3), some (.long p4), none, none, none, none, none, none, none] := by simp only [jents, jent_r, jent_i, jent_l, jent_a, jent_0]; rfl
  rw [hls]
  clear hls
  unfold f_Ref_request at H
  refine J_aload_n d_Ref_request_0 rfl ?_
  have g81 : Γ this = .inr 12 := by
    apply Classical.byContradiction
    intro q9
    rw [if_neg q9] at H
    cases H
  rw [if_pos g81] at H
  refine F_getI (ci := 12) (k := 15) hG (cf_Ref hw) (fl_Ref_337 hw) (by decide) (by decide) rfl d_Ref_request_1 g81 ?_
  refine J_istore d_Ref_request_4 (Nat.le_of_ble_eq_true rfl) ?_
  refine J.ls (ls' := [some (.ref this), some (.int p0), some (.int p1), some (.int p2), some (.int p3), some (.long p4), none, some (.int (φ.1 this 15)), none, none, none, none, none]) rfl ?_
  refine J_aload_n d_Ref_request_6 rfl ?_
  refine J_iload_n d_Ref_request_7 rfl ?_
  refine J_i2l d_Ref_request_8 ?_
  refine J_lconst (v := 0) d_Ref_request_9 (by decide) ?_
  refine J_aload_n d_Ref_request_10 rfl ?_
  refine F_getI (ci := 12) (k := 1) hG (cf_Ref hw) (fl_Ref_290 hw) (by decide) (by decide) rfl d_Ref_request_11 g81 ?_
  refine J_i2l d_Ref_request_14 ?_
  refine J_lconst (v := 1) d_Ref_request_15 (by decide) ?_
  refine J_lsub d_Ref_request_16 ?_
  obtain ⟨q82, hq82, H⟩ := Option.bind_eq_some_iff.mp H
  refine J_callS (kc := 0) (ks := 0) (kc' := 0) (ks' := 0) (as := [.long (Int32.toInt64 p0), .long (0 : Int64), .long ((Int32.toInt64 (φ.1 this 1)) - (1 : Int64))]) (st := [.ref this]) (mf_Ref_in hw) (ms_Ref_599 hw) d_Ref_request_17 ln_Ref_in (by decide) (by first | exact Nat.le_of_ble_eq_true rfl | (simp only [List.map_cons, List.map_nil, List.sum_cons, List.sum_nil, va_rf_cat]; exact Nat.le_of_ble_eq_true rfl)) rfl (p_Ref_in hw hG hq82) ?_ (fun E h' n' x' e1 => by cases e1.1)
  intro v9 h9 n9 x9 e9
  obtain ⟨e91, e92, e93⟩ := e9
  cases e91
  subst e92
  subst e93
  clear x
  rename Bool => x
  show J _ _ _ _ (_ :: _) _ _ _ _ _ _
  refine J_if_eq (tgt := 35) d_Ref_request_20 (by decide) ?_ ?_
  · intro c89
    rw [if_pos c89] at H
    refine J.drop [true, true, true, true, true, true, false, true, false, false, false, false, false] rfl ?_
    exact p_Ref_request_L35 hw hG  H
  · intro c89
    rw [if_neg c89] at H
    refine J_iload_n d_Ref_request_23 rfl ?_
    refine J_i2l d_Ref_request_24 ?_
    refine J_lconst (v := 0) d_Ref_request_25 (by decide) ?_
    refine J_ldc2 (v := 65535) d_Ref_request_26 (kn_Ref_308 hw) ?_
    obtain ⟨q83, hq83, H⟩ := Option.bind_eq_some_iff.mp H
    refine J_callS (kc := 0) (ks := 0) (kc' := 0) (ks' := 0) (as := [.long (Int32.toInt64 p2), .long (0 : Int64), .long (65535 : Int64)]) (st := [.ref this]) (mf_Ref_in hw) (ms_Ref_599 hw) d_Ref_request_29 ln_Ref_in (by decide) (by first | exact Nat.le_of_ble_eq_true rfl | (simp only [List.map_cons, List.map_nil, List.sum_cons, List.sum_nil, va_rf_cat]; exact Nat.le_of_ble_eq_true rfl)) rfl (p_Ref_in hw hG hq83) ?_ (fun E h' n' x' e1 => by cases e1.1)
    intro v9 h9 n9 x9 e9
    obtain ⟨e91, e92, e93⟩ := e9
    cases e91
    subst e92
    subst e93
    clear x
    rename Bool => x
    show J _ _ _ _ (_ :: _) _ _ _ _ _ _
    refine J_if_ne (tgt := 39) d_Ref_request_32 (by decide) ?_ ?_
    · intro c88
      rw [if_neg c88] at H
      refine J_iload_n d_Ref_request_39 rfl ?_
      refine J_i2l d_Ref_request_40 ?_
      refine J_lconst (v := 0) d_Ref_request_41 (by decide) ?_
      refine J_ldc2 (v := 32767) d_Ref_request_42 (kn_Ref_614 hw) ?_
      obtain ⟨q84, hq84, H⟩ := Option.bind_eq_some_iff.mp H
      refine J_callS (kc := 0) (ks := 0) (kc' := 0) (ks' := 0) (as := [.long (Int32.toInt64 p1), .long (0 : Int64), .long (32767 : Int64)]) (st := [.ref this]) (mf_Ref_in hw) (ms_Ref_599 hw) d_Ref_request_45 ln_Ref_in (by decide) (by first | exact Nat.le_of_ble_eq_true rfl | (simp only [List.map_cons, List.map_nil, List.sum_cons, List.sum_nil, va_rf_cat]; exact Nat.le_of_ble_eq_true rfl)) rfl (p_Ref_in hw hG hq84) ?_ (fun E h' n' x' e1 => by cases e1.1)
      intro v9 h9 n9 x9 e9
      obtain ⟨e91, e92, e93⟩ := e9
      cases e91
      subst e92
      subst e93
      clear x
      rename Bool => x
      show J _ _ _ _ (_ :: _) _ _ _ _ _ _
      refine J_if_eq (tgt := 64) d_Ref_request_48 (by decide) ?_ ?_
      · intro c87
        rw [if_pos c87] at H
        refine J.drop [true, true, true, true, true, true, false, true, false, false, false, false, false] rfl ?_
        exact p_Ref_request_L64 hw hG  H
      · intro c87
        rw [if_neg c87] at H
        refine J_iload d_Ref_request_51 rfl ?_
        refine J_i2l d_Ref_request_53 ?_
        refine J_lconst (v := 0) d_Ref_request_54 (by decide) ?_
        refine J_ldc2 (v := 15) d_Ref_request_55 (kn_Ref_310 hw) ?_
        obtain ⟨q85, hq85, H⟩ := Option.bind_eq_some_iff.mp H
        refine J_callS (kc := 0) (ks := 0) (kc' := 0) (ks' := 0) (as := [.long (Int32.toInt64 p3), .long (0 : Int64), .long (15 : Int64)]) (st := [.ref this]) (mf_Ref_in hw) (ms_Ref_599 hw) d_Ref_request_58 ln_Ref_in (by decide) (by first | exact Nat.le_of_ble_eq_true rfl | (simp only [List.map_cons, List.map_nil, List.sum_cons, List.sum_nil, va_rf_cat]; exact Nat.le_of_ble_eq_true rfl)) rfl (p_Ref_in hw hG hq85) ?_ (fun E h' n' x' e1 => by cases e1.1)
        intro v9 h9 n9 x9 e9
        obtain ⟨e91, e92, e93⟩ := e9
        cases e91
        subst e92
        subst e93
        clear x
        rename Bool => x
        show J _ _ _ _ (_ :: _) _ _ _ _ _ _
        refine J_if_ne (tgt := 68) d_Ref_request_61 (by decide) ?_ ?_
        · intro c86
          rw [if_neg c86] at H
          refine J_iconst (v := 0) d_Ref_request_68 (by decide) ?_
          refine J.drop [true, true, true, true, true, true, false, true, false, false, false, false, false] rfl ?_
          exact p_Ref_request_L69 hw hG  H
        · intro c86
          rw [if_pos c86] at H
          refine J.drop [true, true, true, true, true, true, false, true, false, false, false, false, false] rfl ?_
          exact p_Ref_request_L64 hw hG  H
    · intro c88
      rw [if_pos c88] at H
      refine J.drop [true, true, true, true, true, true, false, true, false, false, false, false, false] rfl ?_
      exact p_Ref_request_L35 hw hG  H
