theorem ln_Ref_unsent : (parseMethodDescriptor y_Ref_unsent.desc).map (fun q => q.parameters.length) = some 2 := by decide +kernel
def f_Ref_unsent_L42 (Γ : gm_T) (Kc2 : ph_T → Nat → Int32 → Int32 → Int32 → Option (Int32 × ph_T)) (φ : ph_T) (x0 : Nat) (x1 : Int32) (x2 : Int32) (x3 : Int32) : Option (Int32 × ph_T) :=
  Kc2 φ x0 x1 x2 (x3 + (1 : Int32))
set_option maxRecDepth 100000 in
set_option maxHeartbeats 4000000 in
theorem p_Ref_unsent_L42 {w : jw_T} (hw : jok w) {Γ : gm_T} {n : Nat} (hG : gd w Γ n) {Kc2 : ph_T → Nat → Int32 → Int32 → Int32 → Option (Int32 × ph_T)} (hKc2 : ∀ {x : Bool} {φ : ph_T} {x0 : Nat} {x1 : Int32} {x2 : Int32} {x3 : Int32} {q : Int32 × ph_T}, Kc2 φ x0 x1 x2 x3 = some q → J w M_Ref_unsent 2 [some (.ref x0), some (.int x1), some (.int x2), some (.int x3)] [] (pic Γ φ) n x 0 0 (fq Γ n (.inl (some (.int q.1))) q.2)) {x : Bool} {φ : ph_T} {x0 : Nat} {x1 : Int32} {x2 : Int32} {x3 : Int32} {q : Int32 × ph_T} (H : f_Ref_unsent_L42 Γ Kc2 φ x0 x1 x2 x3 = some q) : J w M_Ref_unsent 42 [some (.ref x0), some (.int x1), some (.int x2), some (.int x3)] [] (pic Γ φ) n x 0 0 (fq Γ n (.inl (some (.int q.1))) q.2) := by
  unfold f_Ref_unsent_L42 at H
  refine J_iinc (v := x3 + 1) d_Ref_unsent_42 rfl (by rw [show Int32.ofInt 1 = (1 : Int32) from by decide]) ?_
  refine J.ls (ls' := [some (.ref x0), some (.int x1), some (.int x2), some (.int (x3 + (1 : Int32)))]) rfl ?_
  refine J_goto (tgt := 2) d_Ref_unsent_45 (by decide) ?_
  refine J.drop [true, true, true, true] rfl ?_
  exact hKc2 H
def f_Ref_unsent_L2 (Γ : gm_T)  : Nat → ph_T → Nat → Int32 → Int32 → Int32 → Option (Int32 × ph_T)
  | 0, _, _, _, _, _ => none
  | fu + 1, φ, x0, x1, x2, x3 =>
    @ite _ (Γ x0 = .inr 12) _ (
    if (φ.1 x0 15) ≤ x3 then
      some ((-1 : Int32), φ)
    else
      Option.bind (φ.2.2 x0 16) fun a2 =>
      Option.bind (gA Γ a2 0) fun N3 =>
      Option.bind (ix x3 N3) fun k4 =>
      if (φ.1 a2 k4) = x1 then
        Option.bind (φ.2.2 x0 20) fun a5 =>
        Option.bind (gA Γ a5 2) fun N6 =>
        Option.bind (ix x3 N6) fun k7 =>
        if (φ.1 a5 k7) = x2 then
          Option.bind (φ.2.2 x0 28) fun a8 =>
          Option.bind (gA Γ a8 0) fun N9 =>
          Option.bind (ix x3 N9) fun k10 =>
          if (φ.1 a8 k10) = (-1 : Int32) then
            some (x3, φ)
          else
            f_Ref_unsent_L42 Γ (f_Ref_unsent_L2 Γ  fu) φ x0 x1 x2 x3
        else
          f_Ref_unsent_L42 Γ (f_Ref_unsent_L2 Γ  fu) φ x0 x1 x2 x3
      else
        f_Ref_unsent_L42 Γ (f_Ref_unsent_L2 Γ  fu) φ x0 x1 x2 x3
    ) none
set_option maxRecDepth 100000 in
set_option maxHeartbeats 4000000 in
theorem p_Ref_unsent_L2 {w : jw_T} (hw : jok w) {Γ : gm_T} {n : Nat} (hG : gd w Γ n)  : ∀ (fu : Nat) {x : Bool} {φ : ph_T} {x0 : Nat} {x1 : Int32} {x2 : Int32} {x3 : Int32} {q : Int32 × ph_T}, f_Ref_unsent_L2 Γ  fu φ x0 x1 x2 x3 = some q → J w M_Ref_unsent 2 [some (.ref x0), some (.int x1), some (.int x2), some (.int x3)] [] (pic Γ φ) n x 0 0 (fq Γ n (.inl (some (.int q.1))) q.2) := by
  intro fu
  induction fu with
  | zero =>
    intro x φ x0 x1 x2 x3 q H
    cases H
  | succ fu ih =>
    intro x φ x0 x1 x2 x3 q H
    unfold f_Ref_unsent_L2 at H
    refine J_iload_n d_Ref_unsent_2 rfl ?_
    refine J_aload_n d_Ref_unsent_3 rfl ?_
    have g1 : Γ x0 = .inr 12 := by
      apply Classical.byContradiction
      intro q9
      rw [if_neg q9] at H
      cases H
    rw [if_pos g1] at H
    refine F_getI (ci := 12) (k := 15) hG (cf_Ref hw) (fl_Ref_337 hw) (by decide) (by decide) rfl d_Ref_unsent_4 g1 ?_
    refine J_icmp_ge (tgt := 48) d_Ref_unsent_7 (by decide) ?_ ?_
    · intro c14
      rw [if_pos c14] at H
      refine J_iconst (v := -1) d_Ref_unsent_48 (by decide) ?_
      have H := Option.some.inj H
      subst H
      exact J_iret (st := []) d_Ref_unsent_49 rfl rfl ⟨rfl, rfl, rfl⟩
    · intro c14
      rw [if_neg c14] at H
      refine J_aload_n d_Ref_unsent_10 rfl ?_
      refine F_getR (ci := 12) (k := 16) hG (cf_Ref hw) (fl_Ref_36 hw) (by decide) (by decide) rfl d_Ref_unsent_11 g1 ?_
      refine J_iload_n d_Ref_unsent_14 rfl ?_
      obtain ⟨a2, ha2, H⟩ := Option.bind_eq_some_iff.mp H
      rw [j_rf ha2]
      obtain ⟨N3, hN3, H⟩ := Option.bind_eq_some_iff.mp H
      obtain ⟨k4, hk4, H⟩ := Option.bind_eq_some_iff.mp H
      refine F_iald k4 hw hG d_Ref_unsent_15 (gA_some hN3) (ix_some hk4) ?_
      refine J_iload_n d_Ref_unsent_16 rfl ?_
      refine J_icmp_ne (tgt := 42) d_Ref_unsent_17 (by decide) ?_ ?_
      · intro c13
        rw [if_neg c13] at H
        refine J.drop [true, true, true, true] rfl ?_
        exact p_Ref_unsent_L42 hw hG ih H
      · intro c13
        rw [if_pos c13] at H
        refine J_aload_n d_Ref_unsent_20 rfl ?_
        refine F_getR (ci := 12) (k := 20) hG (cf_Ref hw) (fl_Ref_48 hw) (by decide) (by decide) rfl d_Ref_unsent_21 g1 ?_
        refine J_iload_n d_Ref_unsent_24 rfl ?_
        obtain ⟨a5, ha5, H⟩ := Option.bind_eq_some_iff.mp H
        rw [j_rf ha5]
        obtain ⟨N6, hN6, H⟩ := Option.bind_eq_some_iff.mp H
        obtain ⟨k7, hk7, H⟩ := Option.bind_eq_some_iff.mp H
        refine F_zald k7 hw hG d_Ref_unsent_25 (gA_some hN6) (ix_some hk7) ?_
        refine J_iload_n d_Ref_unsent_26 rfl ?_
        refine J_icmp_ne (tgt := 42) d_Ref_unsent_27 (by decide) ?_ ?_
        · intro c12
          rw [if_neg c12] at H
          refine J.drop [true, true, true, true] rfl ?_
          exact p_Ref_unsent_L42 hw hG ih H
        · intro c12
          rw [if_pos c12] at H
          refine J_aload_n d_Ref_unsent_30 rfl ?_
          refine F_getR (ci := 12) (k := 28) hG (cf_Ref hw) (fl_Ref_73 hw) (by decide) (by decide) rfl d_Ref_unsent_31 g1 ?_
          refine J_iload_n d_Ref_unsent_34 rfl ?_
          obtain ⟨a8, ha8, H⟩ := Option.bind_eq_some_iff.mp H
          rw [j_rf ha8]
          obtain ⟨N9, hN9, H⟩ := Option.bind_eq_some_iff.mp H
          obtain ⟨k10, hk10, H⟩ := Option.bind_eq_some_iff.mp H
          refine F_iald k10 hw hG d_Ref_unsent_35 (gA_some hN9) (ix_some hk10) ?_
          refine J_iconst (v := -1) d_Ref_unsent_36 (by decide) ?_
          refine J_icmp_ne (tgt := 42) d_Ref_unsent_37 (by decide) ?_ ?_
          · intro c11
            rw [if_neg c11] at H
            refine J.drop [true, true, true, true] rfl ?_
            exact p_Ref_unsent_L42 hw hG ih H
          · intro c11
            rw [if_pos c11] at H
            refine J_iload_n d_Ref_unsent_40 rfl ?_
            have H := Option.some.inj H
            subst H
            exact J_iret (st := []) d_Ref_unsent_41 rfl rfl ⟨rfl, rfl, rfl⟩
def f_Ref_unsent (Γ : gm_T) (φ : ph_T) (this : Nat) (p0 : Int32) (p1 : Int32) : Option (Int32 × ph_T) :=
  f_Ref_unsent_L2 Γ  jF φ this p0 p1 (0 : Int32)
set_option maxRecDepth 100000 in
set_option maxHeartbeats 4000000 in
theorem p_Ref_unsent {w : jw_T} (hw : jok w) {Γ : gm_T} {n : Nat} (hG : gd w Γ n) {x : Bool} {φ : ph_T} {this : Nat} {p0 : Int32} {p1 : Int32} {q : Int32 × ph_T} (H : f_Ref_unsent Γ φ this p0 p1 = some q) : jc w M_Ref_unsent [.ref this, .int p0, .int p1] (pic Γ φ) n x 0 0 (fq Γ n (.inl (some (.int q.1))) q.2) := by
  refine jc.of (by simp only [jent_r, jent_i, jent_l, jent_a, jent_0]; exact Nat.le_of_ble_eq_true rfl) ?_
  have hls : jents [.ref this, .int p0, .int p1] (jm_nL M_Ref_unsent) = [some (.ref this), some (.int p0), some (.int p1), none] := by simp only [jents, jent_r, jent_i, jent_l, jent_a, jent_0]; rfl
  rw [hls]
  clear hls
  unfold f_Ref_unsent at H
  refine J_iconst (v := 0) d_Ref_unsent_0 (by decide) ?_
  refine J_istore_n d_Ref_unsent_1 (Nat.le_of_ble_eq_true rfl) ?_
  refine J.ls (ls' := [some (.ref this), some (.int p0), some (.int p1), some (.int (0 : Int32))]) rfl ?_
  refine J.drop [true, true, true, true] rfl ?_
  exact p_Ref_unsent_L2 hw hG  _ H
theorem ln_Ref_tells : (parseMethodDescriptor y_Ref_tells.desc).map (fun q => q.parameters.length) = some 2 := by decide +kernel
def f_Ref_tells_L17 (Γ : gm_T)  (φ : ph_T) (y0 : Int32) : Option (Int32 × ph_T) :=
  @ite _ (y0 = 0 ∨ y0 = 1) _ (
  some (y0, φ)
  ) none
set_option maxRecDepth 100000 in
set_option maxHeartbeats 4000000 in
theorem p_Ref_tells_L17 {w : jw_T} (hw : jok w) {Γ : gm_T} {n : Nat} (hG : gd w Γ n)  {x : Bool} {φ : ph_T} {y0 : Int32} {q : Int32 × ph_T} (H : f_Ref_tells_L17 Γ  φ y0 = some q) : J w M_Ref_tells 17 [none, none] [.int y0] (pic Γ φ) n x 0 0 (fq Γ n (.inl (some (.int q.1))) q.2) := by
  unfold f_Ref_tells_L17 at H
  have z2 : y0 = 0 ∨ y0 = 1 := by
    apply Classical.byContradiction
    intro q9
    rw [if_neg q9] at H
    cases H
  rw [if_pos z2] at H
  have H := Option.some.inj H
  subst H
  exact J_iret (st := []) d_Ref_tells_17 rfl (narrow_z z2).1 ⟨rfl, rfl, rfl⟩
def f_Ref_tells (Γ : gm_T) (φ : ph_T) (p0 : Int32) (p1 : Int32) : Option (Int32 × ph_T) :=
  @ite _ ((16 : Int32) = 0) _ none (
  if ((p0 >>> ((p1 - p1 / (16 : Int32) * (16 : Int32)) &&& 31)) &&& (1 : Int32)) = (1 : Int32) then
    f_Ref_tells_L17 Γ  φ (1 : Int32)
  else
    f_Ref_tells_L17 Γ  φ (0 : Int32)
  )
set_option maxRecDepth 100000 in
set_option maxHeartbeats 4000000 in
theorem p_Ref_tells {w : jw_T} (hw : jok w) {Γ : gm_T} {n : Nat} (hG : gd w Γ n) {x : Bool} {φ : ph_T} {p0 : Int32} {p1 : Int32} {q : Int32 × ph_T} (H : f_Ref_tells Γ φ p0 p1 = some q) : jc w M_Ref_tells [.int p0, .int p1] (pic Γ φ) n x 0 0 (fq Γ n (.inl (some (.int q.1))) q.2) := by
  refine jc.of (by simp only [jent_r, jent_i, jent_l, jent_a, jent_0]; exact Nat.le_of_ble_eq_true rfl) ?_
  have hls : jents [.int p0, .int p1] (jm_nL M_Ref_tells) = [some (.int p0), some (.int p1)] := by simp only [jents, jent_r, jent_i, jent_l, jent_a, jent_0]; rfl
  rw [hls]
  clear hls
  unfold f_Ref_tells at H
  refine J_iload_n d_Ref_tells_0 rfl ?_
  refine J_iload_n d_Ref_tells_1 rfl ?_
  refine J_bipush (v := 16) d_Ref_tells_2 (by decide) ?_
  have h3 : ¬ (16 : Int32) = 0 := by
    intro q9
    rw [if_pos q9] at H
    cases H
  rw [if_neg h3] at H
  refine J_irem d_Ref_tells_4 h3 ?_
  refine J_ishr d_Ref_tells_5 ?_
  refine J_iconst (v := 1) d_Ref_tells_6 (by decide) ?_
  refine J_iand d_Ref_tells_7 ?_
  refine J_iconst (v := 1) d_Ref_tells_8 (by decide) ?_
  refine J_icmp_ne (tgt := 16) d_Ref_tells_9 (by decide) ?_ ?_
  · intro c4
    rw [if_neg c4] at H
    refine J_iconst (v := 0) d_Ref_tells_16 (by decide) ?_
    refine J.drop [false, false] rfl ?_
    exact p_Ref_tells_L17 hw hG  H
  · intro c4
    rw [if_pos c4] at H
    refine J_iconst (v := 1) d_Ref_tells_12 (by decide) ?_
    refine J_goto (tgt := 17) d_Ref_tells_13 (by decide) ?_
    refine J.drop [false, false] rfl ?_
    exact p_Ref_tells_L17 hw hG  H
theorem ln_Ref_burstOf : (parseMethodDescriptor y_Ref_burstOf.desc).map (fun q => q.parameters.length) = some 1 := by decide +kernel
def f_Ref_burstOf_L70 (Γ : gm_T)  (φ : ph_T) (x0 : Nat) (x1 : Int32) (y0 : Int64) (y1 : Int64) : Option (Int64 × ph_T) :=
  @ite _ (Γ x0 = .inr 12) _ (
  Option.bind (φ.2.2 x0 23) fun a2 =>
  Option.bind (gA Γ a2 0) fun N3 =>
  Option.bind (ix x1 N3) fun k4 =>
  some (((y1 + y0) + ((Int32.toInt64 (φ.1 a2 k4)) <<< (Int32.toInt64 (31 : Int32) &&& 63))), φ)
  ) none
set_option maxRecDepth 100000 in
set_option maxHeartbeats 4000000 in
theorem p_Ref_burstOf_L70 {w : jw_T} (hw : jok w) {Γ : gm_T} {n : Nat} (hG : gd w Γ n)  {x : Bool} {φ : ph_T} {x0 : Nat} {x1 : Int32} {y0 : Int64} {y1 : Int64} {q : Int64 × ph_T} (H : f_Ref_burstOf_L70 Γ  φ x0 x1 y0 y1 = some q) : J w M_Ref_burstOf 70 [some (.ref x0), some (.int x1)] [.long y0, .long y1] (pic Γ φ) n x 0 0 (fq Γ n (.inl (some (.long q.1))) q.2) := by
  unfold f_Ref_burstOf_L70 at H
  refine J_ladd d_Ref_burstOf_70 ?_
  refine J_aload_n d_Ref_burstOf_71 rfl ?_
  have g1 : Γ x0 = .inr 12 := by
    apply Classical.byContradiction
    intro q9
    rw [if_neg q9] at H
    cases H
  rw [if_pos g1] at H
  refine F_getR (ci := 12) (k := 23) hG (cf_Ref hw) (fl_Ref_57 hw) (by decide) (by decide) rfl d_Ref_burstOf_72 g1 ?_
  refine J_iload_n d_Ref_burstOf_75 rfl ?_
  obtain ⟨a2, ha2, H⟩ := Option.bind_eq_some_iff.mp H
  rw [j_rf ha2]
  obtain ⟨N3, hN3, H⟩ := Option.bind_eq_some_iff.mp H
  obtain ⟨k4, hk4, H⟩ := Option.bind_eq_some_iff.mp H
  refine F_iald k4 hw hG d_Ref_burstOf_76 (gA_some hN3) (ix_some hk4) ?_
  refine J_i2l d_Ref_burstOf_77 ?_
  refine J_bipush (v := 31) d_Ref_burstOf_78 (by decide) ?_
  refine J_lshl d_Ref_burstOf_80 ?_
  refine J_ladd d_Ref_burstOf_81 ?_
  have H := Option.some.inj H
  subst H
  exact J_lret (st := []) d_Ref_burstOf_82 rfl ⟨rfl, rfl, rfl⟩
def f_Ref_burstOf (Γ : gm_T) (φ : ph_T) (this : Nat) (p0 : Int32) : Option (Int64 × ph_T) :=
  @ite _ (Γ this = .inr 12) _ (
  Option.bind (φ.2.2 this 25) fun a6 =>
  Option.bind (gA Γ a6 0) fun N7 =>
  Option.bind (ix p0 N7) fun k8 =>
  Option.bind (φ.2.2 this 24) fun a9 =>
  Option.bind (gA Γ a9 0) fun N10 =>
  Option.bind (ix p0 N10) fun k11 =>
  Option.bind (φ.2.2 this 17) fun a12 =>
  Option.bind (gA Γ a12 0) fun N13 =>
  Option.bind (ix p0 N13) fun k14 =>
  Option.bind (φ.2.2 this 18) fun a15 =>
  Option.bind (gA Γ a15 0) fun N16 =>
  Option.bind (ix p0 N16) fun k17 =>
  Option.bind (φ.2.2 this 19) fun a18 =>
  Option.bind (gA Γ a18 0) fun N19 =>
  Option.bind (ix p0 N19) fun k20 =>
  Option.bind (φ.2.2 this 21) fun a21 =>
  Option.bind (gA Γ a21 2) fun N22 =>
  Option.bind (ix p0 N22) fun k23 =>
  if (φ.1 a21 k23) = 0 then
    f_Ref_burstOf_L70 Γ  φ this p0 (0 : Int64) (((((Int32.toInt64 (φ.1 a6 k8)) + ((64 : Int64) * (Int32.toInt64 (φ.1 a9 k11)))) + (((Int32.toInt64 (φ.1 a12 k14)) - (1 : Int64)) <<< (Int32.toInt64 (22 : Int32) &&& 63))) + ((Int32.toInt64 (φ.1 a15 k17)) <<< (Int32.toInt64 (26 : Int32) &&& 63))) + ((Int32.toInt64 (φ.1 a18 k20)) <<< (Int32.toInt64 (28 : Int32) &&& 63)))
  else
    f_Ref_burstOf_L70 Γ  φ this p0 (1073741824 : Int64) (((((Int32.toInt64 (φ.1 a6 k8)) + ((64 : Int64) * (Int32.toInt64 (φ.1 a9 k11)))) + (((Int32.toInt64 (φ.1 a12 k14)) - (1 : Int64)) <<< (Int32.toInt64 (22 : Int32) &&& 63))) + ((Int32.toInt64 (φ.1 a15 k17)) <<< (Int32.toInt64 (26 : Int32) &&& 63))) + ((Int32.toInt64 (φ.1 a18 k20)) <<< (Int32.toInt64 (28 : Int32) &&& 63)))
  ) none
set_option maxRecDepth 100000 in
set_option maxHeartbeats 4000000 in
theorem p_Ref_burstOf {w : jw_T} (hw : jok w) {Γ : gm_T} {n : Nat} (hG : gd w Γ n) {x : Bool} {φ : ph_T} {this : Nat} {p0 : Int32} {q : Int64 × ph_T} (H : f_Ref_burstOf Γ φ this p0 = some q) : jc w M_Ref_burstOf [.ref this, .int p0] (pic Γ φ) n x 0 0 (fq Γ n (.inl (some (.long q.1))) q.2) := by
  refine jc.of (by simp only [jent_r, jent_i, jent_l, jent_a, jent_0]; exact Nat.le_of_ble_eq_true rfl) ?_
  have hls : jents [.ref this, .int p0] (jm_nL M_Ref_burstOf) = [some (.ref this), some (.int p0)] := by simp only [jents, jent_r, jent_i, jent_l, jent_a, jent_0]; rfl
  rw [hls]
  clear hls
  unfold f_Ref_burstOf at H
  refine J_aload_n d_Ref_burstOf_0 rfl ?_
  have g5 : Γ this = .inr 12 := by
    apply Classical.byContradiction
    intro q9
    rw [if_neg q9] at H
    cases H
  rw [if_pos g5] at H
  refine F_getR (ci := 12) (k := 25) hG (cf_Ref hw) (fl_Ref_63 hw) (by decide) (by decide) rfl d_Ref_burstOf_1 g5 ?_
  refine J_iload_n d_Ref_burstOf_4 rfl ?_
  obtain ⟨a6, ha6, H⟩ := Option.bind_eq_some_iff.mp H
  rw [j_rf ha6]
  obtain ⟨N7, hN7, H⟩ := Option.bind_eq_some_iff.mp H
  obtain ⟨k8, hk8, H⟩ := Option.bind_eq_some_iff.mp H
  refine F_iald k8 hw hG d_Ref_burstOf_5 (gA_some hN7) (ix_some hk8) ?_
  refine J_i2l d_Ref_burstOf_6 ?_
  refine J_ldc2 (v := 64) d_Ref_burstOf_7 (kn_Ref_340 hw) ?_
  refine J_aload_n d_Ref_burstOf_10 rfl ?_
  refine F_getR (ci := 12) (k := 24) hG (cf_Ref hw) (fl_Ref_60 hw) (by decide) (by decide) rfl d_Ref_burstOf_11 g5 ?_
  refine J_iload_n d_Ref_burstOf_14 rfl ?_
  obtain ⟨a9, ha9, H⟩ := Option.bind_eq_some_iff.mp H
  rw [j_rf ha9]
  obtain ⟨N10, hN10, H⟩ := Option.bind_eq_some_iff.mp H
  obtain ⟨k11, hk11, H⟩ := Option.bind_eq_some_iff.mp H
  refine F_iald k11 hw hG d_Ref_burstOf_15 (gA_some hN10) (ix_some hk11) ?_
  refine J_i2l d_Ref_burstOf_16 ?_
  refine J_lmul d_Ref_burstOf_17 ?_
  refine J_ladd d_Ref_burstOf_18 ?_
  refine J_aload_n d_Ref_burstOf_19 rfl ?_
  refine F_getR (ci := 12) (k := 17) hG (cf_Ref hw) (fl_Ref_39 hw) (by decide) (by decide) rfl d_Ref_burstOf_20 g5 ?_
  refine J_iload_n d_Ref_burstOf_23 rfl ?_
  obtain ⟨a12, ha12, H⟩ := Option.bind_eq_some_iff.mp H
  rw [j_rf ha12]
  obtain ⟨N13, hN13, H⟩ := Option.bind_eq_some_iff.mp H
  obtain ⟨k14, hk14, H⟩ := Option.bind_eq_some_iff.mp H
  refine F_iald k14 hw hG d_Ref_burstOf_24 (gA_some hN13) (ix_some hk14) ?_
  refine J_i2l d_Ref_burstOf_25 ?_
  refine J_lconst (v := 1) d_Ref_burstOf_26 (by decide) ?_
  refine J_lsub d_Ref_burstOf_27 ?_
  refine J_bipush (v := 22) d_Ref_burstOf_28 (by decide) ?_
  refine J_lshl d_Ref_burstOf_30 ?_
  refine J_ladd d_Ref_burstOf_31 ?_
  refine J_aload_n d_Ref_burstOf_32 rfl ?_
  refine F_getR (ci := 12) (k := 18) hG (cf_Ref hw) (fl_Ref_42 hw) (by decide) (by decide) rfl d_Ref_burstOf_33 g5 ?_
  refine J_iload_n d_Ref_burstOf_36 rfl ?_
  obtain ⟨a15, ha15, H⟩ := Option.bind_eq_some_iff.mp H
  rw [j_rf ha15]
  obtain ⟨N16, hN16, H⟩ := Option.bind_eq_some_iff.mp H
  obtain ⟨k17, hk17, H⟩ := Option.bind_eq_some_iff.mp H
  refine F_iald k17 hw hG d_Ref_burstOf_37 (gA_some hN16) (ix_some hk17) ?_
  refine J_i2l d_Ref_burstOf_38 ?_
  refine J_bipush (v := 26) d_Ref_burstOf_39 (by decide) ?_
  refine J_lshl d_Ref_burstOf_41 ?_
  refine J_ladd d_Ref_burstOf_42 ?_
  refine J_aload_n d_Ref_burstOf_43 rfl ?_
  refine F_getR (ci := 12) (k := 19) hG (cf_Ref hw) (fl_Ref_45 hw) (by decide) (by decide) rfl d_Ref_burstOf_44 g5 ?_
  refine J_iload_n d_Ref_burstOf_47 rfl ?_
  obtain ⟨a18, ha18, H⟩ := Option.bind_eq_some_iff.mp H
  rw [j_rf ha18]
  obtain ⟨N19, hN19, H⟩ := Option.bind_eq_some_iff.mp H
  obtain ⟨k20, hk20, H⟩ := Option.bind_eq_some_iff.mp H
  refine F_iald k20 hw hG d_Ref_burstOf_48 (gA_some hN19) (ix_some hk20) ?_
  refine J_i2l d_Ref_burstOf_49 ?_
  refine J_bipush (v := 28) d_Ref_burstOf_50 (by decide) ?_
  refine J_lshl d_Ref_burstOf_52 ?_
  refine J_ladd d_Ref_burstOf_53 ?_
  refine J_aload_n d_Ref_burstOf_54 rfl ?_
  refine F_getR (ci := 12) (k := 21) hG (cf_Ref hw) (fl_Ref_51 hw) (by decide) (by decide) rfl d_Ref_burstOf_55 g5 ?_
  refine J_iload_n d_Ref_burstOf_58 rfl ?_
  obtain ⟨a21, ha21, H⟩ := Option.bind_eq_some_iff.mp H
  rw [j_rf ha21]
  obtain ⟨N22, hN22, H⟩ := Option.bind_eq_some_iff.mp H
  obtain ⟨k23, hk23, H⟩ := Option.bind_eq_some_iff.mp H
  refine F_zald k23 hw hG d_Ref_burstOf_59 (gA_some hN22) (ix_some hk23) ?_
  refine J_if_eq (tgt := 69) d_Ref_burstOf_60 (by decide) ?_ ?_
  · intro c24
    rw [if_pos c24] at H
    refine J_lconst (v := 0) d_Ref_burstOf_69 (by decide) ?_
    refine J.drop [true, true] rfl ?_
    exact p_Ref_burstOf_L70 hw hG  H
  · intro c24
    rw [if_neg c24] at H
    refine J_ldc2 (v := 1073741824) d_Ref_burstOf_63 (kn_Ref_342 hw) ?_
    refine J_goto (tgt := 70) d_Ref_burstOf_66 (by decide) ?_
    refine J.drop [true, true] rfl ?_
    exact p_Ref_burstOf_L70 hw hG  H
theorem ln_Ref_showAddress : (parseMethodDescriptor y_Ref_showAddress.desc).map (fun q => q.parameters.length) = some 2 := by decide +kernel
def f_Ref_showAddress_L80 (Γ : gm_T)  (φ : ph_T) (y0 : Int64) (y1 : Int32) (y2 : Int32) (y3 : Nat) : Option (Unit × ph_T) :=
  @ite _ (Γ y3 = .inr 12) _ (
  Option.bind (f_Ref_show Γ φ y3 y2 y1 y0 (0 : Int32)) fun q2 =>
  some ((), q2.2)
  ) none
set_option maxRecDepth 100000 in
set_option maxHeartbeats 4000000 in
theorem p_Ref_showAddress_L80 {w : jw_T} (hw : jok w) {Γ : gm_T} {n : Nat} (hG : gd w Γ n)  {x : Bool} {φ : ph_T} {y0 : Int64} {y1 : Int32} {y2 : Int32} {y3 : Nat} {q : Unit × ph_T} (H : f_Ref_showAddress_L80 Γ  φ y0 y1 y2 y3 = some q) : J w M_Ref_showAddress 80 [none, none, none, none, none, none] [.long y0, .int y1, .int y2, .ref y3] (pic Γ φ) n x 0 0 (fq Γ n (.inl none) q.2) := by
  unfold f_Ref_showAddress_L80 at H
  refine J_iconst (v := 0) d_Ref_showAddress_80 (by decide) ?_
  have g1 : Γ y3 = .inr 12 := by
    apply Classical.byContradiction
    intro q9
    rw [if_neg q9] at H
    cases H
  rw [if_pos g1] at H
  obtain ⟨q2, hq2, H⟩ := Option.bind_eq_some_iff.mp H
  refine J_callV (kc := 0) (ks := 0) (kc' := 0) (ks' := 0) (a := y3) (ci := 12) (as := [.int y2, .int y1, .long y0, .int (0 : Int32)]) (st := []) (mf_Ref_show hw) (mv_Ref_359 hw) d_Ref_showAddress_81 ln_Ref_show (by decide) (by first | exact Nat.le_of_ble_eq_true rfl | (simp only [List.map_cons, List.map_nil, List.sum_cons, List.sum_nil, va_rf_cat]; exact Nat.le_of_ble_eq_true rfl)) rfl ((hG _).1 _ g1 (by decide)).1 ((hG _).1 _ g1 (by decide)).2 (by unfold pic; rw [g1]; rfl) (jcl_at hw rfl) rfl (p_Ref_show hw hG hq2) ?_ (fun E h' n' x' e1 => by cases e1.1)
  intro v9 h9 n9 x9 e9
  obtain ⟨e91, e92, e93⟩ := e9
  cases e91
  subst e92
  subst e93
  clear x
  rename Bool => x
  show J _ _ _ _ [] _ _ _ _ _ _
  have H := Option.some.inj H
  subst H
  exact J_vret (st := []) d_Ref_showAddress_84 rfl ⟨rfl, rfl, rfl⟩
def f_Ref_showAddress_L58 (Γ : gm_T)  (φ : ph_T) (x0 : Nat) (x3 : Int32) (x4 : Int32) (y0 : Int32) : Option (Unit × ph_T) :=
  if x4 = (-1 : Int32) then
    f_Ref_showAddress_L80 Γ  φ (0 : Int64) y0 x3 x0
  else
    @ite _ (Γ x0 = .inr 12) _ (
    Option.bind (f_Ref_burstOf Γ φ x0 x4) fun q4 =>
    f_Ref_showAddress_L80 Γ  q4.2 q4.1 y0 x3 x0
    ) none
set_option maxRecDepth 100000 in
set_option maxHeartbeats 4000000 in
theorem p_Ref_showAddress_L58 {w : jw_T} (hw : jok w) {Γ : gm_T} {n : Nat} (hG : gd w Γ n)  {x : Bool} {φ : ph_T} {x0 : Nat} {x3 : Int32} {x4 : Int32} {y0 : Int32} {q : Unit × ph_T} (H : f_Ref_showAddress_L58 Γ  φ x0 x3 x4 y0 = some q) : J w M_Ref_showAddress 58 [some (.ref x0), none, none, some (.int x3), some (.int x4), none] [.int y0] (pic Γ φ) n x 0 0 (fq Γ n (.inl none) q.2) := by
  unfold f_Ref_showAddress_L58 at H
  refine J_istore d_Ref_showAddress_58 (Nat.le_of_ble_eq_true rfl) ?_
  refine J.ls (ls' := [some (.ref x0), none, none, some (.int x3), some (.int x4), some (.int y0)]) rfl ?_
  refine J_aload_n d_Ref_showAddress_60 rfl ?_
  refine J_iload_n d_Ref_showAddress_61 rfl ?_
  refine J_iload d_Ref_showAddress_62 rfl ?_
  refine J_iload d_Ref_showAddress_64 rfl ?_
  refine J_iconst (v := -1) d_Ref_showAddress_66 (by decide) ?_
  refine J_icmp_ne (tgt := 74) d_Ref_showAddress_67 (by decide) ?_ ?_
  · intro c5
    rw [if_neg c5] at H
    refine J_aload_n d_Ref_showAddress_74 rfl ?_
    refine J_iload d_Ref_showAddress_75 rfl ?_
    have g3 : Γ x0 = .inr 12 := by
      apply Classical.byContradiction
      intro q9
      rw [if_neg q9] at H
      cases H
    rw [if_pos g3] at H
    obtain ⟨q4, hq4, H⟩ := Option.bind_eq_some_iff.mp H
    refine J_callV (kc := 0) (ks := 0) (kc' := 0) (ks' := 0) (a := x0) (ci := 12) (as := [.int x4]) (st := [.int y0, .int x3, .ref x0]) (mf_Ref_burstOf hw) (mv_Ref_355 hw) d_Ref_showAddress_77 ln_Ref_burstOf (by decide) (by first | exact Nat.le_of_ble_eq_true rfl | (simp only [List.map_cons, List.map_nil, List.sum_cons, List.sum_nil, va_rf_cat]; exact Nat.le_of_ble_eq_true rfl)) rfl ((hG _).1 _ g3 (by decide)).1 ((hG _).1 _ g3 (by decide)).2 (by unfold pic; rw [g3]; rfl) (jcl_at hw rfl) rfl (p_Ref_burstOf hw hG hq4) ?_ (fun E h' n' x' e1 => by cases e1.1)
    intro v9 h9 n9 x9 e9
    obtain ⟨e91, e92, e93⟩ := e9
    cases e91
    subst e92
    subst e93
    clear x
    rename Bool => x
    show J _ _ _ _ (_ :: _) _ _ _ _ _ _
    refine J.drop [false, false, false, false, false, false] rfl ?_
    exact p_Ref_showAddress_L80 hw hG  H
  · intro c5
    rw [if_pos c5] at H
    refine J_lconst (v := 0) d_Ref_showAddress_70 (by decide) ?_
    refine J_goto (tgt := 80) d_Ref_showAddress_71 (by decide) ?_
    refine J.drop [false, false, false, false, false, false] rfl ?_
    exact p_Ref_showAddress_L80 hw hG  H
def f_Ref_showAddress_L57 (Γ : gm_T)  (φ : ph_T) (x0 : Nat) (x3 : Int32) (x4 : Int32) : Option (Unit × ph_T) :=
  f_Ref_showAddress_L58 Γ  φ x0 x3 x4 (0 : Int32)
set_option maxRecDepth 100000 in
set_option maxHeartbeats 4000000 in
theorem p_Ref_showAddress_L57 {w : jw_T} (hw : jok w) {Γ : gm_T} {n : Nat} (hG : gd w Γ n)  {x : Bool} {φ : ph_T} {x0 : Nat} {x3 : Int32} {x4 : Int32} {q : Unit × ph_T} (H : f_Ref_showAddress_L57 Γ  φ x0 x3 x4 = some q) : J w M_Ref_showAddress 57 [some (.ref x0), none, none, some (.int x3), some (.int x4), none] [] (pic Γ φ) n x 0 0 (fq Γ n (.inl none) q.2) := by
  unfold f_Ref_showAddress_L57 at H
  refine J_iconst (v := 0) d_Ref_showAddress_57 (by decide) ?_
  refine J.drop [true, false, false, true, true, false] rfl ?_
  exact p_Ref_showAddress_L58 hw hG  H
def f_Ref_showAddress_L53 (Γ : gm_T)  (φ : ph_T) (x0 : Nat) (x3 : Int32) (x4 : Int32) : Option (Unit × ph_T) :=
  f_Ref_showAddress_L58 Γ  φ x0 x3 x4 (1 : Int32)
set_option maxRecDepth 100000 in
set_option maxHeartbeats 4000000 in
theorem p_Ref_showAddress_L53 {w : jw_T} (hw : jok w) {Γ : gm_T} {n : Nat} (hG : gd w Γ n)  {x : Bool} {φ : ph_T} {x0 : Nat} {x3 : Int32} {x4 : Int32} {q : Unit × ph_T} (H : f_Ref_showAddress_L53 Γ  φ x0 x3 x4 = some q) : J w M_Ref_showAddress 53 [some (.ref x0), none, none, some (.int x3), some (.int x4), none] [] (pic Γ φ) n x 0 0 (fq Γ n (.inl none) q.2) := by
  unfold f_Ref_showAddress_L53 at H
  refine J_iconst (v := 1) d_Ref_showAddress_53 (by decide) ?_
  refine J_goto (tgt := 58) d_Ref_showAddress_54 (by decide) ?_
  refine J.drop [true, false, false, true, true, false] rfl ?_
  exact p_Ref_showAddress_L58 hw hG  H
def f_Ref_showAddress_L17 (Γ : gm_T)  (φ : ph_T) (x0 : Nat) (x3 : Int32) (y0 : Int32) (y1 : Int32) (y2 : Nat) : Option (Unit × ph_T) :=
  @ite _ (Γ y2 = .inr 12) _ (
  Option.bind (f_Ref_unsent Γ φ y2 y1 y0) fun q7 =>
  @ite _ (Γ x0 = .inr 12) _ (
  Option.bind (q7.2.2.2 x0 37) fun a9 =>
  Option.bind (gA Γ a9 2) fun N10 =>
  Option.bind (ix x3 N10) fun k11 =>
  if (q7.2.1 a9 k11) = 0 then
    if q7.1 = (-1 : Int32) then
      f_Ref_showAddress_L57 Γ  q7.2 x0 x3 q7.1
    else
      Option.bind (q7.2.2.2 x0 8) fun a12 =>
      Option.bind (gA Γ a12 0) fun N13 =>
      Option.bind (ix x3 N13) fun k14 =>
      Option.bind (f_Ref_tells Γ q7.2 (q7.2.1 a12 k14) (q7.2.1 x0 6)) fun q15 =>
      if q15.1 = 0 then
        f_Ref_showAddress_L57 Γ  q15.2 x0 x3 q7.1
      else
        f_Ref_showAddress_L53 Γ  q15.2 x0 x3 q7.1
  else
    f_Ref_showAddress_L53 Γ  q7.2 x0 x3 q7.1
  ) none
  ) none
set_option maxRecDepth 100000 in
set_option maxHeartbeats 4000000 in
theorem p_Ref_showAddress_L17 {w : jw_T} (hw : jok w) {Γ : gm_T} {n : Nat} (hG : gd w Γ n)  {x : Bool} {φ : ph_T} {x0 : Nat} {x3 : Int32} {y0 : Int32} {y1 : Int32} {y2 : Nat} {q : Unit × ph_T} (H : f_Ref_showAddress_L17 Γ  φ x0 x3 y0 y1 y2 = some q) : J w M_Ref_showAddress 17 [some (.ref x0), none, none, some (.int x3), none, none] [.int y0, .int y1, .ref y2] (pic Γ φ) n x 0 0 (fq Γ n (.inl none) q.2) := by
  unfold f_Ref_showAddress_L17 at H
  have g6 : Γ y2 = .inr 12 := by
    apply Classical.byContradiction
    intro q9
    rw [if_neg q9] at H
    cases H
  rw [if_pos g6] at H
  obtain ⟨q7, hq7, H⟩ := Option.bind_eq_some_iff.mp H
  refine J_callV (kc := 0) (ks := 0) (kc' := 0) (ks' := 0) (a := y2) (ci := 12) (as := [.int y1, .int y0]) (st := []) (mf_Ref_unsent hw) (mv_Ref_344 hw) d_Ref_showAddress_17 ln_Ref_unsent (by decide) (by first | exact Nat.le_of_ble_eq_true rfl | (simp only [List.map_cons, List.map_nil, List.sum_cons, List.sum_nil, va_rf_cat]; exact Nat.le_of_ble_eq_true rfl)) rfl ((hG _).1 _ g6 (by decide)).1 ((hG _).1 _ g6 (by decide)).2 (by unfold pic; rw [g6]; rfl) (jcl_at hw rfl) rfl (p_Ref_unsent hw hG hq7) ?_ (fun E h' n' x' e1 => by cases e1.1)
  intro v9 h9 n9 x9 e9
  obtain ⟨e91, e92, e93⟩ := e9
  cases e91
  subst e92
  subst e93
  clear x
  rename Bool => x
  show J _ _ _ _ (_ :: _) _ _ _ _ _ _
  refine J_istore d_Ref_showAddress_20 (Nat.le_of_ble_eq_true rfl) ?_
  refine J.ls (ls' := [some (.ref x0), none, none, some (.int x3), some (.int q7.1), none]) rfl ?_
  refine J_aload_n d_Ref_showAddress_22 rfl ?_
  have g8 : Γ x0 = .inr 12 := by
    apply Classical.byContradiction
    intro q9
    rw [if_neg q9] at H
    cases H
  rw [if_pos g8] at H
  refine F_getR (ci := 12) (k := 37) hG (cf_Ref hw) (fl_Ref_100 hw) (by decide) (by decide) rfl d_Ref_showAddress_23 g8 ?_
  refine J_iload_n d_Ref_showAddress_26 rfl ?_
  obtain ⟨a9, ha9, H⟩ := Option.bind_eq_some_iff.mp H
  rw [j_rf ha9]
  obtain ⟨N10, hN10, H⟩ := Option.bind_eq_some_iff.mp H
  obtain ⟨k11, hk11, H⟩ := Option.bind_eq_some_iff.mp H
  refine F_zald k11 hw hG d_Ref_showAddress_27 (gA_some hN10) (ix_some hk11) ?_
  refine J_if_ne (tgt := 53) d_Ref_showAddress_28 (by decide) ?_ ?_
  · intro c18
    rw [if_neg c18] at H
    refine J.drop [true, false, false, true, true, false] rfl ?_
    exact p_Ref_showAddress_L53 hw hG  H
  · intro c18
    rw [if_pos c18] at H
    refine J_iload d_Ref_showAddress_31 rfl ?_
    refine J_iconst (v := -1) d_Ref_showAddress_33 (by decide) ?_
    refine J_icmp_eq (tgt := 57) d_Ref_showAddress_34 (by decide) ?_ ?_
    · intro c17
      rw [if_pos c17] at H
      refine J.drop [true, false, false, true, true, false] rfl ?_
      exact p_Ref_showAddress_L57 hw hG  H
    · intro c17
      rw [if_neg c17] at H
      refine J_aload_n d_Ref_showAddress_37 rfl ?_
      refine F_getR (ci := 12) (k := 8) hG (cf_Ref hw) (fl_Ref_13 hw) (by decide) (by decide) rfl d_Ref_showAddress_38 g8 ?_
      refine J_iload_n d_Ref_showAddress_41 rfl ?_
      obtain ⟨a12, ha12, H⟩ := Option.bind_eq_some_iff.mp H
      rw [j_rf ha12]
      obtain ⟨N13, hN13, H⟩ := Option.bind_eq_some_iff.mp H
      obtain ⟨k14, hk14, H⟩ := Option.bind_eq_some_iff.mp H
      refine F_iald k14 hw hG d_Ref_showAddress_42 (gA_some hN13) (ix_some hk14) ?_
      refine J_aload_n d_Ref_showAddress_43 rfl ?_
      refine F_getI (ci := 12) (k := 6) hG (cf_Ref hw) (fl_Ref_348 hw) (by decide) (by decide) rfl d_Ref_showAddress_44 g8 ?_
      obtain ⟨q15, hq15, H⟩ := Option.bind_eq_some_iff.mp H
      refine J_callS (kc := 0) (ks := 0) (kc' := 0) (ks' := 0) (as := [.int (q7.2.1 a12 k14), .int (q7.2.1 x0 6)]) (st := []) (mf_Ref_tells hw) (ms_Ref_351 hw) d_Ref_showAddress_47 ln_Ref_tells (by decide) (by first | exact Nat.le_of_ble_eq_true rfl | (simp only [List.map_cons, List.map_nil, List.sum_cons, List.sum_nil, va_rf_cat]; exact Nat.le_of_ble_eq_true rfl)) rfl (p_Ref_tells hw hG hq15) ?_ (fun E h' n' x' e1 => by cases e1.1)
      intro v9 h9 n9 x9 e9
      obtain ⟨e91, e92, e93⟩ := e9
      cases e91
      subst e92
      subst e93
      clear x
      rename Bool => x
      show J _ _ _ _ (_ :: _) _ _ _ _ _ _
      refine J_if_eq (tgt := 57) d_Ref_showAddress_50 (by decide) ?_ ?_
      · intro c16
        rw [if_pos c16] at H
        refine J.drop [true, false, false, true, true, false] rfl ?_
        exact p_Ref_showAddress_L57 hw hG  H
      · intro c16
        rw [if_neg c16] at H
        refine J.drop [true, false, false, true, true, false] rfl ?_
        exact p_Ref_showAddress_L53 hw hG  H
def f_Ref_showAddress (Γ : gm_T) (φ : ph_T) (this : Nat) (p0 : Int32) (p1 : Int32) : Option (Unit × ph_T) :=
  if p1 = 0 then
    f_Ref_showAddress_L17 Γ  φ this (((5 : Int32) * p0) + p1) (1 : Int32) p0 this
  else
    f_Ref_showAddress_L17 Γ  φ this (((5 : Int32) * p0) + p1) (0 : Int32) p0 this
set_option maxRecDepth 100000 in
set_option maxHeartbeats 4000000 in
theorem p_Ref_showAddress {w : jw_T} (hw : jok w) {Γ : gm_T} {n : Nat} (hG : gd w Γ n) {x : Bool} {φ : ph_T} {this : Nat} {p0 : Int32} {p1 : Int32} {q : Unit × ph_T} (H : f_Ref_showAddress Γ φ this p0 p1 = some q) : jc w M_Ref_showAddress [.ref this, .int p0, .int p1] (pic Γ φ) n x 0 0 (fq Γ n (.inl none) q.2) := by
  refine jc.of (by simp only [jent_r, jent_i, jent_l, jent_a, jent_0]; exact Nat.le_of_ble_eq_true rfl) ?_
  have hls : jents [.ref this, .int p0, .int p1] (jm_nL M_Ref_showAddress) = [some (.ref this), some (.int p0), some (.int p1), none, none, none] := by simp only [jents, jent_r, jent_i, jent_l, jent_a, jent_0]; rfl
  rw [hls]
  clear hls
  unfold f_Ref_showAddress at H
  refine J_iconst (v := 5) d_Ref_showAddress_0 (by decide) ?_
  refine J_iload_n d_Ref_showAddress_1 rfl ?_
  refine J_imul d_Ref_showAddress_2 ?_
  refine J_iload_n d_Ref_showAddress_3 rfl ?_
  refine J_iadd d_Ref_showAddress_4 ?_
  refine J_istore_n d_Ref_showAddress_5 (Nat.le_of_ble_eq_true rfl) ?_
  refine J.ls (ls' := [some (.ref this), some (.int p0), some (.int p1), some (.int (((5 : Int32) * p0) + p1)), none, none]) rfl ?_
  refine J_aload_n d_Ref_showAddress_6 rfl ?_
  refine J_iload_n d_Ref_showAddress_7 rfl ?_
  refine J_iload_n d_Ref_showAddress_8 rfl ?_
  refine J_if_ne (tgt := 16) d_Ref_showAddress_9 (by decide) ?_ ?_
  · intro c19
    rw [if_neg c19] at H
    refine J_iconst (v := 0) d_Ref_showAddress_16 (by decide) ?_
    refine J.drop [true, false, false, true, false, false] rfl ?_
    exact p_Ref_showAddress_L17 hw hG  H
  · intro c19
    rw [if_pos c19] at H
    refine J_iconst (v := 1) d_Ref_showAddress_12 (by decide) ?_
    refine J_goto (tgt := 17) d_Ref_showAddress_13 (by decide) ?_
    refine J.drop [true, false, false, true, false, false] rfl ?_
    exact p_Ref_showAddress_L17 hw hG  H
