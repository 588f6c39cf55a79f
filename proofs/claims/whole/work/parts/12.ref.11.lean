theorem ln_Ref_isPort : (parseMethodDescriptor y_Ref_isPort.desc).map (fun q => q.parameters.length) = some 1 := by decide +kernel
def f_Ref_isPort_L36 (Γ : gm_T)  (φ : ph_T) (y0 : Int32) : Option (Int32 × ph_T) :=
  @ite _ (y0 = 0 ∨ y0 = 1) _ (
  some (y0, φ)
  ) none
set_option maxRecDepth 100000 in
set_option maxHeartbeats 4000000 in
theorem p_Ref_isPort_L36 {w : jw_T} (hw : jok w) {Γ : gm_T} {n : Nat} (hG : gd w Γ n)  {x : Bool} {φ : ph_T} {y0 : Int32} {q : Int32 × ph_T} (H : f_Ref_isPort_L36 Γ  φ y0 = some q) : J w M_Ref_isPort 36 [none, none] [.int y0] (pic Γ φ) n x 0 0 (fq Γ n (.inl (some (.int q.1))) q.2) := by
  unfold f_Ref_isPort_L36 at H
  have z1 : y0 = 0 ∨ y0 = 1 := by
    apply Classical.byContradiction
    intro q9
    rw [if_neg q9] at H
    cases H
  rw [if_pos z1] at H
  have H := Option.some.inj H
  subst H
  exact J_iret (st := []) d_Ref_isPort_36 rfl (narrow_z z1).1 ⟨rfl, rfl, rfl⟩
def f_Ref_isPort (Γ : gm_T) (φ : ph_T) (this : Nat) (p0 : Int32) : Option (Int32 × ph_T) :=
  if (4 : Int32) ≤ p0 then
    @ite _ (Γ this = .inr 12) _ (
    if (φ.1 this 2) ≤ (p0 - (4 : Int32)) then
      f_Ref_isPort_L36 Γ  φ (0 : Int32)
    else
      f_Ref_isPort_L36 Γ  φ (1 : Int32)
    ) none
  else
    @ite _ (Γ this = .inr 12) _ (
    if (φ.1 this 1) ≤ p0 then
      f_Ref_isPort_L36 Γ  φ (0 : Int32)
    else
      f_Ref_isPort_L36 Γ  φ (1 : Int32)
    ) none
set_option maxRecDepth 100000 in
set_option maxHeartbeats 4000000 in
theorem p_Ref_isPort {w : jw_T} (hw : jok w) {Γ : gm_T} {n : Nat} (hG : gd w Γ n) {x : Bool} {φ : ph_T} {this : Nat} {p0 : Int32} {q : Int32 × ph_T} (H : f_Ref_isPort Γ φ this p0 = some q) : jc w M_Ref_isPort [.ref this, .int p0] (pic Γ φ) n x 0 0 (fq Γ n (.inl (some (.int q.1))) q.2) := by
  refine jc.of (by simp only [jent_r, jent_i, jent_l, jent_a, jent_0]; exact Nat.le_of_ble_eq_true rfl) ?_
  have hls : jents [.ref this, .int p0] (jm_nL M_Ref_isPort) = [some (.ref this), some (.int p0)] := by simp only [jents, jent_r, jent_i, jent_l, jent_a, jent_0]; rfl
  rw [hls]
  clear hls
  unfold f_Ref_isPort at H
  refine J_iload_n d_Ref_isPort_0 rfl ?_
  refine J_iconst (v := 4) d_Ref_isPort_1 (by decide) ?_
  refine J_icmp_ge (tgt := 21) d_Ref_isPort_2 (by decide) ?_ ?_
  · intro c6
    rw [if_pos c6] at H
    refine J_iload_n d_Ref_isPort_21 rfl ?_
    refine J_iconst (v := 4) d_Ref_isPort_22 (by decide) ?_
    refine J_isub d_Ref_isPort_23 ?_
    refine J_aload_n d_Ref_isPort_24 rfl ?_
    have g2 : Γ this = .inr 12 := by
      apply Classical.byContradiction
      intro q9
      rw [if_neg q9] at H
      cases H
    rw [if_pos g2] at H
    refine F_getI (ci := 12) (k := 2) hG (cf_Ref hw) (fl_Ref_294 hw) (by decide) (by decide) rfl d_Ref_isPort_25 g2 ?_
    refine J_icmp_ge (tgt := 35) d_Ref_isPort_28 (by decide) ?_ ?_
    · intro c3
      rw [if_pos c3] at H
      refine J_iconst (v := 0) d_Ref_isPort_35 (by decide) ?_
      refine J.drop [false, false] rfl ?_
      exact p_Ref_isPort_L36 hw hG  H
    · intro c3
      rw [if_neg c3] at H
      refine J_iconst (v := 1) d_Ref_isPort_31 (by decide) ?_
      refine J_goto (tgt := 36) d_Ref_isPort_32 (by decide) ?_
      refine J.drop [false, false] rfl ?_
      exact p_Ref_isPort_L36 hw hG  H
  · intro c6
    rw [if_neg c6] at H
    refine J_iload_n d_Ref_isPort_5 rfl ?_
    refine J_aload_n d_Ref_isPort_6 rfl ?_
    have g4 : Γ this = .inr 12 := by
      apply Classical.byContradiction
      intro q9
      rw [if_neg q9] at H
      cases H
    rw [if_pos g4] at H
    refine F_getI (ci := 12) (k := 1) hG (cf_Ref hw) (fl_Ref_290 hw) (by decide) (by decide) rfl d_Ref_isPort_7 g4 ?_
    refine J_icmp_ge (tgt := 17) d_Ref_isPort_10 (by decide) ?_ ?_
    · intro c5
      rw [if_pos c5] at H
      refine J_iconst (v := 0) d_Ref_isPort_17 (by decide) ?_
      refine J_goto (tgt := 36) d_Ref_isPort_18 (by decide) ?_
      refine J.drop [false, false] rfl ?_
      exact p_Ref_isPort_L36 hw hG  H
    · intro c5
      rw [if_neg c5] at H
      refine J_iconst (v := 1) d_Ref_isPort_13 (by decide) ?_
      refine J_goto (tgt := 36) d_Ref_isPort_14 (by decide) ?_
      refine J.drop [false, false] rfl ?_
      exact p_Ref_isPort_L36 hw hG  H
theorem ln_Ref_breakAt : (parseMethodDescriptor y_Ref_breakAt.desc).map (fun q => q.parameters.length) = some 3 := by decide +kernel
def f_Ref_breakAt_L35 (Γ : gm_T)  (φ : ph_T) : Option (Unit × ph_T) :=
  some ((), φ)
set_option maxRecDepth 100000 in
set_option maxHeartbeats 4000000 in
theorem p_Ref_breakAt_L35 {w : jw_T} (hw : jok w) {Γ : gm_T} {n : Nat} (hG : gd w Γ n)  {x : Bool} {φ : ph_T} {q : Unit × ph_T} (H : f_Ref_breakAt_L35 Γ  φ  = some q) : J w M_Ref_breakAt 35 [none, none, none, none] [] (pic Γ φ) n x 0 0 (fq Γ n (.inl none) q.2) := by
  unfold f_Ref_breakAt_L35 at H
  have H := Option.some.inj H
  subst H
  exact J_vret (st := []) d_Ref_breakAt_35 rfl ⟨rfl, rfl, rfl⟩
def f_Ref_breakAt (Γ : gm_T) (φ : ph_T) (this : Nat) (p0 : Int32) (p1 : Int32) (p2 : Int32) : Option (Unit × ph_T) :=
  @ite _ (Γ this = .inr 12) _ (
  Option.bind (φ.2.2 this 86) fun a2 =>
  Option.bind (gA Γ a2 0) fun N3 =>
  Option.bind (ix p0 N3) fun k4 =>
  if (φ.1 a2 k4) = 0 then
    Option.bind (gA Γ a2 0) fun N5 =>
    Option.bind (ix p0 N5) fun k6 =>
    Option.bind (φ.2.2 this 87) fun a7 =>
    Option.bind (gA Γ a7 0) fun N8 =>
    Option.bind (ix p0 N8) fun k9 =>
    Option.bind (φ.2.2 this 85) fun a10 =>
    Option.bind (gA Γ a10 0) fun N11 =>
    Option.bind (ix p0 N11) fun k12 =>
    Option.bind (φ.2.2 this 88) fun a13 =>
    Option.bind (gA Γ a13 0) fun N14 =>
    Option.bind (ix p0 N14) fun k15 =>
    f_Ref_breakAt_L35 Γ  (uI (uI (uI φ a2 k6 p1) a7 k9 p2) a13 k15 ((uI (uI φ a2 k6 p1) a7 k9 p2).1 a10 k12)) 
  else
    f_Ref_breakAt_L35 Γ  φ 
  ) none
set_option maxRecDepth 100000 in
set_option maxHeartbeats 4000000 in
theorem p_Ref_breakAt {w : jw_T} (hw : jok w) {Γ : gm_T} {n : Nat} (hG : gd w Γ n) {x : Bool} {φ : ph_T} {this : Nat} {p0 : Int32} {p1 : Int32} {p2 : Int32} {q : Unit × ph_T} (H : f_Ref_breakAt Γ φ this p0 p1 p2 = some q) : jc w M_Ref_breakAt [.ref this, .int p0, .int p1, .int p2] (pic Γ φ) n x 0 0 (fq Γ n (.inl none) q.2) := by
  refine jc.of (by simp only [jent_r, jent_i, jent_l, jent_a, jent_0]; exact Nat.le_of_ble_eq_true rfl) ?_
  have hls : jents [.ref this, .int p0, .int p1, .int p2] (jm_nL M_Ref_breakAt) = [some (.ref this), some (.int p0), some (.int p1), some (.int p2)] := by simp only [jents, jent_r, jent_i, jent_l, jent_a, jent_0]; rfl
  rw [hls]
  clear hls
  unfold f_Ref_breakAt at H
  refine J_aload_n d_Ref_breakAt_0 rfl ?_
  have g1 : Γ this = .inr 12 := by
    apply Classical.byContradiction
    intro q9
    rw [if_neg q9] at H
    cases H
  rw [if_pos g1] at H
  refine F_getR (ci := 12) (k := 86) hG (cf_Ref hw) (fl_Ref_238 hw) (by decide) (by decide) rfl d_Ref_breakAt_1 g1 ?_
  refine J_iload_n d_Ref_breakAt_4 rfl ?_
  obtain ⟨a2, ha2, H⟩ := Option.bind_eq_some_iff.mp H
  rw [j_rf ha2]
  obtain ⟨N3, hN3, H⟩ := Option.bind_eq_some_iff.mp H
  obtain ⟨k4, hk4, H⟩ := Option.bind_eq_some_iff.mp H
  refine F_iald k4 hw hG d_Ref_breakAt_5 (gA_some hN3) (ix_some hk4) ?_
  refine J_if_ne (tgt := 35) d_Ref_breakAt_6 (by decide) ?_ ?_
  · intro c16
    rw [if_neg c16] at H
    refine J.drop [false, false, false, false] rfl ?_
    exact p_Ref_breakAt_L35 hw hG  H
  · intro c16
    rw [if_pos c16] at H
    refine J_aload_n d_Ref_breakAt_9 rfl ?_
    refine F_getR (ci := 12) (k := 86) hG (cf_Ref hw) (fl_Ref_238 hw) (by decide) (by decide) rfl d_Ref_breakAt_10 g1 ?_
    refine J_iload_n d_Ref_breakAt_13 rfl ?_
    refine J_iload_n d_Ref_breakAt_14 rfl ?_
    try rw [j_rf ha2]
    obtain ⟨N5, hN5, H⟩ := Option.bind_eq_some_iff.mp H
    obtain ⟨k6, hk6, H⟩ := Option.bind_eq_some_iff.mp H
    refine F_iast k6 hw hG d_Ref_breakAt_15 (gA_some hN5) (ix_some hk6) ?_
    refine J_aload_n d_Ref_breakAt_16 rfl ?_
    refine F_getR (ci := 12) (k := 87) hG (cf_Ref hw) (fl_Ref_241 hw) (by decide) (by decide) rfl d_Ref_breakAt_17 g1 ?_
    show J _ _ _ _ (va_rf (φ.2.2 this 87) :: _) _ _ _ _ _ _
    refine J_iload_n d_Ref_breakAt_20 rfl ?_
    refine J_iload_n d_Ref_breakAt_21 rfl ?_
    obtain ⟨a7, ha7, H⟩ := Option.bind_eq_some_iff.mp H
    rw [j_rf ha7]
    obtain ⟨N8, hN8, H⟩ := Option.bind_eq_some_iff.mp H
    obtain ⟨k9, hk9, H⟩ := Option.bind_eq_some_iff.mp H
    refine F_iast k9 hw hG d_Ref_breakAt_22 (gA_some hN8) (ix_some hk9) ?_
    refine J_aload_n d_Ref_breakAt_23 rfl ?_
    refine F_getR (ci := 12) (k := 88) hG (cf_Ref hw) (fl_Ref_244 hw) (by decide) (by decide) rfl d_Ref_breakAt_24 g1 ?_
    show J _ _ _ _ (va_rf (φ.2.2 this 88) :: _) _ _ _ _ _ _
    refine J_iload_n d_Ref_breakAt_27 rfl ?_
    refine J_aload_n d_Ref_breakAt_28 rfl ?_
    refine F_getR (ci := 12) (k := 85) hG (cf_Ref hw) (fl_Ref_235 hw) (by decide) (by decide) rfl d_Ref_breakAt_29 g1 ?_
    show J _ _ _ _ (va_rf (φ.2.2 this 85) :: _) _ _ _ _ _ _
    refine J_iload_n d_Ref_breakAt_32 rfl ?_
    obtain ⟨a10, ha10, H⟩ := Option.bind_eq_some_iff.mp H
    rw [j_rf ha10]
    obtain ⟨N11, hN11, H⟩ := Option.bind_eq_some_iff.mp H
    obtain ⟨k12, hk12, H⟩ := Option.bind_eq_some_iff.mp H
    refine F_iald k12 hw hG d_Ref_breakAt_33 (gA_some hN11) (ix_some hk12) ?_
    obtain ⟨a13, ha13, H⟩ := Option.bind_eq_some_iff.mp H
    rw [j_rf ha13]
    obtain ⟨N14, hN14, H⟩ := Option.bind_eq_some_iff.mp H
    obtain ⟨k15, hk15, H⟩ := Option.bind_eq_some_iff.mp H
    refine F_iast k15 hw hG d_Ref_breakAt_34 (gA_some hN14) (ix_some hk15) ?_
    refine J.drop [false, false, false, false] rfl ?_
    exact p_Ref_breakAt_L35 hw hG  H
theorem ln_Ref_monitoredWrite : (parseMethodDescriptor y_Ref_monitoredWrite.desc).map (fun q => q.parameters.length) = some 2 := by decide +kernel
def f_Ref_monitoredWrite_L57 (Γ : gm_T) (Kc2 : ph_T → Nat → Int32 → Int32 → Int32 → Option (Int32 × ph_T)) (φ : ph_T) (x0 : Nat) (x1 : Int32) (x2 : Int32) (x3 : Int32) : Option (Int32 × ph_T) :=
  Kc2 φ x0 x1 x2 (x3 + (1 : Int32))
set_option maxRecDepth 100000 in
set_option maxHeartbeats 4000000 in
theorem p_Ref_monitoredWrite_L57 {w : jw_T} (hw : jok w) {Γ : gm_T} {n : Nat} (hG : gd w Γ n) {Kc2 : ph_T → Nat → Int32 → Int32 → Int32 → Option (Int32 × ph_T)} (hKc2 : ∀ {x : Bool} {φ : ph_T} {x0 : Nat} {x1 : Int32} {x2 : Int32} {x3 : Int32} {q : Int32 × ph_T}, Kc2 φ x0 x1 x2 x3 = some q → J w M_Ref_monitoredWrite 2 [some (.ref x0), some (.int x1), some (.int x2), some (.int x3), none] [] (pic Γ φ) n x 0 0 (fq Γ n (.inl (some (.int q.1))) q.2)) {x : Bool} {φ : ph_T} {x0 : Nat} {x1 : Int32} {x2 : Int32} {x3 : Int32} {q : Int32 × ph_T} (H : f_Ref_monitoredWrite_L57 Γ Kc2 φ x0 x1 x2 x3 = some q) : J w M_Ref_monitoredWrite 57 [some (.ref x0), some (.int x1), some (.int x2), some (.int x3), none] [] (pic Γ φ) n x 0 0 (fq Γ n (.inl (some (.int q.1))) q.2) := by
  unfold f_Ref_monitoredWrite_L57 at H
  refine J_iinc (v := x3 + 1) d_Ref_monitoredWrite_57 rfl (by rw [show Int32.ofInt 1 = (1 : Int32) from by decide]) ?_
  refine J.ls (ls' := [some (.ref x0), some (.int x1), some (.int x2), some (.int (x3 + (1 : Int32))), none]) rfl ?_
  refine J_goto (tgt := 2) d_Ref_monitoredWrite_60 (by decide) ?_
  refine J.drop [true, true, true, true, false] rfl ?_
  exact hKc2 H
def f_Ref_monitoredWrite_L2 (Γ : gm_T)  : Nat → ph_T → Nat → Int32 → Int32 → Int32 → Option (Int32 × ph_T)
  | 0, _, _, _, _, _ => none
  | fu + 1, φ, x0, x1, x2, x3 =>
    @ite _ (Γ x0 = .inr 12) _ (
    Option.bind (φ.2.2 x0 89) fun a2 =>
    Option.bind (gA Γ a2 0) fun N3 =>
    Option.bind (ix x1 N3) fun k4 =>
    if (φ.1 a2 k4) ≤ x3 then
      some ((-1 : Int32), φ)
    else
      Option.bind (φ.2.2 x0 91) fun a5 =>
      Option.bind (gA Γ a5 2) fun N6 =>
      Option.bind (ix (((16 : Int32) * x1) + x3) N6) fun k7 =>
      if (φ.1 a5 k7) = 0 then
        f_Ref_monitoredWrite_L57 Γ (f_Ref_monitoredWrite_L2 Γ  fu) φ x0 x1 x2 x3
      else
        Option.bind (φ.2.2 x0 94) fun a8 =>
        Option.bind (gA Γ a8 2) fun N9 =>
        Option.bind (ix (((16 : Int32) * x1) + x3) N9) fun k10 =>
        if (φ.1 a8 k10) = 0 then
          f_Ref_monitoredWrite_L57 Γ (f_Ref_monitoredWrite_L2 Γ  fu) φ x0 x1 x2 x3
        else
          Option.bind (φ.2.2 x0 92) fun a11 =>
          Option.bind (gA Γ a11 1) fun N12 =>
          Option.bind (ix (((16 : Int32) * x1) + x3) N12) fun k13 =>
          Option.bind (f_Ref_idOf Γ φ (φ.2.1 a11 k13)) fun q14 =>
          if q14.1 = x2 then
            some ((((16 : Int32) * x1) + x3), q14.2)
          else
            f_Ref_monitoredWrite_L57 Γ (f_Ref_monitoredWrite_L2 Γ  fu) q14.2 x0 x1 x2 x3
    ) none
set_option maxRecDepth 100000 in
set_option maxHeartbeats 4000000 in
theorem p_Ref_monitoredWrite_L2 {w : jw_T} (hw : jok w) {Γ : gm_T} {n : Nat} (hG : gd w Γ n)  : ∀ (fu : Nat) {x : Bool} {φ : ph_T} {x0 : Nat} {x1 : Int32} {x2 : Int32} {x3 : Int32} {q : Int32 × ph_T}, f_Ref_monitoredWrite_L2 Γ  fu φ x0 x1 x2 x3 = some q → J w M_Ref_monitoredWrite 2 [some (.ref x0), some (.int x1), some (.int x2), some (.int x3), none] [] (pic Γ φ) n x 0 0 (fq Γ n (.inl (some (.int q.1))) q.2) := by
  intro fu
  induction fu with
  | zero =>
    intro x φ x0 x1 x2 x3 q H
    cases H
  | succ fu ih =>
    intro x φ x0 x1 x2 x3 q H
    unfold f_Ref_monitoredWrite_L2 at H
    refine J_iload_n d_Ref_monitoredWrite_2 rfl ?_
    refine J_aload_n d_Ref_monitoredWrite_3 rfl ?_
    have g1 : Γ x0 = .inr 12 := by
      apply Classical.byContradiction
      intro q9
      rw [if_neg q9] at H
      cases H
    rw [if_pos g1] at H
    refine F_getR (ci := 12) (k := 89) hG (cf_Ref hw) (fl_Ref_247 hw) (by decide) (by decide) rfl d_Ref_monitoredWrite_4 g1 ?_
    refine J_iload_n d_Ref_monitoredWrite_7 rfl ?_
    obtain ⟨a2, ha2, H⟩ := Option.bind_eq_some_iff.mp H
    rw [j_rf ha2]
    obtain ⟨N3, hN3, H⟩ := Option.bind_eq_some_iff.mp H
    obtain ⟨k4, hk4, H⟩ := Option.bind_eq_some_iff.mp H
    refine F_iald k4 hw hG d_Ref_monitoredWrite_8 (gA_some hN3) (ix_some hk4) ?_
    refine J_icmp_ge (tgt := 63) d_Ref_monitoredWrite_9 (by decide) ?_ ?_
    · intro c18
      rw [if_pos c18] at H
      refine J_iconst (v := -1) d_Ref_monitoredWrite_63 (by decide) ?_
      have H := Option.some.inj H
      subst H
      exact J_iret (st := []) d_Ref_monitoredWrite_64 rfl rfl ⟨rfl, rfl, rfl⟩
    · intro c18
      rw [if_neg c18] at H
      refine J_bipush (v := 16) d_Ref_monitoredWrite_12 (by decide) ?_
      refine J_iload_n d_Ref_monitoredWrite_14 rfl ?_
      refine J_imul d_Ref_monitoredWrite_15 ?_
      refine J_iload_n d_Ref_monitoredWrite_16 rfl ?_
      refine J_iadd d_Ref_monitoredWrite_17 ?_
      refine J_istore d_Ref_monitoredWrite_18 (Nat.le_of_ble_eq_true rfl) ?_
      refine J.ls (ls' := [some (.ref x0), some (.int x1), some (.int x2), some (.int x3), some (.int (((16 : Int32) * x1) + x3))]) rfl ?_
      refine J_aload_n d_Ref_monitoredWrite_20 rfl ?_
      refine F_getR (ci := 12) (k := 91) hG (cf_Ref hw) (fl_Ref_253 hw) (by decide) (by decide) rfl d_Ref_monitoredWrite_21 g1 ?_
      refine J_iload d_Ref_monitoredWrite_24 rfl ?_
      obtain ⟨a5, ha5, H⟩ := Option.bind_eq_some_iff.mp H
      rw [j_rf ha5]
      obtain ⟨N6, hN6, H⟩ := Option.bind_eq_some_iff.mp H
      obtain ⟨k7, hk7, H⟩ := Option.bind_eq_some_iff.mp H
      refine F_zald k7 hw hG d_Ref_monitoredWrite_26 (gA_some hN6) (ix_some hk7) ?_
      refine J_if_eq (tgt := 57) d_Ref_monitoredWrite_27 (by decide) ?_ ?_
      · intro c17
        rw [if_pos c17] at H
        refine J.drop [true, true, true, true, false] rfl ?_
        exact p_Ref_monitoredWrite_L57 hw hG ih H
      · intro c17
        rw [if_neg c17] at H
        refine J_aload_n d_Ref_monitoredWrite_30 rfl ?_
        refine F_getR (ci := 12) (k := 94) hG (cf_Ref hw) (fl_Ref_262 hw) (by decide) (by decide) rfl d_Ref_monitoredWrite_31 g1 ?_
        refine J_iload d_Ref_monitoredWrite_34 rfl ?_
        obtain ⟨a8, ha8, H⟩ := Option.bind_eq_some_iff.mp H
        rw [j_rf ha8]
        obtain ⟨N9, hN9, H⟩ := Option.bind_eq_some_iff.mp H
        obtain ⟨k10, hk10, H⟩ := Option.bind_eq_some_iff.mp H
        refine F_zald k10 hw hG d_Ref_monitoredWrite_36 (gA_some hN9) (ix_some hk10) ?_
        refine J_if_eq (tgt := 57) d_Ref_monitoredWrite_37 (by decide) ?_ ?_
        · intro c16
          rw [if_pos c16] at H
          refine J.drop [true, true, true, true, false] rfl ?_
          exact p_Ref_monitoredWrite_L57 hw hG ih H
        · intro c16
          rw [if_neg c16] at H
          refine J_aload_n d_Ref_monitoredWrite_40 rfl ?_
          refine F_getR (ci := 12) (k := 92) hG (cf_Ref hw) (fl_Ref_256 hw) (by decide) (by decide) rfl d_Ref_monitoredWrite_41 g1 ?_
          refine J_iload d_Ref_monitoredWrite_44 rfl ?_
          obtain ⟨a11, ha11, H⟩ := Option.bind_eq_some_iff.mp H
          rw [j_rf ha11]
          obtain ⟨N12, hN12, H⟩ := Option.bind_eq_some_iff.mp H
          obtain ⟨k13, hk13, H⟩ := Option.bind_eq_some_iff.mp H
          refine F_lald k13 hw hG d_Ref_monitoredWrite_46 (gA_some hN12) (ix_some hk13) ?_
          obtain ⟨q14, hq14, H⟩ := Option.bind_eq_some_iff.mp H
          refine J_callS (kc := 0) (ks := 0) (kc' := 0) (ks' := 0) (as := [.long (φ.2.1 a11 k13)]) (st := []) (mf_Ref_idOf hw) (ms_Ref_396 hw) d_Ref_monitoredWrite_47 ln_Ref_idOf (by decide) (by first | exact Nat.le_of_ble_eq_true rfl | (simp only [List.map_cons, List.map_nil, List.sum_cons, List.sum_nil, va_rf_cat]; exact Nat.le_of_ble_eq_true rfl)) rfl (p_Ref_idOf hw hG hq14) ?_ (fun E h' n' x' e1 => by cases e1.1)
          intro v9 h9 n9 x9 e9
          obtain ⟨e91, e92, e93⟩ := e9
          cases e91
          subst e92
          subst e93
          clear x
          rename Bool => x
          show J _ _ _ _ (_ :: _) _ _ _ _ _ _
          refine J_iload_n d_Ref_monitoredWrite_50 rfl ?_
          refine J_icmp_ne (tgt := 57) d_Ref_monitoredWrite_51 (by decide) ?_ ?_
          · intro c15
            rw [if_neg c15] at H
            refine J.drop [true, true, true, true, false] rfl ?_
            exact p_Ref_monitoredWrite_L57 hw hG ih H
          · intro c15
            rw [if_pos c15] at H
            refine J_iload d_Ref_monitoredWrite_54 rfl ?_
            have H := Option.some.inj H
            subst H
            exact J_iret (st := []) d_Ref_monitoredWrite_56 rfl rfl ⟨rfl, rfl, rfl⟩
def f_Ref_monitoredWrite (Γ : gm_T) (φ : ph_T) (this : Nat) (p0 : Int32) (p1 : Int32) : Option (Int32 × ph_T) :=
  f_Ref_monitoredWrite_L2 Γ  jF φ this p0 p1 (0 : Int32)
set_option maxRecDepth 100000 in
set_option maxHeartbeats 4000000 in
theorem p_Ref_monitoredWrite {w : jw_T} (hw : jok w) {Γ : gm_T} {n : Nat} (hG : gd w Γ n) {x : Bool} {φ : ph_T} {this : Nat} {p0 : Int32} {p1 : Int32} {q : Int32 × ph_T} (H : f_Ref_monitoredWrite Γ φ this p0 p1 = some q) : jc w M_Ref_monitoredWrite [.ref this, .int p0, .int p1] (pic Γ φ) n x 0 0 (fq Γ n (.inl (some (.int q.1))) q.2) := by
  refine jc.of (by simp only [jent_r, jent_i, jent_l, jent_a, jent_0]; exact Nat.le_of_ble_eq_true rfl) ?_
  have hls : jents [.ref this, .int p0, .int p1] (jm_nL M_Ref_monitoredWrite) = [some (.ref this), some (.int p0), some (.int p1), none, none] := by simp only [jents, jent_r, jent_i, jent_l, jent_a, jent_0]; rfl
  rw [hls]
  clear hls
  unfold f_Ref_monitoredWrite at H
  refine J_iconst (v := 0) d_Ref_monitoredWrite_0 (by decide) ?_
  refine J_istore_n d_Ref_monitoredWrite_1 (Nat.le_of_ble_eq_true rfl) ?_
  refine J.ls (ls' := [some (.ref this), some (.int p0), some (.int p1), some (.int (0 : Int32)), none]) rfl ?_
  refine J.drop [true, true, true, true, false] rfl ?_
  exact p_Ref_monitoredWrite_L2 hw hG  _ H
theorem ln_Ref_monitoredRead : (parseMethodDescriptor y_Ref_monitoredRead.desc).map (fun q => q.parameters.length) = some 2 := by decide +kernel
def f_Ref_monitoredRead_L2 (Γ : gm_T)  : Nat → ph_T → Nat → Int32 → Int32 → Int32 → Option (Int32 × ph_T)
  | 0, _, _, _, _, _ => none
  | fu + 1, φ, x0, x1, x2, x3 =>
    @ite _ (Γ x0 = .inr 12) _ (
    Option.bind (φ.2.2 x0 90) fun a2 =>
    Option.bind (gA Γ a2 0) fun N3 =>
    Option.bind (ix x1 N3) fun k4 =>
    if (φ.1 a2 k4) ≤ x3 then
      some ((-1 : Int32), φ)
    else
      Option.bind (φ.2.2 x0 96) fun a5 =>
      Option.bind (gA Γ a5 1) fun N6 =>
      Option.bind (ix (((16 : Int32) * x1) + x3) N6) fun k7 =>
      Option.bind (f_Ref_idOf Γ φ (φ.2.1 a5 k7)) fun q8 =>
      if q8.1 = x2 then
        some ((((16 : Int32) * x1) + x3), q8.2)
      else
        (f_Ref_monitoredRead_L2 Γ  fu) q8.2 x0 x1 x2 (x3 + (1 : Int32))
    ) none
set_option maxRecDepth 100000 in
set_option maxHeartbeats 4000000 in
theorem p_Ref_monitoredRead_L2 {w : jw_T} (hw : jok w) {Γ : gm_T} {n : Nat} (hG : gd w Γ n)  : ∀ (fu : Nat) {x : Bool} {φ : ph_T} {x0 : Nat} {x1 : Int32} {x2 : Int32} {x3 : Int32} {q : Int32 × ph_T}, f_Ref_monitoredRead_L2 Γ  fu φ x0 x1 x2 x3 = some q → J w M_Ref_monitoredRead 2 [some (.ref x0), some (.int x1), some (.int x2), some (.int x3)] [] (pic Γ φ) n x 0 0 (fq Γ n (.inl (some (.int q.1))) q.2) := by
  intro fu
  induction fu with
  | zero =>
    intro x φ x0 x1 x2 x3 q H
    cases H
  | succ fu ih =>
    intro x φ x0 x1 x2 x3 q H
    unfold f_Ref_monitoredRead_L2 at H
    refine J_iload_n d_Ref_monitoredRead_2 rfl ?_
    refine J_aload_n d_Ref_monitoredRead_3 rfl ?_
    have g1 : Γ x0 = .inr 12 := by
      apply Classical.byContradiction
      intro q9
      rw [if_neg q9] at H
      cases H
    rw [if_pos g1] at H
    refine F_getR (ci := 12) (k := 90) hG (cf_Ref hw) (fl_Ref_250 hw) (by decide) (by decide) rfl d_Ref_monitoredRead_4 g1 ?_
    refine J_iload_n d_Ref_monitoredRead_7 rfl ?_
    obtain ⟨a2, ha2, H⟩ := Option.bind_eq_some_iff.mp H
    rw [j_rf ha2]
    obtain ⟨N3, hN3, H⟩ := Option.bind_eq_some_iff.mp H
    obtain ⟨k4, hk4, H⟩ := Option.bind_eq_some_iff.mp H
    refine F_iald k4 hw hG d_Ref_monitoredRead_8 (gA_some hN3) (ix_some hk4) ?_
    refine J_icmp_ge (tgt := 43) d_Ref_monitoredRead_9 (by decide) ?_ ?_
    · intro c10
      rw [if_pos c10] at H
      refine J_iconst (v := -1) d_Ref_monitoredRead_43 (by decide) ?_
      have H := Option.some.inj H
      subst H
      exact J_iret (st := []) d_Ref_monitoredRead_44 rfl rfl ⟨rfl, rfl, rfl⟩
    · intro c10
      rw [if_neg c10] at H
      refine J_aload_n d_Ref_monitoredRead_12 rfl ?_
      refine F_getR (ci := 12) (k := 96) hG (cf_Ref hw) (fl_Ref_268 hw) (by decide) (by decide) rfl d_Ref_monitoredRead_13 g1 ?_
      refine J_bipush (v := 16) d_Ref_monitoredRead_16 (by decide) ?_
      refine J_iload_n d_Ref_monitoredRead_18 rfl ?_
      refine J_imul d_Ref_monitoredRead_19 ?_
      refine J_iload_n d_Ref_monitoredRead_20 rfl ?_
      refine J_iadd d_Ref_monitoredRead_21 ?_
      obtain ⟨a5, ha5, H⟩ := Option.bind_eq_some_iff.mp H
      rw [j_rf ha5]
      obtain ⟨N6, hN6, H⟩ := Option.bind_eq_some_iff.mp H
      obtain ⟨k7, hk7, H⟩ := Option.bind_eq_some_iff.mp H
      refine F_lald k7 hw hG d_Ref_monitoredRead_22 (gA_some hN6) (ix_some hk7) ?_
      obtain ⟨q8, hq8, H⟩ := Option.bind_eq_some_iff.mp H
      refine J_callS (kc := 0) (ks := 0) (kc' := 0) (ks' := 0) (as := [.long (φ.2.1 a5 k7)]) (st := []) (mf_Ref_idOf hw) (ms_Ref_396 hw) d_Ref_monitoredRead_23 ln_Ref_idOf (by decide) (by first | exact Nat.le_of_ble_eq_true rfl | (simp only [List.map_cons, List.map_nil, List.sum_cons, List.sum_nil, va_rf_cat]; exact Nat.le_of_ble_eq_true rfl)) rfl (p_Ref_idOf hw hG hq8) ?_ (fun E h' n' x' e1 => by cases e1.1)
      intro v9 h9 n9 x9 e9
      obtain ⟨e91, e92, e93⟩ := e9
      cases e91
      subst e92
      subst e93
      clear x
      rename Bool => x
      show J _ _ _ _ (_ :: _) _ _ _ _ _ _
      refine J_iload_n d_Ref_monitoredRead_26 rfl ?_
      refine J_icmp_ne (tgt := 37) d_Ref_monitoredRead_27 (by decide) ?_ ?_
      · intro c9
        rw [if_neg c9] at H
        refine J_iinc (v := x3 + 1) d_Ref_monitoredRead_37 rfl (by rw [show Int32.ofInt 1 = (1 : Int32) from by decide]) ?_
        refine J.ls (ls' := [some (.ref x0), some (.int x1), some (.int x2), some (.int (x3 + (1 : Int32)))]) rfl ?_
        refine J_goto (tgt := 2) d_Ref_monitoredRead_40 (by decide) ?_
        refine J.drop [true, true, true, true] rfl ?_
        exact ih H
      · intro c9
        rw [if_pos c9] at H
        refine J_bipush (v := 16) d_Ref_monitoredRead_30 (by decide) ?_
        refine J_iload_n d_Ref_monitoredRead_32 rfl ?_
        refine J_imul d_Ref_monitoredRead_33 ?_
        refine J_iload_n d_Ref_monitoredRead_34 rfl ?_
        refine J_iadd d_Ref_monitoredRead_35 ?_
        have H := Option.some.inj H
        subst H
        exact J_iret (st := []) d_Ref_monitoredRead_36 rfl rfl ⟨rfl, rfl, rfl⟩
def f_Ref_monitoredRead (Γ : gm_T) (φ : ph_T) (this : Nat) (p0 : Int32) (p1 : Int32) : Option (Int32 × ph_T) :=
  f_Ref_monitoredRead_L2 Γ  jF φ this p0 p1 (0 : Int32)
set_option maxRecDepth 100000 in
set_option maxHeartbeats 4000000 in
theorem p_Ref_monitoredRead {w : jw_T} (hw : jok w) {Γ : gm_T} {n : Nat} (hG : gd w Γ n) {x : Bool} {φ : ph_T} {this : Nat} {p0 : Int32} {p1 : Int32} {q : Int32 × ph_T} (H : f_Ref_monitoredRead Γ φ this p0 p1 = some q) : jc w M_Ref_monitoredRead [.ref this, .int p0, .int p1] (pic Γ φ) n x 0 0 (fq Γ n (.inl (some (.int q.1))) q.2) := by
  refine jc.of (by simp only [jent_r, jent_i, jent_l, jent_a, jent_0]; exact Nat.le_of_ble_eq_true rfl) ?_
  have hls : jents [.ref this, .int p0, .int p1] (jm_nL M_Ref_monitoredRead) = [some (.ref this), some (.int p0), some (.int p1), none] := by simp only [jents, jent_r, jent_i, jent_l, jent_a, jent_0]; rfl
  rw [hls]
  clear hls
  unfold f_Ref_monitoredRead at H
  refine J_iconst (v := 0) d_Ref_monitoredRead_0 (by decide) ?_
  refine J_istore_n d_Ref_monitoredRead_1 (Nat.le_of_ble_eq_true rfl) ?_
  refine J.ls (ls' := [some (.ref this), some (.int p0), some (.int p1), some (.int (0 : Int32))]) rfl ?_
  refine J.drop [true, true, true, true] rfl ?_
  exact p_Ref_monitoredRead_L2 hw hG  _ H
theorem ln_Ref_lookAt : (parseMethodDescriptor y_Ref_lookAt.desc).map (fun q => q.parameters.length) = some 5 := by decide +kernel
def f_Ref_lookAt_L291 (Γ : gm_T)  (φ : ph_T) : Option (Unit × ph_T) :=
  some ((), φ)
set_option maxRecDepth 100000 in
set_option maxHeartbeats 4000000 in
theorem p_Ref_lookAt_L291 {w : jw_T} (hw : jok w) {Γ : gm_T} {n : Nat} (hG : gd w Γ n)  {x : Bool} {φ : ph_T} {q : Unit × ph_T} (H : f_Ref_lookAt_L291 Γ  φ  = some q) : J w M_Ref_lookAt 291 [none, none, none, none, none, none, none, none, none, none, none] [] (pic Γ φ) n x 0 0 (fq Γ n (.inl none) q.2) := by
  unfold f_Ref_lookAt_L291 at H
  have H := Option.some.inj H
  subst H
  exact J_vret (st := []) d_Ref_lookAt_291 rfl ⟨rfl, rfl, rfl⟩
def f_Ref_lookAt_L250 (Γ : gm_T)  (φ : ph_T) (x0 : Nat) (x1 : Int32) (x2 : Int32) (x9 : Int32) (x10 : Int32) (y0 : Int32) (y1 : Int32) : Option (Unit × ph_T) :=
  if y1 = y0 then
    if x9 = (1 : Int32) then
      @ite _ (Γ x0 = .inr 12) _ (
      Option.bind (φ.2.2 x0 96) fun a2 =>
      Option.bind (gA Γ a2 1) fun N3 =>
      Option.bind (ix x10 N3) fun k4 =>
      Option.bind (f_Ref_isAlone Γ φ (φ.2.1 a2 k4)) fun q5 =>
      if q5.1 = 0 then
        Option.bind (f_Ref_breakAt Γ q5.2 x0 x1 (11 : Int32) x2) fun q6 =>
        f_Ref_lookAt_L291 Γ  q6.2 
      else
        f_Ref_lookAt_L291 Γ  q5.2 
      ) none
    else
      f_Ref_lookAt_L291 Γ  φ 
  else
    @ite _ (Γ x0 = .inr 12) _ (
    Option.bind (f_Ref_breakAt Γ φ x0 x1 (7 : Int32) x2) fun q10 =>
    f_Ref_lookAt_L291 Γ  q10.2 
    ) none
set_option maxRecDepth 100000 in
set_option maxHeartbeats 4000000 in
theorem p_Ref_lookAt_L250 {w : jw_T} (hw : jok w) {Γ : gm_T} {n : Nat} (hG : gd w Γ n)  {x : Bool} {φ : ph_T} {x0 : Nat} {x1 : Int32} {x2 : Int32} {x9 : Int32} {x10 : Int32} {y0 : Int32} {y1 : Int32} {q : Unit × ph_T} (H : f_Ref_lookAt_L250 Γ  φ x0 x1 x2 x9 x10 y0 y1 = some q) : J w M_Ref_lookAt 250 [some (.ref x0), some (.int x1), some (.int x2), none, none, none, none, none, none, some (.int x9), some (.int x10)] [.int y0, .int y1] (pic Γ φ) n x 0 0 (fq Γ n (.inl none) q.2) := by
  unfold f_Ref_lookAt_L250 at H
  refine J_icmp_eq (tgt := 264) d_Ref_lookAt_250 (by decide) ?_ ?_
  · intro c11
    rw [if_pos c11] at H
    refine J_iload d_Ref_lookAt_264 rfl ?_
    refine J_iconst (v := 1) d_Ref_lookAt_266 (by decide) ?_
    refine J_icmp_ne (tgt := 291) d_Ref_lookAt_267 (by decide) ?_ ?_
    · intro c8
      rw [if_neg c8] at H
      refine J.drop [false, false, false, false, false, false, false, false, false, false, false] rfl ?_
      exact p_Ref_lookAt_L291 hw hG  H
    · intro c8
      rw [if_pos c8] at H
      refine J_aload_n d_Ref_lookAt_270 rfl ?_
      have g1 : Γ x0 = .inr 12 := by
        apply Classical.byContradiction
        intro q9
        rw [if_neg q9] at H
        cases H
      rw [if_pos g1] at H
      refine F_getR (ci := 12) (k := 96) hG (cf_Ref hw) (fl_Ref_268 hw) (by decide) (by decide) rfl d_Ref_lookAt_271 g1 ?_
      refine J_iload d_Ref_lookAt_274 rfl ?_
      obtain ⟨a2, ha2, H⟩ := Option.bind_eq_some_iff.mp H
      rw [j_rf ha2]
      obtain ⟨N3, hN3, H⟩ := Option.bind_eq_some_iff.mp H
      obtain ⟨k4, hk4, H⟩ := Option.bind_eq_some_iff.mp H
      refine F_lald k4 hw hG d_Ref_lookAt_276 (gA_some hN3) (ix_some hk4) ?_
      obtain ⟨q5, hq5, H⟩ := Option.bind_eq_some_iff.mp H
      refine J_callS (kc := 0) (ks := 0) (kc' := 0) (ks' := 0) (as := [.long (φ.2.1 a2 k4)]) (st := []) (mf_Ref_isAlone hw) (ms_Ref_329 hw) d_Ref_lookAt_277 ln_Ref_isAlone (by decide) (by first | exact Nat.le_of_ble_eq_true rfl | (simp only [List.map_cons, List.map_nil, List.sum_cons, List.sum_nil, va_rf_cat]; exact Nat.le_of_ble_eq_true rfl)) rfl (p_Ref_isAlone hw hG hq5) ?_ (fun E h' n' x' e1 => by cases e1.1)
      intro v9 h9 n9 x9 e9
      obtain ⟨e91, e92, e93⟩ := e9
      cases e91
      subst e92
      subst e93
      clear x
      rename Bool => x
      show J _ _ _ _ (_ :: _) _ _ _ _ _ _
      refine J_if_ne (tgt := 291) d_Ref_lookAt_280 (by decide) ?_ ?_
      · intro c7
        rw [if_neg c7] at H
        refine J.drop [false, false, false, false, false, false, false, false, false, false, false] rfl ?_
        exact p_Ref_lookAt_L291 hw hG  H
      · intro c7
        rw [if_pos c7] at H
        refine J_aload_n d_Ref_lookAt_283 rfl ?_
        refine J_iload_n d_Ref_lookAt_284 rfl ?_
        refine J_bipush (v := 11) d_Ref_lookAt_285 (by decide) ?_
        refine J_iload_n d_Ref_lookAt_287 rfl ?_
        obtain ⟨q6, hq6, H⟩ := Option.bind_eq_some_iff.mp H
        refine J_callV (kc := 0) (ks := 0) (kc' := 0) (ks' := 0) (a := x0) (ci := 12) (as := [.int x1, .int (11 : Int32), .int x2]) (st := []) (mf_Ref_breakAt hw) (mv_Ref_415 hw) d_Ref_lookAt_288 ln_Ref_breakAt (by decide) (by first | exact Nat.le_of_ble_eq_true rfl | (simp only [List.map_cons, List.map_nil, List.sum_cons, List.sum_nil, va_rf_cat]; exact Nat.le_of_ble_eq_true rfl)) rfl ((hG _).1 _ g1 (by decide)).1 ((hG _).1 _ g1 (by decide)).2 (by unfold pic; rw [g1]; rfl) (jcl_at hw rfl) rfl (p_Ref_breakAt hw hG hq6) ?_ (fun E h' n' x' e1 => by cases e1.1)
        intro v9 h9 n9 x9 e9
        obtain ⟨e91, e92, e93⟩ := e9
        cases e91
        subst e92
        subst e93
        clear x
        rename Bool => x
        show J _ _ _ _ [] _ _ _ _ _ _
        refine J.drop [false, false, false, false, false, false, false, false, false, false, false] rfl ?_
        exact p_Ref_lookAt_L291 hw hG  H
  · intro c11
    rw [if_neg c11] at H
    refine J_aload_n d_Ref_lookAt_253 rfl ?_
    refine J_iload_n d_Ref_lookAt_254 rfl ?_
    refine J_bipush (v := 7) d_Ref_lookAt_255 (by decide) ?_
    refine J_iload_n d_Ref_lookAt_257 rfl ?_
    have g9 : Γ x0 = .inr 12 := by
      apply Classical.byContradiction
      intro q9
      rw [if_neg q9] at H
      cases H
    rw [if_pos g9] at H
    obtain ⟨q10, hq10, H⟩ := Option.bind_eq_some_iff.mp H
    refine J_callV (kc := 0) (ks := 0) (kc' := 0) (ks' := 0) (a := x0) (ci := 12) (as := [.int x1, .int (7 : Int32), .int x2]) (st := []) (mf_Ref_breakAt hw) (mv_Ref_415 hw) d_Ref_lookAt_258 ln_Ref_breakAt (by decide) (by first | exact Nat.le_of_ble_eq_true rfl | (simp only [List.map_cons, List.map_nil, List.sum_cons, List.sum_nil, va_rf_cat]; exact Nat.le_of_ble_eq_true rfl)) rfl ((hG _).1 _ g9 (by decide)).1 ((hG _).1 _ g9 (by decide)).2 (by unfold pic; rw [g9]; rfl) (jcl_at hw rfl) rfl (p_Ref_breakAt hw hG hq10) ?_ (fun E h' n' x' e1 => by cases e1.1)
    intro v9 h9 n9 x9 e9
    obtain ⟨e91, e92, e93⟩ := e9
    cases e91
    subst e92
    subst e93
    clear x
    rename Bool => x
    show J _ _ _ _ [] _ _ _ _ _ _
    refine J_goto (tgt := 291) d_Ref_lookAt_261 (by decide) ?_
    refine J.drop [false, false, false, false, false, false, false, false, false, false, false] rfl ?_
    exact p_Ref_lookAt_L291 hw hG  H
def f_Ref_lookAt_L236 (Γ : gm_T)  (φ : ph_T) (x0 : Nat) (x1 : Int32) (x2 : Int32) (x6 : Int32) (x9 : Int32) (x10 : Int32) (y0 : Int32) : Option (Unit × ph_T) :=
  if (x6 &&& (256 : Int32)) = 0 then
    f_Ref_lookAt_L250 Γ  φ x0 x1 x2 x9 x10 (0 : Int32) y0
  else
    f_Ref_lookAt_L250 Γ  φ x0 x1 x2 x9 x10 (1 : Int32) y0
set_option maxRecDepth 100000 in
set_option maxHeartbeats 4000000 in
theorem p_Ref_lookAt_L236 {w : jw_T} (hw : jok w) {Γ : gm_T} {n : Nat} (hG : gd w Γ n)  {x : Bool} {φ : ph_T} {x0 : Nat} {x1 : Int32} {x2 : Int32} {x6 : Int32} {x9 : Int32} {x10 : Int32} {y0 : Int32} {q : Unit × ph_T} (H : f_Ref_lookAt_L236 Γ  φ x0 x1 x2 x6 x9 x10 y0 = some q) : J w M_Ref_lookAt 236 [some (.ref x0), some (.int x1), some (.int x2), none, none, none, some (.int x6), none, none, some (.int x9), some (.int x10)] [.int y0] (pic Γ φ) n x 0 0 (fq Γ n (.inl none) q.2) := by
  unfold f_Ref_lookAt_L236 at H
  refine J_iload d_Ref_lookAt_236 rfl ?_
  refine J_sipush (v := 256) d_Ref_lookAt_238 (by decide) ?_
  refine J_iand d_Ref_lookAt_241 ?_
  refine J_if_eq (tgt := 249) d_Ref_lookAt_242 (by decide) ?_ ?_
  · intro c12
    rw [if_pos c12] at H
    refine J_iconst (v := 0) d_Ref_lookAt_249 (by decide) ?_
    refine J.drop [true, true, true, false, false, false, false, false, false, true, true] rfl ?_
    exact p_Ref_lookAt_L250 hw hG  H
  · intro c12
    rw [if_neg c12] at H
    refine J_iconst (v := 1) d_Ref_lookAt_245 (by decide) ?_
    refine J_goto (tgt := 250) d_Ref_lookAt_246 (by decide) ?_
    refine J.drop [true, true, true, false, false, false, false, false, false, true, true] rfl ?_
    exact p_Ref_lookAt_L250 hw hG  H
def f_Ref_lookAt_L175 (Γ : gm_T)  (φ : ph_T) : Option (Unit × ph_T) :=
  f_Ref_lookAt_L291 Γ  φ 
set_option maxRecDepth 100000 in
set_option maxHeartbeats 4000000 in
theorem p_Ref_lookAt_L175 {w : jw_T} (hw : jok w) {Γ : gm_T} {n : Nat} (hG : gd w Γ n)  {x : Bool} {φ : ph_T} {q : Unit × ph_T} (H : f_Ref_lookAt_L175 Γ  φ  = some q) : J w M_Ref_lookAt 175 [none, none, none, none, none, none, none, none, none, none, none] [] (pic Γ φ) n x 0 0 (fq Γ n (.inl none) q.2) := by
  unfold f_Ref_lookAt_L175 at H
  refine J_goto (tgt := 291) d_Ref_lookAt_175 (by decide) ?_
  refine J.drop [false, false, false, false, false, false, false, false, false, false, false] rfl ?_
  exact p_Ref_lookAt_L291 hw hG  H
def f_Ref_lookAt_L114 (Γ : gm_T)  (φ : ph_T) : Option (Unit × ph_T) :=
  f_Ref_lookAt_L291 Γ  φ 
set_option maxRecDepth 100000 in
set_option maxHeartbeats 4000000 in
theorem p_Ref_lookAt_L114 {w : jw_T} (hw : jok w) {Γ : gm_T} {n : Nat} (hG : gd w Γ n)  {x : Bool} {φ : ph_T} {q : Unit × ph_T} (H : f_Ref_lookAt_L114 Γ  φ  = some q) : J w M_Ref_lookAt 114 [none, none, none, none, none, none, none, none, none, none, none] [] (pic Γ φ) n x 0 0 (fq Γ n (.inl none) q.2) := by
  unfold f_Ref_lookAt_L114 at H
  refine J_goto (tgt := 291) d_Ref_lookAt_114 (by decide) ?_
  refine J.drop [false, false, false, false, false, false, false, false, false, false, false] rfl ?_
  exact p_Ref_lookAt_L291 hw hG  H
def f_Ref_lookAt_L94 (Γ : gm_T)  (φ : ph_T) (x0 : Nat) (x1 : Int32) (x2 : Int32) (x4 : Int64) : Option (Unit × ph_T) :=
  Option.bind (f_Ref_breaks Γ φ x4) fun q13 =>
  if q13.1 ≤ 0 then
    f_Ref_lookAt_L114 Γ  q13.2 
  else
    @ite _ (Γ x0 = .inr 12) _ (
    Option.bind (f_Ref_breakAt Γ q13.2 x0 x1 q13.1 x2) fun q15 =>
    f_Ref_lookAt_L114 Γ  q15.2 
    ) none
set_option maxRecDepth 100000 in
set_option maxHeartbeats 4000000 in
theorem p_Ref_lookAt_L94 {w : jw_T} (hw : jok w) {Γ : gm_T} {n : Nat} (hG : gd w Γ n)  {x : Bool} {φ : ph_T} {x0 : Nat} {x1 : Int32} {x2 : Int32} {x4 : Int64} {q : Unit × ph_T} (H : f_Ref_lookAt_L94 Γ  φ x0 x1 x2 x4 = some q) : J w M_Ref_lookAt 94 [some (.ref x0), some (.int x1), some (.int x2), none, some (.long x4), none, none, none, none, none, none] [] (pic Γ φ) n x 0 0 (fq Γ n (.inl none) q.2) := by
  unfold f_Ref_lookAt_L94 at H
  refine J_lload d_Ref_lookAt_94 rfl ?_
  obtain ⟨q13, hq13, H⟩ := Option.bind_eq_some_iff.mp H
  refine J_callS (kc := 0) (ks := 0) (kc' := 0) (ks' := 0) (as := [.long x4]) (st := []) (mf_Ref_breaks hw) (ms_Ref_419 hw) d_Ref_lookAt_96 ln_Ref_breaks (by decide) (by first | exact Nat.le_of_ble_eq_true rfl | (simp only [List.map_cons, List.map_nil, List.sum_cons, List.sum_nil, va_rf_cat]; exact Nat.le_of_ble_eq_true rfl)) rfl (p_Ref_breaks hw hG hq13) ?_ (fun E h' n' x' e1 => by cases e1.1)
  intro v9 h9 n9 x9 e9
  obtain ⟨e91, e92, e93⟩ := e9
  cases e91
  subst e92
  subst e93
  clear x
  rename Bool => x
  show J _ _ _ _ (_ :: _) _ _ _ _ _ _
  refine J_istore d_Ref_lookAt_99 (Nat.le_of_ble_eq_true rfl) ?_
  refine J.ls (ls' := [some (.ref x0), some (.int x1), some (.int x2), none, some (.long x4), none, none, none, none, none, some (.int q13.1)]) rfl ?_
  refine J_iload d_Ref_lookAt_101 rfl ?_
  refine J_if_le (tgt := 114) d_Ref_lookAt_103 (by decide) ?_ ?_
  · intro c16
    rw [if_pos c16] at H
    refine J.drop [false, false, false, false, false, false, false, false, false, false, false] rfl ?_
    exact p_Ref_lookAt_L114 hw hG  H
  · intro c16
    rw [if_neg c16] at H
    refine J_aload_n d_Ref_lookAt_106 rfl ?_
    refine J_iload_n d_Ref_lookAt_107 rfl ?_
    refine J_iload d_Ref_lookAt_108 rfl ?_
    refine J_iload_n d_Ref_lookAt_110 rfl ?_
    have g14 : Γ x0 = .inr 12 := by
      apply Classical.byContradiction
      intro q9
      rw [if_neg q9] at H
      cases H
    rw [if_pos g14] at H
    obtain ⟨q15, hq15, H⟩ := Option.bind_eq_some_iff.mp H
    refine J_callV (kc := 0) (ks := 0) (kc' := 0) (ks' := 0) (a := x0) (ci := 12) (as := [.int x1, .int q13.1, .int x2]) (st := []) (mf_Ref_breakAt hw) (mv_Ref_415 hw) d_Ref_lookAt_111 ln_Ref_breakAt (by decide) (by first | exact Nat.le_of_ble_eq_true rfl | (simp only [List.map_cons, List.map_nil, List.sum_cons, List.sum_nil, va_rf_cat]; exact Nat.le_of_ble_eq_true rfl)) rfl ((hG _).1 _ g14 (by decide)).1 ((hG _).1 _ g14 (by decide)).2 (by unfold pic; rw [g14]; rfl) (jcl_at hw rfl) rfl (p_Ref_breakAt hw hG hq15) ?_ (fun E h' n' x' e1 => by cases e1.1)
    intro v9 h9 n9 x9 e9
    obtain ⟨e91, e92, e93⟩ := e9
    cases e91
    subst e92
    subst e93
    clear x
    rename Bool => x
    show J _ _ _ _ [] _ _ _ _ _ _
    refine J.drop [false, false, false, false, false, false, false, false, false, false, false] rfl ?_
    exact p_Ref_lookAt_L114 hw hG  H
def f_Ref_lookAt_L63 (Γ : gm_T)  (φ : ph_T) : Option (Unit × ph_T) :=
  some ((), φ)
set_option maxRecDepth 100000 in
set_option maxHeartbeats 4000000 in
theorem p_Ref_lookAt_L63 {w : jw_T} (hw : jok w) {Γ : gm_T} {n : Nat} (hG : gd w Γ n)  {x : Bool} {φ : ph_T} {q : Unit × ph_T} (H : f_Ref_lookAt_L63 Γ  φ  = some q) : J w M_Ref_lookAt 63 [none, none, none, none, none, none, none, none, none, none, none] [] (pic Γ φ) n x 0 0 (fq Γ n (.inl none) q.2) := by
  unfold f_Ref_lookAt_L63 at H
  have H := Option.some.inj H
  subst H
  exact J_vret (st := []) d_Ref_lookAt_63 rfl ⟨rfl, rfl, rfl⟩
def f_Ref_lookAt_L56 (Γ : gm_T)  (φ : ph_T) (x0 : Nat) (x1 : Int32) (x2 : Int32) : Option (Unit × ph_T) :=
  @ite _ (Γ x0 = .inr 12) _ (
  Option.bind (f_Ref_breakAt Γ φ x0 x1 (2 : Int32) x2) fun q18 =>
  f_Ref_lookAt_L63 Γ  q18.2 
  ) none
set_option maxRecDepth 100000 in
set_option maxHeartbeats 4000000 in
theorem p_Ref_lookAt_L56 {w : jw_T} (hw : jok w) {Γ : gm_T} {n : Nat} (hG : gd w Γ n)  {x : Bool} {φ : ph_T} {x0 : Nat} {x1 : Int32} {x2 : Int32} {q : Unit × ph_T} (H : f_Ref_lookAt_L56 Γ  φ x0 x1 x2 = some q) : J w M_Ref_lookAt 56 [some (.ref x0), some (.int x1), some (.int x2), none, none, none, none, none, none, none, none] [] (pic Γ φ) n x 0 0 (fq Γ n (.inl none) q.2) := by
  unfold f_Ref_lookAt_L56 at H
  refine J_aload_n d_Ref_lookAt_56 rfl ?_
  refine J_iload_n d_Ref_lookAt_57 rfl ?_
  refine J_iconst (v := 2) d_Ref_lookAt_58 (by decide) ?_
  refine J_iload_n d_Ref_lookAt_59 rfl ?_
  have g17 : Γ x0 = .inr 12 := by
    apply Classical.byContradiction
    intro q9
    rw [if_neg q9] at H
    cases H
  rw [if_pos g17] at H
  obtain ⟨q18, hq18, H⟩ := Option.bind_eq_some_iff.mp H
  refine J_callV (kc := 0) (ks := 0) (kc' := 0) (ks' := 0) (a := x0) (ci := 12) (as := [.int x1, .int (2 : Int32), .int x2]) (st := []) (mf_Ref_breakAt hw) (mv_Ref_415 hw) d_Ref_lookAt_60 ln_Ref_breakAt (by decide) (by first | exact Nat.le_of_ble_eq_true rfl | (simp only [List.map_cons, List.map_nil, List.sum_cons, List.sum_nil, va_rf_cat]; exact Nat.le_of_ble_eq_true rfl)) rfl ((hG _).1 _ g17 (by decide)).1 ((hG _).1 _ g17 (by decide)).2 (by unfold pic; rw [g17]; rfl) (jcl_at hw rfl) rfl (p_Ref_breakAt hw hG hq18) ?_ (fun E h' n' x' e1 => by cases e1.1)
  intro v9 h9 n9 x9 e9
  obtain ⟨e91, e92, e93⟩ := e9
  cases e91
  subst e92
  subst e93
  clear x
  rename Bool => x
  show J _ _ _ _ [] _ _ _ _ _ _
  refine J.drop [false, false, false, false, false, false, false, false, false, false, false] rfl ?_
  exact p_Ref_lookAt_L63 hw hG  H
def f_Ref_lookAt (Γ : gm_T) (φ : ph_T) (this : Nat) (p0 : Int32) (p1 : Int32) (p2 : Int32) (p3 : Int64) (p4 : Int32) : Option (Unit × ph_T) :=
  @ite _ (Γ this = .inr 12) _ (
  Option.bind (φ.2.2 this 82) fun a20 =>
  Option.bind (gA Γ a20 2) fun N21 =>
  Option.bind (ix (((5 : Int32) * p0) + p1) N21) fun k22 =>
  if (φ.1 a20 k22) = 0 then
    if p2 = 0 then
      some ((), φ)
    else
      if p1 = 0 then
        f_Ref_lookAt_L94 Γ  φ this p0 p1 p3
      else
        if p1 = (3 : Int32) then
          f_Ref_lookAt_L94 Γ  φ this p0 p1 p3
        else
          if p1 = (2 : Int32) then
            Option.bind (f_Ref_monitoredWrite Γ φ this p0 (p4 &&& (63 : Int32))) fun q35 =>
            if q35.1 = (-1 : Int32) then
              Option.bind (f_Ref_breakAt Γ q35.2 this p0 (9 : Int32) p1) fun q43 =>
              f_Ref_lookAt_L175 Γ  q43.2 
            else
              if ((p4 >>> ((6 : Int32) &&& 31)) &&& (3 : Int32)) = (1 : Int32) then
                Option.bind (q35.2.2.2 this 92) fun a36 =>
                Option.bind (gA Γ a36 1) fun N37 =>
                Option.bind (ix q35.1 N37) fun k38 =>
                Option.bind (f_Ref_isAlone Γ q35.2 (q35.2.2.1 a36 k38)) fun q39 =>
                if q39.1 = 0 then
                  Option.bind (f_Ref_breakAt Γ q39.2 this p0 (11 : Int32) p1) fun q40 =>
                  f_Ref_lookAt_L175 Γ  q40.2 
                else
                  f_Ref_lookAt_L175 Γ  q39.2 
              else
                f_Ref_lookAt_L175 Γ  q35.2 
          else
            if p1 = (4 : Int32) then
              Option.bind (f_Ref_monitoredRead Γ φ this p0 (p4 &&& (63 : Int32))) fun q23 =>
              if q23.1 = (-1 : Int32) then
                Option.bind (f_Ref_breakAt Γ q23.2 this p0 (10 : Int32) p1) fun q32 =>
                f_Ref_lookAt_L291 Γ  q32.2 
              else
                Option.bind (q23.2.2.2 this 97) fun a24 =>
                Option.bind (gA Γ a24 0) fun N25 =>
                Option.bind (ix q23.1 N25) fun k26 =>
                Option.bind (q23.2.2.2 this 96) fun a27 =>
                Option.bind (gA Γ a27 1) fun N28 =>
                Option.bind (ix q23.1 N28) fun k29 =>
                Option.bind (f_Ref_lengthOf Γ q23.2 (q23.2.2.1 a27 k29)) fun q30 =>
                if (q23.2.1 a24 k26) = (q30.1 - (1 : Int32)) then
                  f_Ref_lookAt_L236 Γ  q30.2 this p0 p1 p4 ((p4 >>> ((6 : Int32) &&& 31)) &&& (3 : Int32)) q23.1 (1 : Int32)
                else
                  f_Ref_lookAt_L236 Γ  q30.2 this p0 p1 p4 ((p4 >>> ((6 : Int32) &&& 31)) &&& (3 : Int32)) q23.1 (0 : Int32)
            else
              f_Ref_lookAt_L291 Γ  φ 
  else
    if p2 = 0 then
      Option.bind (f_Ref_breakAt Γ φ this p0 (1 : Int32) p1) fun q57 =>
      f_Ref_lookAt_L63 Γ  q57.2 
    else
      Option.bind (φ.2.2 this 83) fun a49 =>
      Option.bind (gA Γ a49 1) fun N50 =>
      Option.bind (ix (((5 : Int32) * p0) + p1) N50) fun k51 =>
      if (lg_cmp p3 (φ.2.1 a49 k51)) = 0 then
        Option.bind (φ.2.2 this 84) fun a52 =>
        Option.bind (gA Γ a52 0) fun N53 =>
        Option.bind (ix (((5 : Int32) * p0) + p1) N53) fun k54 =>
        if p4 = (φ.1 a52 k54) then
          f_Ref_lookAt_L63 Γ  φ 
        else
          f_Ref_lookAt_L56 Γ  φ this p0 p1
      else
        f_Ref_lookAt_L56 Γ  φ this p0 p1
  ) none
set_option maxRecDepth 100000 in
set_option maxHeartbeats 4000000 in
theorem p_Ref_lookAt {w : jw_T} (hw : jok w) {Γ : gm_T} {n : Nat} (hG : gd w Γ n) {x : Bool} {φ : ph_T} {this : Nat} {p0 : Int32} {p1 : Int32} {p2 : Int32} {p3 : Int64} {p4 : Int32} {q : Unit × ph_T} (H : f_Ref_lookAt Γ φ this p0 p1 p2 p3 p4 = some q) : jc w M_Ref_lookAt [.ref this, .int p0, .int p1, .int p2, .long p3, .int p4] (pic Γ φ) n x 0 0 (fq Γ n (.inl none) q.2) := by
  refine jc.of (by simp only [jent_r, jent_i, jent_l, jent_a, jent_0]; exact Nat.le_of_ble_eq_true rfl) ?_
  have hls : jents [.ref this, .int p0, .int p1, .int p2, .long p3, .int p4] (jm_nL M_Ref_lookAt) = [some (.ref this), some (.int p0), some (.int p1), some (.int p2), some (.long p3), none, some (.int p4), none, none, none, none] := by simp only [jents, jent_r, jent_i, jent_l, jent_a, jent_0]; rfl
  rw [hls]
  clear hls
  unfold f_Ref_lookAt at H
  refine J_iconst (v := 5) d_Ref_lookAt_0 (by decide) ?_
  refine J_iload_n d_Ref_lookAt_1 rfl ?_
  refine J_imul d_Ref_lookAt_2 ?_
  refine J_iload_n d_Ref_lookAt_3 rfl ?_
  refine J_iadd d_Ref_lookAt_4 ?_
  refine J_istore d_Ref_lookAt_5 (Nat.le_of_ble_eq_true rfl) ?_
  refine J.ls (ls' := [some (.ref this), some (.int p0), some (.int p1), some (.int p2), some (.long p3), none, some (.int p4), some (.int (((5 : Int32) * p0) + p1)), none, none, none]) rfl ?_
  refine J_aload_n d_Ref_lookAt_7 rfl ?_
  have g19 : Γ this = .inr 12 := by
    apply Classical.byContradiction
    intro q9
    rw [if_neg q9] at H
    cases H
  rw [if_pos g19] at H
  refine F_getR (ci := 12) (k := 82) hG (cf_Ref hw) (fl_Ref_226 hw) (by decide) (by decide) rfl d_Ref_lookAt_8 g19 ?_
  refine J_iload d_Ref_lookAt_11 rfl ?_
  obtain ⟨a20, ha20, H⟩ := Option.bind_eq_some_iff.mp H
  rw [j_rf ha20]
  obtain ⟨N21, hN21, H⟩ := Option.bind_eq_some_iff.mp H
  obtain ⟨k22, hk22, H⟩ := Option.bind_eq_some_iff.mp H
  refine F_zald k22 hw hG d_Ref_lookAt_13 (gA_some hN21) (ix_some hk22) ?_
  refine J_if_eq (tgt := 64) d_Ref_lookAt_14 (by decide) ?_ ?_
  · intro c59
    rw [if_pos c59] at H
    refine J_iload_n d_Ref_lookAt_64 rfl ?_
    refine J_if_ne (tgt := 69) d_Ref_lookAt_65 (by decide) ?_ ?_
    · intro c48
      rw [if_neg c48] at H
      refine J_iload d_Ref_lookAt_69 rfl ?_
      refine J_bipush (v := 63) d_Ref_lookAt_71 (by decide) ?_
      refine J_iand d_Ref_lookAt_73 ?_
      refine J_istore d_Ref_lookAt_74 (Nat.le_of_ble_eq_true rfl) ?_
      refine J.ls (ls' := [some (.ref this), some (.int p0), some (.int p1), some (.int p2), some (.long p3), none, some (.int p4), some (.int (((5 : Int32) * p0) + p1)), some (.int (p4 &&& (63 : Int32))), none, none]) rfl ?_
      refine J_iload d_Ref_lookAt_76 rfl ?_
      refine J_bipush (v := 6) d_Ref_lookAt_78 (by decide) ?_
      refine J_ishr d_Ref_lookAt_80 ?_
      refine J_iconst (v := 3) d_Ref_lookAt_81 (by decide) ?_
      refine J_iand d_Ref_lookAt_82 ?_
      refine J_istore d_Ref_lookAt_83 (Nat.le_of_ble_eq_true rfl) ?_
      refine J.ls (ls' := [some (.ref this), some (.int p0), some (.int p1), some (.int p2), some (.long p3), none, some (.int p4), some (.int (((5 : Int32) * p0) + p1)), some (.int (p4 &&& (63 : Int32))), some (.int ((p4 >>> ((6 : Int32) &&& 31)) &&& (3 : Int32))), none]) rfl ?_
      refine J_iload_n d_Ref_lookAt_85 rfl ?_
      refine J_if_eq (tgt := 94) d_Ref_lookAt_86 (by decide) ?_ ?_
      · intro c47
        rw [if_pos c47] at H
        refine J.drop [true, true, true, false, true, false, false, false, false, false, false] rfl ?_
        exact p_Ref_lookAt_L94 hw hG  H
      · intro c47
        rw [if_neg c47] at H
        refine J_iload_n d_Ref_lookAt_89 rfl ?_
        refine J_iconst (v := 3) d_Ref_lookAt_90 (by decide) ?_
        refine J_icmp_ne (tgt := 117) d_Ref_lookAt_91 (by decide) ?_ ?_
        · intro c46
          rw [if_neg c46] at H
          refine J_iload_n d_Ref_lookAt_117 rfl ?_
          refine J_iconst (v := 2) d_Ref_lookAt_118 (by decide) ?_
          refine J_icmp_ne (tgt := 178) d_Ref_lookAt_119 (by decide) ?_ ?_
          · intro c45
            rw [if_neg c45] at H
            refine J_iload_n d_Ref_lookAt_178 rfl ?_
            refine J_iconst (v := 4) d_Ref_lookAt_179 (by decide) ?_
            refine J_icmp_ne (tgt := 291) d_Ref_lookAt_180 (by decide) ?_ ?_
            · intro c34
              rw [if_neg c34] at H
              refine J.drop [false, false, false, false, false, false, false, false, false, false, false] rfl ?_
              exact p_Ref_lookAt_L291 hw hG  H
            · intro c34
              rw [if_pos c34] at H
              refine J_aload_n d_Ref_lookAt_183 rfl ?_
              refine J_iload_n d_Ref_lookAt_184 rfl ?_
              refine J_iload d_Ref_lookAt_185 rfl ?_
              obtain ⟨q23, hq23, H⟩ := Option.bind_eq_some_iff.mp H
              refine J_callV (kc := 0) (ks := 0) (kc' := 0) (ks' := 0) (a := this) (ci := 12) (as := [.int p0, .int (p4 &&& (63 : Int32))]) (st := []) (mf_Ref_monitoredRead hw) (mv_Ref_425 hw) d_Ref_lookAt_187 ln_Ref_monitoredRead (by decide) (by first | exact Nat.le_of_ble_eq_true rfl | (simp only [List.map_cons, List.map_nil, List.sum_cons, List.sum_nil, va_rf_cat]; exact Nat.le_of_ble_eq_true rfl)) rfl ((hG _).1 _ g19 (by decide)).1 ((hG _).1 _ g19 (by decide)).2 (by unfold pic; rw [g19]; rfl) (jcl_at hw rfl) rfl (p_Ref_monitoredRead hw hG hq23) ?_ (fun E h' n' x' e1 => by cases e1.1)
              intro v9 h9 n9 x9 e9
              obtain ⟨e91, e92, e93⟩ := e9
              cases e91
              subst e92
              subst e93
              clear x
              rename Bool => x
              show J _ _ _ _ (_ :: _) _ _ _ _ _ _
              refine J_istore d_Ref_lookAt_190 (Nat.le_of_ble_eq_true rfl) ?_
              refine J.ls (ls' := [some (.ref this), some (.int p0), some (.int p1), some (.int p2), some (.long p3), none, some (.int p4), some (.int (((5 : Int32) * p0) + p1)), some (.int (p4 &&& (63 : Int32))), some (.int ((p4 >>> ((6 : Int32) &&& 31)) &&& (3 : Int32))), some (.int q23.1)]) rfl ?_
              refine J_iload d_Ref_lookAt_192 rfl ?_
              refine J_iconst (v := -1) d_Ref_lookAt_194 (by decide) ?_
              refine J_icmp_ne (tgt := 209) d_Ref_lookAt_195 (by decide) ?_ ?_
              · intro c33
                rw [if_neg c33] at H
                refine J_aload_n d_Ref_lookAt_209 rfl ?_
                refine F_getR (ci := 12) (k := 97) hG (cf_Ref hw) (fl_Ref_271 hw) (by decide) (by decide) rfl d_Ref_lookAt_210 g19 ?_
                refine J_iload d_Ref_lookAt_213 rfl ?_
                obtain ⟨a24, ha24, H⟩ := Option.bind_eq_some_iff.mp H
                rw [j_rf ha24]
                obtain ⟨N25, hN25, H⟩ := Option.bind_eq_some_iff.mp H
                obtain ⟨k26, hk26, H⟩ := Option.bind_eq_some_iff.mp H
                refine F_iald k26 hw hG d_Ref_lookAt_215 (gA_some hN25) (ix_some hk26) ?_
                refine J_aload_n d_Ref_lookAt_216 rfl ?_
                refine F_getR (ci := 12) (k := 96) hG (cf_Ref hw) (fl_Ref_268 hw) (by decide) (by decide) rfl d_Ref_lookAt_217 g19 ?_
                refine J_iload d_Ref_lookAt_220 rfl ?_
                obtain ⟨a27, ha27, H⟩ := Option.bind_eq_some_iff.mp H
                rw [j_rf ha27]
                obtain ⟨N28, hN28, H⟩ := Option.bind_eq_some_iff.mp H
                obtain ⟨k29, hk29, H⟩ := Option.bind_eq_some_iff.mp H
                refine F_lald k29 hw hG d_Ref_lookAt_222 (gA_some hN28) (ix_some hk29) ?_
                obtain ⟨q30, hq30, H⟩ := Option.bind_eq_some_iff.mp H
                refine J_callS (kc := 0) (ks := 0) (kc' := 0) (ks' := 0) (as := [.long (q23.2.2.1 a27 k29)]) (st := [.int (q23.2.1 a24 k26)]) (mf_Ref_lengthOf hw) (ms_Ref_321 hw) d_Ref_lookAt_223 ln_Ref_lengthOf (by decide) (by first | exact Nat.le_of_ble_eq_true rfl | (simp only [List.map_cons, List.map_nil, List.sum_cons, List.sum_nil, va_rf_cat]; exact Nat.le_of_ble_eq_true rfl)) rfl (p_Ref_lengthOf hw hG hq30) ?_ (fun E h' n' x' e1 => by cases e1.1)
                intro v9 h9 n9 x9 e9
                obtain ⟨e91, e92, e93⟩ := e9
                cases e91
                subst e92
                subst e93
                clear x
                rename Bool => x
                show J _ _ _ _ (_ :: _) _ _ _ _ _ _
                refine J_iconst (v := 1) d_Ref_lookAt_226 (by decide) ?_
                refine J_isub d_Ref_lookAt_227 ?_
                refine J_icmp_ne (tgt := 235) d_Ref_lookAt_228 (by decide) ?_ ?_
                · intro c31
                  rw [if_neg c31] at H
                  refine J_iconst (v := 0) d_Ref_lookAt_235 (by decide) ?_
                  refine J.drop [true, true, true, false, false, false, true, false, false, true, true] rfl ?_
                  exact p_Ref_lookAt_L236 hw hG  H
                · intro c31
                  rw [if_pos c31] at H
                  refine J_iconst (v := 1) d_Ref_lookAt_231 (by decide) ?_
                  refine J_goto (tgt := 236) d_Ref_lookAt_232 (by decide) ?_
                  refine J.drop [true, true, true, false, false, false, true, false, false, true, true] rfl ?_
                  exact p_Ref_lookAt_L236 hw hG  H
              · intro c33
                rw [if_pos c33] at H
                refine J_aload_n d_Ref_lookAt_198 rfl ?_
                refine J_iload_n d_Ref_lookAt_199 rfl ?_
                refine J_bipush (v := 10) d_Ref_lookAt_200 (by decide) ?_
                refine J_iload_n d_Ref_lookAt_202 rfl ?_
                obtain ⟨q32, hq32, H⟩ := Option.bind_eq_some_iff.mp H
                refine J_callV (kc := 0) (ks := 0) (kc' := 0) (ks' := 0) (a := this) (ci := 12) (as := [.int p0, .int (10 : Int32), .int p1]) (st := []) (mf_Ref_breakAt hw) (mv_Ref_415 hw) d_Ref_lookAt_203 ln_Ref_breakAt (by decide) (by first | exact Nat.le_of_ble_eq_true rfl | (simp only [List.map_cons, List.map_nil, List.sum_cons, List.sum_nil, va_rf_cat]; exact Nat.le_of_ble_eq_true rfl)) rfl ((hG _).1 _ g19 (by decide)).1 ((hG _).1 _ g19 (by decide)).2 (by unfold pic; rw [g19]; rfl) (jcl_at hw rfl) rfl (p_Ref_breakAt hw hG hq32) ?_ (fun E h' n' x' e1 => by cases e1.1)
                intro v9 h9 n9 x9 e9
                obtain ⟨e91, e92, e93⟩ := e9
                cases e91
                subst e92
                subst e93
                clear x
                rename Bool => x
                show J _ _ _ _ [] _ _ _ _ _ _
                refine J_goto (tgt := 291) d_Ref_lookAt_206 (by decide) ?_
                refine J.drop [false, false, false, false, false, false, false, false, false, false, false] rfl ?_
                exact p_Ref_lookAt_L291 hw hG  H
          · intro c45
            rw [if_pos c45] at H
            refine J_aload_n d_Ref_lookAt_122 rfl ?_
            refine J_iload_n d_Ref_lookAt_123 rfl ?_
            refine J_iload d_Ref_lookAt_124 rfl ?_
            obtain ⟨q35, hq35, H⟩ := Option.bind_eq_some_iff.mp H
            refine J_callV (kc := 0) (ks := 0) (kc' := 0) (ks' := 0) (a := this) (ci := 12) (as := [.int p0, .int (p4 &&& (63 : Int32))]) (st := []) (mf_Ref_monitoredWrite hw) (mv_Ref_422 hw) d_Ref_lookAt_126 ln_Ref_monitoredWrite (by decide) (by first | exact Nat.le_of_ble_eq_true rfl | (simp only [List.map_cons, List.map_nil, List.sum_cons, List.sum_nil, va_rf_cat]; exact Nat.le_of_ble_eq_true rfl)) rfl ((hG _).1 _ g19 (by decide)).1 ((hG _).1 _ g19 (by decide)).2 (by unfold pic; rw [g19]; rfl) (jcl_at hw rfl) rfl (p_Ref_monitoredWrite hw hG hq35) ?_ (fun E h' n' x' e1 => by cases e1.1)
            intro v9 h9 n9 x9 e9
            obtain ⟨e91, e92, e93⟩ := e9
            cases e91
            subst e92
            subst e93
            clear x
            rename Bool => x
            show J _ _ _ _ (_ :: _) _ _ _ _ _ _
            refine J_istore d_Ref_lookAt_129 (Nat.le_of_ble_eq_true rfl) ?_
            refine J.ls (ls' := [some (.ref this), some (.int p0), some (.int p1), some (.int p2), some (.long p3), none, some (.int p4), some (.int (((5 : Int32) * p0) + p1)), some (.int (p4 &&& (63 : Int32))), some (.int ((p4 >>> ((6 : Int32) &&& 31)) &&& (3 : Int32))), some (.int q35.1)]) rfl ?_
            refine J_iload d_Ref_lookAt_131 rfl ?_
            refine J_iconst (v := -1) d_Ref_lookAt_133 (by decide) ?_
            refine J_icmp_ne (tgt := 148) d_Ref_lookAt_134 (by decide) ?_ ?_
            · intro c44
              rw [if_neg c44] at H
              refine J_iload d_Ref_lookAt_148 rfl ?_
              refine J_iconst (v := 1) d_Ref_lookAt_150 (by decide) ?_
              refine J_icmp_ne (tgt := 175) d_Ref_lookAt_151 (by decide) ?_ ?_
              · intro c42
                rw [if_neg c42] at H
                refine J.drop [false, false, false, false, false, false, false, false, false, false, false] rfl ?_
                exact p_Ref_lookAt_L175 hw hG  H
              · intro c42
                rw [if_pos c42] at H
                refine J_aload_n d_Ref_lookAt_154 rfl ?_
                refine F_getR (ci := 12) (k := 92) hG (cf_Ref hw) (fl_Ref_256 hw) (by decide) (by decide) rfl d_Ref_lookAt_155 g19 ?_
                refine J_iload d_Ref_lookAt_158 rfl ?_
                obtain ⟨a36, ha36, H⟩ := Option.bind_eq_some_iff.mp H
                rw [j_rf ha36]
                obtain ⟨N37, hN37, H⟩ := Option.bind_eq_some_iff.mp H
                obtain ⟨k38, hk38, H⟩ := Option.bind_eq_some_iff.mp H
                refine F_lald k38 hw hG d_Ref_lookAt_160 (gA_some hN37) (ix_some hk38) ?_
                obtain ⟨q39, hq39, H⟩ := Option.bind_eq_some_iff.mp H
                refine J_callS (kc := 0) (ks := 0) (kc' := 0) (ks' := 0) (as := [.long (q35.2.2.1 a36 k38)]) (st := []) (mf_Ref_isAlone hw) (ms_Ref_329 hw) d_Ref_lookAt_161 ln_Ref_isAlone (by decide) (by first | exact Nat.le_of_ble_eq_true rfl | (simp only [List.map_cons, List.map_nil, List.sum_cons, List.sum_nil, va_rf_cat]; exact Nat.le_of_ble_eq_true rfl)) rfl (p_Ref_isAlone hw hG hq39) ?_ (fun E h' n' x' e1 => by cases e1.1)
                intro v9 h9 n9 x9 e9
                obtain ⟨e91, e92, e93⟩ := e9
                cases e91
                subst e92
                subst e93
                clear x
                rename Bool => x
                show J _ _ _ _ (_ :: _) _ _ _ _ _ _
                refine J_if_ne (tgt := 175) d_Ref_lookAt_164 (by decide) ?_ ?_
                · intro c41
                  rw [if_neg c41] at H
                  refine J.drop [false, false, false, false, false, false, false, false, false, false, false] rfl ?_
                  exact p_Ref_lookAt_L175 hw hG  H
                · intro c41
                  rw [if_pos c41] at H
                  refine J_aload_n d_Ref_lookAt_167 rfl ?_
                  refine J_iload_n d_Ref_lookAt_168 rfl ?_
                  refine J_bipush (v := 11) d_Ref_lookAt_169 (by decide) ?_
                  refine J_iload_n d_Ref_lookAt_171 rfl ?_
                  obtain ⟨q40, hq40, H⟩ := Option.bind_eq_some_iff.mp H
                  refine J_callV (kc := 0) (ks := 0) (kc' := 0) (ks' := 0) (a := this) (ci := 12) (as := [.int p0, .int (11 : Int32), .int p1]) (st := []) (mf_Ref_breakAt hw) (mv_Ref_415 hw) d_Ref_lookAt_172 ln_Ref_breakAt (by decide) (by first | exact Nat.le_of_ble_eq_true rfl | (simp only [List.map_cons, List.map_nil, List.sum_cons, List.sum_nil, va_rf_cat]; exact Nat.le_of_ble_eq_true rfl)) rfl ((hG _).1 _ g19 (by decide)).1 ((hG _).1 _ g19 (by decide)).2 (by unfold pic; rw [g19]; rfl) (jcl_at hw rfl) rfl (p_Ref_breakAt hw hG hq40) ?_ (fun E h' n' x' e1 => by cases e1.1)
                  intro v9 h9 n9 x9 e9
                  obtain ⟨e91, e92, e93⟩ := e9
                  cases e91
                  subst e92
                  subst e93
                  clear x
                  rename Bool => x
                  show J _ _ _ _ [] _ _ _ _ _ _
                  refine J.drop [false, false, false, false, false, false, false, false, false, false, false] rfl ?_
                  exact p_Ref_lookAt_L175 hw hG  H
            · intro c44
              rw [if_pos c44] at H
              refine J_aload_n d_Ref_lookAt_137 rfl ?_
              refine J_iload_n d_Ref_lookAt_138 rfl ?_
              refine J_bipush (v := 9) d_Ref_lookAt_139 (by decide) ?_
              refine J_iload_n d_Ref_lookAt_141 rfl ?_
              obtain ⟨q43, hq43, H⟩ := Option.bind_eq_some_iff.mp H
              refine J_callV (kc := 0) (ks := 0) (kc' := 0) (ks' := 0) (a := this) (ci := 12) (as := [.int p0, .int (9 : Int32), .int p1]) (st := []) (mf_Ref_breakAt hw) (mv_Ref_415 hw) d_Ref_lookAt_142 ln_Ref_breakAt (by decide) (by first | exact Nat.le_of_ble_eq_true rfl | (simp only [List.map_cons, List.map_nil, List.sum_cons, List.sum_nil, va_rf_cat]; exact Nat.le_of_ble_eq_true rfl)) rfl ((hG _).1 _ g19 (by decide)).1 ((hG _).1 _ g19 (by decide)).2 (by unfold pic; rw [g19]; rfl) (jcl_at hw rfl) rfl (p_Ref_breakAt hw hG hq43) ?_ (fun E h' n' x' e1 => by cases e1.1)
              intro v9 h9 n9 x9 e9
              obtain ⟨e91, e92, e93⟩ := e9
              cases e91
              subst e92
              subst e93
              clear x
              rename Bool => x
              show J _ _ _ _ [] _ _ _ _ _ _
              refine J_goto (tgt := 175) d_Ref_lookAt_145 (by decide) ?_
              refine J.drop [false, false, false, false, false, false, false, false, false, false, false] rfl ?_
              exact p_Ref_lookAt_L175 hw hG  H
        · intro c46
          rw [if_pos c46] at H
          refine J.drop [true, true, true, false, true, false, false, false, false, false, false] rfl ?_
          exact p_Ref_lookAt_L94 hw hG  H
    · intro c48
      rw [if_pos c48] at H
      have H := Option.some.inj H
      subst H
      exact J_vret (st := []) d_Ref_lookAt_68 rfl ⟨rfl, rfl, rfl⟩
  · intro c59
    rw [if_neg c59] at H
    refine J_iload_n d_Ref_lookAt_17 rfl ?_
    refine J_if_ne (tgt := 31) d_Ref_lookAt_18 (by decide) ?_ ?_
    · intro c58
      rw [if_neg c58] at H
      refine J_lload d_Ref_lookAt_31 rfl ?_
      refine J_aload_n d_Ref_lookAt_33 rfl ?_
      refine F_getR (ci := 12) (k := 83) hG (cf_Ref hw) (fl_Ref_229 hw) (by decide) (by decide) rfl d_Ref_lookAt_34 g19 ?_
      refine J_iload d_Ref_lookAt_37 rfl ?_
      obtain ⟨a49, ha49, H⟩ := Option.bind_eq_some_iff.mp H
      rw [j_rf ha49]
      obtain ⟨N50, hN50, H⟩ := Option.bind_eq_some_iff.mp H
      obtain ⟨k51, hk51, H⟩ := Option.bind_eq_some_iff.mp H
      refine F_lald k51 hw hG d_Ref_lookAt_39 (gA_some hN50) (ix_some hk51) ?_
      refine J_lcmp d_Ref_lookAt_40 ?_
      refine J_if_ne (tgt := 56) d_Ref_lookAt_41 (by decide) ?_ ?_
      · intro c56
        rw [if_neg c56] at H
        refine J.drop [true, true, true, false, false, false, false, false, false, false, false] rfl ?_
        exact p_Ref_lookAt_L56 hw hG  H
      · intro c56
        rw [if_pos c56] at H
        refine J_iload d_Ref_lookAt_44 rfl ?_
        refine J_aload_n d_Ref_lookAt_46 rfl ?_
        refine F_getR (ci := 12) (k := 84) hG (cf_Ref hw) (fl_Ref_232 hw) (by decide) (by decide) rfl d_Ref_lookAt_47 g19 ?_
        refine J_iload d_Ref_lookAt_50 rfl ?_
        obtain ⟨a52, ha52, H⟩ := Option.bind_eq_some_iff.mp H
        rw [j_rf ha52]
        obtain ⟨N53, hN53, H⟩ := Option.bind_eq_some_iff.mp H
        obtain ⟨k54, hk54, H⟩ := Option.bind_eq_some_iff.mp H
        refine F_iald k54 hw hG d_Ref_lookAt_52 (gA_some hN53) (ix_some hk54) ?_
        refine J_icmp_eq (tgt := 63) d_Ref_lookAt_53 (by decide) ?_ ?_
        · intro c55
          rw [if_pos c55] at H
          refine J.drop [false, false, false, false, false, false, false, false, false, false, false] rfl ?_
          exact p_Ref_lookAt_L63 hw hG  H
        · intro c55
          rw [if_neg c55] at H
          refine J.drop [true, true, true, false, false, false, false, false, false, false, false] rfl ?_
          exact p_Ref_lookAt_L56 hw hG  H
    · intro c58
      rw [if_pos c58] at H
      refine J_aload_n d_Ref_lookAt_21 rfl ?_
      refine J_iload_n d_Ref_lookAt_22 rfl ?_
      refine J_iconst (v := 1) d_Ref_lookAt_23 (by decide) ?_
      refine J_iload_n d_Ref_lookAt_24 rfl ?_
      obtain ⟨q57, hq57, H⟩ := Option.bind_eq_some_iff.mp H
      refine J_callV (kc := 0) (ks := 0) (kc' := 0) (ks' := 0) (a := this) (ci := 12) (as := [.int p0, .int (1 : Int32), .int p1]) (st := []) (mf_Ref_breakAt hw) (mv_Ref_415 hw) d_Ref_lookAt_25 ln_Ref_breakAt (by decide) (by first | exact Nat.le_of_ble_eq_true rfl | (simp only [List.map_cons, List.map_nil, List.sum_cons, List.sum_nil, va_rf_cat]; exact Nat.le_of_ble_eq_true rfl)) rfl ((hG _).1 _ g19 (by decide)).1 ((hG _).1 _ g19 (by decide)).2 (by unfold pic; rw [g19]; rfl) (jcl_at hw rfl) rfl (p_Ref_breakAt hw hG hq57) ?_ (fun E h' n' x' e1 => by cases e1.1)
      intro v9 h9 n9 x9 e9
      obtain ⟨e91, e92, e93⟩ := e9
      cases e91
      subst e92
      subst e93
      clear x
      rename Bool => x
      show J _ _ _ _ [] _ _ _ _ _ _
      refine J_goto (tgt := 63) d_Ref_lookAt_28 (by decide) ?_
      refine J.drop [false, false, false, false, false, false, false, false, false, false, false] rfl ?_
      exact p_Ref_lookAt_L63 hw hG  H
