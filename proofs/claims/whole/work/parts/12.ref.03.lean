theorem ln_Ref_isPort : (parseMethodDescriptor y_Ref_isPort.desc).map (fun q => q.parameters.length) = some 1 := by decide +kernel
def f_Ref_isPort_L36 (Γ : gm_T)  (φ : ph_T) (y0 : Int32) : Option (Int32 × ph_T) :=
  @ite _ (y0 = 0 ∨ y0 = 1) _ (
  some (y0, φ)
  ) none
set_option maxRecDepth 100000 in
set_option maxHeartbeats 4000000 in
theorem p_Ref_isPort_L36 {w : jw_T} (hw : jok w) {Γ : gm_T} {n : Nat} (hG : gd w Γ n)  {x : Bool} {φ : ph_T} {y0 : Int32} {q : Int32 × ph_T} (H : f_Ref_isPort_L36 Γ  φ y0 = some q) : J w M_Ref_isPort 36 [none, none] [.int y0] (pic Γ φ) n x 0 0 (fq Γ n (.inl (some (.int q.1))) q.2) := by
  unfold f_Ref_isPort_L36 at H
  have z1 : y0 = 0 ∨ y0 = 1 := by
    apply Classical.byContradiction
    intro q9
    rw [if_neg q9] at H
    cases H
  rw [if_pos z1] at H
  cases H
  exact J_iret (st := []) d_Ref_isPort_36 rfl (narrow_z z1).1 ⟨rfl, rfl, rfl⟩
def f_Ref_isPort (Γ : gm_T) (φ : ph_T) (this : Nat) (p0 : Int32) : Option (Int32 × ph_T) :=
  if (4 : Int32) ≤ p0 then
    @ite _ (Γ this = .inr 12) _ (
    if (φ.1 this 2) ≤ (p0 - (4 : Int32)) then
      f_Ref_isPort_L36 Γ  φ (0 : Int32)
    else
      f_Ref_isPort_L36 Γ  φ (1 : Int32)
    ) none
  else
    @ite _ (Γ this = .inr 12) _ (
    if (φ.1 this 1) ≤ p0 then
      f_Ref_isPort_L36 Γ  φ (0 : Int32)
    else
      f_Ref_isPort_L36 Γ  φ (1 : Int32)
    ) none
set_option maxRecDepth 100000 in
set_option maxHeartbeats 4000000 in
theorem p_Ref_isPort {w : jw_T} (hw : jok w) {Γ : gm_T} {n : Nat} (hG : gd w Γ n) {x : Bool} {φ : ph_T} {this : Nat} {p0 : Int32} {q : Int32 × ph_T} (H : f_Ref_isPort Γ φ this p0 = some q) : jc w M_Ref_isPort [.ref this, .int p0] (pic Γ φ) n x 0 0 (fq Γ n (.inl (some (.int q.1))) q.2) := by
  refine jc.of (by simp only [jent_r, jent_i, jent_l, jent_a, jent_0]; exact Nat.le_of_ble_eq_true rfl) ?_
  have hls : jents [.ref this, .int p0] (jm_nL M_Ref_isPort) = [some (.ref this), some (.int p0)] := by simp only [jents, jent_r, jent_i, jent_l, jent_a, jent_0]; rfl
  rw [hls]
  clear hls
  unfold f_Ref_isPort at H
  refine J_iload_n d_Ref_isPort_0 rfl ?_
  refine J_iconst (v := 4) d_Ref_isPort_1 (by decide) ?_
  refine J_icmp_ge (tgt := 21) d_Ref_isPort_2 (by decide) ?_ ?_
  · intro c6
    rw [if_pos c6] at H
    refine J_iload_n d_Ref_isPort_21 rfl ?_
    refine J_iconst (v := 4) d_Ref_isPort_22 (by decide) ?_
    refine J_isub d_Ref_isPort_23 ?_
    refine J_aload_n d_Ref_isPort_24 rfl ?_
    have g2 : Γ this = .inr 12 := by
      apply Classical.byContradiction
      intro q9
      rw [if_neg q9] at H
      cases H
    rw [if_pos g2] at H
    refine F_getI (ci := 12) (k := 2) hG (cf_Ref hw) (fl_Ref_294 hw) (by decide) (by decide) rfl d_Ref_isPort_25 g2 ?_
    refine J_icmp_ge (tgt := 35) d_Ref_isPort_28 (by decide) ?_ ?_
    · intro c3
      rw [if_pos c3] at H
      refine J_iconst (v := 0) d_Ref_isPort_35 (by decide) ?_
      refine J.drop [false, false] rfl ?_
      exact p_Ref_isPort_L36 hw hG  H
    · intro c3
      rw [if_neg c3] at H
      refine J_iconst (v := 1) d_Ref_isPort_31 (by decide) ?_
      refine J_goto (tgt := 36) d_Ref_isPort_32 (by decide) ?_
      refine J.drop [false, false] rfl ?_
      exact p_Ref_isPort_L36 hw hG  H
  · intro c6
    rw [if_neg c6] at H
    refine J_iload_n d_Ref_isPort_5 rfl ?_
    refine J_aload_n d_Ref_isPort_6 rfl ?_
    have g4 : Γ this = .inr 12 := by
      apply Classical.byContradiction
      intro q9
      rw [if_neg q9] at H
      cases H
    rw [if_pos g4] at H
    refine F_getI (ci := 12) (k := 1) hG (cf_Ref hw) (fl_Ref_290 hw) (by decide) (by decide) rfl d_Ref_isPort_7 g4 ?_
    refine J_icmp_ge (tgt := 17) d_Ref_isPort_10 (by decide) ?_ ?_
    · intro c5
      rw [if_pos c5] at H
      refine J_iconst (v := 0) d_Ref_isPort_17 (by decide) ?_
      refine J_goto (tgt := 36) d_Ref_isPort_18 (by decide) ?_
      refine J.drop [false, false] rfl ?_
      exact p_Ref_isPort_L36 hw hG  H
    · intro c5
      rw [if_neg c5] at H
      refine J_iconst (v := 1) d_Ref_isPort_13 (by decide) ?_
      refine J_goto (tgt := 36) d_Ref_isPort_14 (by decide) ?_
      refine J.drop [false, false] rfl ?_
      exact p_Ref_isPort_L36 hw hG  H
theorem ln_Ref_breakAt : (parseMethodDescriptor y_Ref_breakAt.desc).map (fun q => q.parameters.length) = some 3 := by decide +kernel
def f_Ref_breakAt_L35 (Γ : gm_T)  (φ : ph_T) : Option (Unit × ph_T) :=
  some ((), φ)
set_option maxRecDepth 100000 in
set_option maxHeartbeats 4000000 in
theorem p_Ref_breakAt_L35 {w : jw_T} (hw : jok w) {Γ : gm_T} {n : Nat} (hG : gd w Γ n)  {x : Bool} {φ : ph_T} {q : Unit × ph_T} (H : f_Ref_breakAt_L35 Γ  φ  = some q) : J w M_Ref_breakAt 35 [none, none, none, none] [] (pic Γ φ) n x 0 0 (fq Γ n (.inl none) q.2) := by
  unfold f_Ref_breakAt_L35 at H
  cases H
  exact J_vret (st := []) d_Ref_breakAt_35 rfl ⟨rfl, rfl, rfl⟩
def f_Ref_breakAt (Γ : gm_T) (φ : ph_T) (this : Nat) (p0 : Int32) (p1 : Int32) (p2 : Int32) : Option (Unit × ph_T) :=
  @ite _ (Γ this = .inr 12) _ (
  Option.bind (φ.2.2 this 86) fun a2 =>
  Option.bind (gA Γ a2 0) fun N3 =>
  Option.bind (ix p0 N3) fun k4 =>
  if (φ.1 a2 k4) = 0 then
    Option.bind (gA Γ a2 0) fun N5 =>
    Option.bind (ix p0 N5) fun k6 =>
    Option.bind ((uI φ a2 k6 p1).2.2 this 87) fun a7 =>
    Option.bind (gA Γ a7 0) fun N8 =>
    Option.bind (ix p0 N8) fun k9 =>
    Option.bind ((uI (uI φ a2 k6 p1) a7 k9 p2).2.2 this 85) fun a10 =>
    Option.bind (gA Γ a10 0) fun N11 =>
    Option.bind (ix p0 N11) fun k12 =>
    Option.bind ((uI (uI φ a2 k6 p1) a7 k9 p2).2.2 this 88) fun a13 =>
    Option.bind (gA Γ a13 0) fun N14 =>
    Option.bind (ix p0 N14) fun k15 =>
    f_Ref_breakAt_L35 Γ  (uI (uI (uI φ a2 k6 p1) a7 k9 p2) a13 k15 ((uI (uI φ a2 k6 p1) a7 k9 p2).1 a10 k12)) 
  else
    f_Ref_breakAt_L35 Γ  φ 
  ) none
set_option maxRecDepth 100000 in
set_option maxHeartbeats 4000000 in
theorem p_Ref_breakAt {w : jw_T} (hw : jok w) {Γ : gm_T} {n : Nat} (hG : gd w Γ n) {x : Bool} {φ : ph_T} {this : Nat} {p0 : Int32} {p1 : Int32} {p2 : Int32} {q : Unit × ph_T} (H : f_Ref_breakAt Γ φ this p0 p1 p2 = some q) : jc w M_Ref_breakAt [.ref this, .int p0, .int p1, .int p2] (pic Γ φ) n x 0 0 (fq Γ n (.inl none) q.2) := by
  refine jc.of (by simp only [jent_r, jent_i, jent_l, jent_a, jent_0]; exact Nat.le_of_ble_eq_true rfl) ?_
  have hls : jents [.ref this, .int p0, .int p1, .int p2] (jm_nL M_Ref_breakAt) = [some (.ref this), some (.int p0), some (.int p1), some (.int p2)] := by simp only [jents, jent_r, jent_i, jent_l, jent_a, jent_0]; rfl
  rw [hls]
  clear hls
  unfold f_Ref_breakAt at H
  refine J_aload_n d_Ref_breakAt_0 rfl ?_
  have g1 : Γ this = .inr 12 := by
    apply Classical.byContradiction
    intro q9
    rw [if_neg q9] at H
    cases H
  rw [if_pos g1] at H
  refine F_getR (ci := 12) (k := 86) hG (cf_Ref hw) (fl_Ref_238 hw) (by decide) (by decide) rfl d_Ref_breakAt_1 g1 ?_
  refine J_iload_n d_Ref_breakAt_4 rfl ?_
  obtain ⟨a2, ha2, H⟩ := Option.bind_eq_some_iff.mp H
  rw [j_rf ha2]
  obtain ⟨N3, hN3, H⟩ := Option.bind_eq_some_iff.mp H
  obtain ⟨k4, hk4, H⟩ := Option.bind_eq_some_iff.mp H
  refine F_iald k4 hw hG d_Ref_breakAt_5 (gA_some hN3) (ix_some hk4) ?_
  refine J_if_ne (tgt := 35) d_Ref_breakAt_6 (by decide) ?_ ?_
  · intro c16
    rw [if_neg c16] at H
    refine J.drop [false, false, false, false] rfl ?_
    exact p_Ref_breakAt_L35 hw hG  H
  · intro c16
    rw [if_pos c16] at H
    refine J_aload_n d_Ref_breakAt_9 rfl ?_
    refine F_getR (ci := 12) (k := 86) hG (cf_Ref hw) (fl_Ref_238 hw) (by decide) (by decide) rfl d_Ref_breakAt_10 g1 ?_
    refine J_iload_n d_Ref_breakAt_13 rfl ?_
    refine J_iload_n d_Ref_breakAt_14 rfl ?_
    try rw [j_rf ha2]
    obtain ⟨N5, hN5, H⟩ := Option.bind_eq_some_iff.mp H
    obtain ⟨k6, hk6, H⟩ := Option.bind_eq_some_iff.mp H
    refine F_iast k6 hw hG d_Ref_breakAt_15 (gA_some hN5) (ix_some hk6) ?_
    refine J_aload_n d_Ref_breakAt_16 rfl ?_
    refine F_getR (ci := 12) (k := 87) hG (cf_Ref hw) (fl_Ref_241 hw) (by decide) (by decide) rfl d_Ref_breakAt_17 g1 ?_
    refine J_iload_n d_Ref_breakAt_20 rfl ?_
    refine J_iload_n d_Ref_breakAt_21 rfl ?_
    obtain ⟨a7, ha7, H⟩ := Option.bind_eq_some_iff.mp H
    rw [j_rf ha7]
    obtain ⟨N8, hN8, H⟩ := Option.bind_eq_some_iff.mp H
    obtain ⟨k9, hk9, H⟩ := Option.bind_eq_some_iff.mp H
    refine F_iast k9 hw hG d_Ref_breakAt_22 (gA_some hN8) (ix_some hk9) ?_
    refine J_aload_n d_Ref_breakAt_23 rfl ?_
    refine F_getR (ci := 12) (k := 88) hG (cf_Ref hw) (fl_Ref_244 hw) (by decide) (by decide) rfl d_Ref_breakAt_24 g1 ?_
    refine J_iload_n d_Ref_breakAt_27 rfl ?_
    refine J_aload_n d_Ref_breakAt_28 rfl ?_
    refine F_getR (ci := 12) (k := 85) hG (cf_Ref hw) (fl_Ref_235 hw) (by decide) (by decide) rfl d_Ref_breakAt_29 g1 ?_
    refine J_iload_n d_Ref_breakAt_32 rfl ?_
    obtain ⟨a10, ha10, H⟩ := Option.bind_eq_some_iff.mp H
    rw [j_rf ha10]
    obtain ⟨N11, hN11, H⟩ := Option.bind_eq_some_iff.mp H
    obtain ⟨k12, hk12, H⟩ := Option.bind_eq_some_iff.mp H
    refine F_iald k12 hw hG d_Ref_breakAt_33 (gA_some hN11) (ix_some hk12) ?_
    obtain ⟨a13, ha13, H⟩ := Option.bind_eq_some_iff.mp H
    rw [j_rf ha13]
    obtain ⟨N14, hN14, H⟩ := Option.bind_eq_some_iff.mp H
    obtain ⟨k15, hk15, H⟩ := Option.bind_eq_some_iff.mp H
    refine F_iast k15 hw hG d_Ref_breakAt_34 (gA_some hN14) (ix_some hk15) ?_
    refine J.drop [false, false, false, false] rfl ?_
    exact p_Ref_breakAt_L35 hw hG  H
theorem ln_Ref_monitoredWrite : (parseMethodDescriptor y_Ref_monitoredWrite.desc).map (fun q => q.parameters.length) = some 2 := by decide +kernel
def f_Ref_monitoredWrite_L57 (Γ : gm_T) (Kc2 : ph_T → Nat → Int32 → Int32 → Int32 → Option (Int32 × ph_T)) (φ : ph_T) (x0 : Nat) (x1 : Int32) (x2 : Int32) (x3 : Int32) : Option (Int32 × ph_T) :=
  Kc2 φ x0 x1 x2 (x3 + (1 : Int32))
set_option maxRecDepth 100000 in
set_option maxHeartbeats 4000000 in
theorem p_Ref_monitoredWrite_L57 {w : jw_T} (hw : jok w) {Γ : gm_T} {n : Nat} (hG : gd w Γ n) {Kc2 : ph_T → Nat → Int32 → Int32 → Int32 → Option (Int32 × ph_T)} (hKc2 : ∀ {x : Bool} {φ : ph_T} {x0 : Nat} {x1 : Int32} {x2 : Int32} {x3 : Int32} {q : Int32 × ph_T}, Kc2 φ x0 x1 x2 x3 = some q → J w M_Ref_monitoredWrite 2 [some (.ref x0), some (.int x1), some (.int x2), some (.int x3), none] [] (pic Γ φ) n x 0 0 (fq Γ n (.inl (some (.int q.1))) q.2)) {x : Bool} {φ : ph_T} {x0 : Nat} {x1 : Int32} {x2 : Int32} {x3 : Int32} {q : Int32 × ph_T} (H : f_Ref_monitoredWrite_L57 Γ Kc2 φ x0 x1 x2 x3 = some q) : J w M_Ref_monitoredWrite 57 [some (.ref x0), some (.int x1), some (.int x2), some (.int x3), none] [] (pic Γ φ) n x 0 0 (fq Γ n (.inl (some (.int q.1))) q.2) := by
  unfold f_Ref_monitoredWrite_L57 at H
  refine J_iinc (v := x3 + 1) d_Ref_monitoredWrite_57 rfl (by rw [show Int32.ofInt 1 = (1 : Int32) from by decide]) ?_
  refine J_goto (tgt := 2) d_Ref_monitoredWrite_60 (by decide) ?_
  refine J.drop [true, true, true, true, false] rfl ?_
  exact hKc2 H
def f_Ref_monitoredWrite_L2 (Γ : gm_T)  : Nat → ph_T → Nat → Int32 → Int32 → Int32 → Option (Int32 × ph_T)
  | 0, _, _, _, _, _ => none
  | fu + 1, φ, x0, x1, x2, x3 =>
    @ite _ (Γ x0 = .inr 12) _ (
    Option.bind (φ.2.2 x0 89) fun a2 =>
    Option.bind (gA Γ a2 0) fun N3 =>
    Option.bind (ix x1 N3) fun k4 =>
    if (φ.1 a2 k4) ≤ x3 then
      some ((-1 : Int32), φ)
    else
      Option.bind (φ.2.2 x0 91) fun a5 =>
      Option.bind (gA Γ a5 2) fun N6 =>
      Option.bind (ix (((16 : Int32) * x1) + x3) N6) fun k7 =>
      if (φ.1 a5 k7) = 0 then
        f_Ref_monitoredWrite_L57 Γ (f_Ref_monitoredWrite_L2 Γ  fu) φ x0 x1 x2 x3
      else
        Option.bind (φ.2.2 x0 94) fun a8 =>
        Option.bind (gA Γ a8 2) fun N9 =>
        Option.bind (ix (((16 : Int32) * x1) + x3) N9) fun k10 =>
        if (φ.1 a8 k10) = 0 then
          f_Ref_monitoredWrite_L57 Γ (f_Ref_monitoredWrite_L2 Γ  fu) φ x0 x1 x2 x3
        else
          Option.bind (φ.2.2 x0 92) fun a11 =>
          Option.bind (gA Γ a11 1) fun N12 =>
          Option.bind (ix (((16 : Int32) * x1) + x3) N12) fun k13 =>
          Option.bind (f_Ref_idOf Γ φ (φ.2.1 a11 k13)) fun q14 =>
          if q14.1 = x2 then
            some ((((16 : Int32) * x1) + x3), q14.2)
          else
            f_Ref_monitoredWrite_L57 Γ (f_Ref_monitoredWrite_L2 Γ  fu) q14.2 x0 x1 x2 x3
    ) none
set_option maxRecDepth 100000 in
set_option maxHeartbeats 4000000 in
theorem p_Ref_monitoredWrite_L2 {w : jw_T} (hw : jok w) {Γ : gm_T} {n : Nat} (hG : gd w Γ n)  : ∀ (fu : Nat) {x : Bool} {φ : ph_T} {x0 : Nat} {x1 : Int32} {x2 : Int32} {x3 : Int32} {q : Int32 × ph_T}, f_Ref_monitoredWrite_L2 Γ  fu φ x0 x1 x2 x3 = some q → J w M_Ref_monitoredWrite 2 [some (.ref x0), some (.int x1), some (.int x2), some (.int x3), none] [] (pic Γ φ) n x 0 0 (fq Γ n (.inl (some (.int q.1))) q.2) := by
  intro fu
  induction fu with
  | zero =>
    intro x φ x0 x1 x2 x3 q H
    cases H
  | succ fu ih =>
    intro x φ x0 x1 x2 x3 q H
    unfold f_Ref_monitoredWrite_L2 at H
    refine J_iload_n d_Ref_monitoredWrite_2 rfl ?_
    refine J_aload_n d_Ref_monitoredWrite_3 rfl ?_
    have g1 : Γ x0 = .inr 12 := by
      apply Classical.byContradiction
      intro q9
      rw [if_neg q9] at H
      cases H
    rw [if_pos g1] at H
    refine F_getR (ci := 12) (k := 89) hG (cf_Ref hw) (fl_Ref_247 hw) (by decide) (by decide) rfl d_Ref_monitoredWrite_4 g1 ?_
    refine J_iload_n d_Ref_monitoredWrite_7 rfl ?_
    obtain ⟨a2, ha2, H⟩ := Option.bind_eq_some_iff.mp H
    rw [j_rf ha2]
    obtain ⟨N3, hN3, H⟩ := Option.bind_eq_some_iff.mp H
    obtain ⟨k4, hk4, H⟩ := Option.bind_eq_some_iff.mp H
    refine F_iald k4 hw hG d_Ref_monitoredWrite_8 (gA_some hN3) (ix_some hk4) ?_
    refine J_icmp_ge (tgt := 63) d_Ref_monitoredWrite_9 (by decide) ?_ ?_
    · intro c18
      rw [if_pos c18] at H
      refine J_iconst (v := -1) d_Ref_monitoredWrite_63 (by decide) ?_
      cases H
      exact J_iret (st := []) d_Ref_monitoredWrite_64 rfl rfl ⟨rfl, rfl, rfl⟩
    · intro c18
      rw [if_neg c18] at H
      refine J_bipush (v := 16) d_Ref_monitoredWrite_12 (by decide) ?_
      refine J_iload_n d_Ref_monitoredWrite_14 rfl ?_
      refine J_imul d_Ref_monitoredWrite_15 ?_
      refine J_iload_n d_Ref_monitoredWrite_16 rfl ?_
      refine J_iadd d_Ref_monitoredWrite_17 ?_
      refine J_istore d_Ref_monitoredWrite_18 (Nat.le_of_ble_eq_true rfl) ?_
      refine J_aload_n d_Ref_monitoredWrite_20 rfl ?_
      refine F_getR (ci := 12) (k := 91) hG (cf_Ref hw) (fl_Ref_253 hw) (by decide) (by decide) rfl d_Ref_monitoredWrite_21 g1 ?_
      refine J_iload d_Ref_monitoredWrite_24 rfl ?_
      obtain ⟨a5, ha5, H⟩ := Option.bind_eq_some_iff.mp H
      rw [j_rf ha5]
      obtain ⟨N6, hN6, H⟩ := Option.bind_eq_some_iff.mp H
      obtain ⟨k7, hk7, H⟩ := Option.bind_eq_some_iff.mp H
      refine F_zald k7 hw hG d_Ref_monitoredWrite_26 (gA_some hN6) (ix_some hk7) ?_
      refine J_if_eq (tgt := 57) d_Ref_monitoredWrite_27 (by decide) ?_ ?_
      · intro c17
        rw [if_pos c17] at H
        refine J.drop [true, true, true, true, false] rfl ?_
        exact p_Ref_monitoredWrite_L57 hw hG ih H
      · intro c17
        rw [if_neg c17] at H
        refine J_aload_n d_Ref_monitoredWrite_30 rfl ?_
        refine F_getR (ci := 12) (k := 94) hG (cf_Ref hw) (fl_Ref_262 hw) (by decide) (by decide) rfl d_Ref_monitoredWrite_31 g1 ?_
        refine J_iload d_Ref_monitoredWrite_34 rfl ?_
        obtain ⟨a8, ha8, H⟩ := Option.bind_eq_some_iff.mp H
        rw [j_rf ha8]
        obtain ⟨N9, hN9, H⟩ := Option.bind_eq_some_iff.mp H
        obtain ⟨k10, hk10, H⟩ := Option.bind_eq_some_iff.mp H
        refine F_zald k10 hw hG d_Ref_monitoredWrite_36 (gA_some hN9) (ix_some hk10) ?_
        refine J_if_eq (tgt := 57) d_Ref_monitoredWrite_37 (by decide) ?_ ?_
        · intro c16
          rw [if_pos c16] at H
          refine J.drop [true, true, true, true, false] rfl ?_
          exact p_Ref_monitoredWrite_L57 hw hG ih H
        · intro c16
          rw [if_neg c16] at H
          refine J_aload_n d_Ref_monitoredWrite_40 rfl ?_
          refine F_getR (ci := 12) (k := 92) hG (cf_Ref hw) (fl_Ref_256 hw) (by decide) (by decide) rfl d_Ref_monitoredWrite_41 g1 ?_
          refine J_iload d_Ref_monitoredWrite_44 rfl ?_
          obtain ⟨a11, ha11, H⟩ := Option.bind_eq_some_iff.mp H
          rw [j_rf ha11]
          obtain ⟨N12, hN12, H⟩ := Option.bind_eq_some_iff.mp H
          obtain ⟨k13, hk13, H⟩ := Option.bind_eq_some_iff.mp H
          refine F_lald k13 hw hG d_Ref_monitoredWrite_46 (gA_some hN12) (ix_some hk13) ?_
          obtain ⟨q14, hq14, H⟩ := Option.bind_eq_some_iff.mp H
          refine J_callS (kc := 0) (ks := 0) (kc' := 0) (ks' := 0) (as := [.long (φ.2.1 a11 k13)]) (st := []) (mf_Ref_idOf hw) (ms_Ref_396 hw) d_Ref_monitoredWrite_47 ln_Ref_idOf (by decide) (by first | exact Nat.le_of_ble_eq_true rfl | (simp only [List.map_cons, List.map_nil, List.sum_cons, List.sum_nil, va_rf_cat]; exact Nat.le_of_ble_eq_true rfl)) rfl (p_Ref_idOf hw hG hq14) ?_ (fun E h' n' x' e1 => by cases e1.1)
          intro v9 h9 n9 x9 e9
          obtain ⟨e91, e92, e93⟩ := e9
          cases e91
          subst e92
          subst e93
          clear x
          rename Bool => x
          show J _ _ _ _ (_ :: _) _ _ _ _ _ _
          refine J_iload_n d_Ref_monitoredWrite_50 rfl ?_
          refine J_icmp_ne (tgt := 57) d_Ref_monitoredWrite_51 (by decide) ?_ ?_
          · intro c15
            rw [if_neg c15] at H
            refine J.drop [true, true, true, true, false] rfl ?_
            exact p_Ref_monitoredWrite_L57 hw hG ih H
          · intro c15
            rw [if_pos c15] at H
            refine J_iload d_Ref_monitoredWrite_54 rfl ?_
            cases H
            exact J_iret (st := []) d_Ref_monitoredWrite_56 rfl rfl ⟨rfl, rfl, rfl⟩
def f_Ref_monitoredWrite (Γ : gm_T) (φ : ph_T) (this : Nat) (p0 : Int32) (p1 : Int32) : Option (Int32 × ph_T) :=
  f_Ref_monitoredWrite_L2 Γ  jF φ this p0 p1 (0 : Int32)
set_option maxRecDepth 100000 in
set_option maxHeartbeats 4000000 in
theorem p_Ref_monitoredWrite {w : jw_T} (hw : jok w) {Γ : gm_T} {n : Nat} (hG : gd w Γ n) {x : Bool} {φ : ph_T} {this : Nat} {p0 : Int32} {p1 : Int32} {q : Int32 × ph_T} (H : f_Ref_monitoredWrite Γ φ this p0 p1 = some q) : jc w M_Ref_monitoredWrite [.ref this, .int p0, .int p1] (pic Γ φ) n x 0 0 (fq Γ n (.inl (some (.int q.1))) q.2) := by
  refine jc.of (by simp only [jent_r, jent_i, jent_l, jent_a, jent_0]; exact Nat.le_of_ble_eq_true rfl) ?_
  have hls : jents [.ref this, .int p0, .int p1] (jm_nL M_Ref_monitoredWrite) = [some (.ref this), some (.int p0), some (.int p1), none, none] := by simp only [jents, jent_r, jent_i, jent_l, jent_a, jent_0]; rfl
  rw [hls]
  clear hls
  unfold f_Ref_monitoredWrite at H
  refine J_iconst (v := 0) d_Ref_monitoredWrite_0 (by decide) ?_
  refine J_istore_n d_Ref_monitoredWrite_1 (Nat.le_of_ble_eq_true rfl) ?_
  refine J.drop [true, true, true, true, false] rfl ?_
  exact p_Ref_monitoredWrite_L2 hw hG  _ H
theorem ln_Ref_monitoredRead : (parseMethodDescriptor y_Ref_monitoredRead.desc).map (fun q => q.parameters.length) = some 2 := by decide +kernel
def f_Ref_monitoredRead_L2 (Γ : gm_T)  : Nat → ph_T → Nat → Int32 → Int32 → Int32 → Option (Int32 × ph_T)
  | 0, _, _, _, _, _ => none
  | fu + 1, φ, x0, x1, x2, x3 =>
    @ite _ (Γ x0 = .inr 12) _ (
    Option.bind (φ.2.2 x0 90) fun a2 =>
    Option.bind (gA Γ a2 0) fun N3 =>
    Option.bind (ix x1 N3) fun k4 =>
    if (φ.1 a2 k4) ≤ x3 then
      some ((-1 : Int32), φ)
    else
      Option.bind (φ.2.2 x0 96) fun a5 =>
      Option.bind (gA Γ a5 1) fun N6 =>
      Option.bind (ix (((16 : Int32) * x1) + x3) N6) fun k7 =>
      Option.bind (f_Ref_idOf Γ φ (φ.2.1 a5 k7)) fun q8 =>
      if q8.1 = x2 then
        some ((((16 : Int32) * x1) + x3), q8.2)
      else
        (f_Ref_monitoredRead_L2 Γ  fu) q8.2 x0 x1 x2 (x3 + (1 : Int32))
    ) none
set_option maxRecDepth 100000 in
set_option maxHeartbeats 4000000 in
theorem p_Ref_monitoredRead_L2 {w : jw_T} (hw : jok w) {Γ : gm_T} {n : Nat} (hG : gd w Γ n)  : ∀ (fu : Nat) {x : Bool} {φ : ph_T} {x0 : Nat} {x1 : Int32} {x2 : Int32} {x3 : Int32} {q : Int32 × ph_T}, f_Ref_monitoredRead_L2 Γ  fu φ x0 x1 x2 x3 = some q → J w M_Ref_monitoredRead 2 [some (.ref x0), some (.int x1), some (.int x2), some (.int x3)] [] (pic Γ φ) n x 0 0 (fq Γ n (.inl (some (.int q.1))) q.2) := by
  intro fu
  induction fu with
  | zero =>
    intro x φ x0 x1 x2 x3 q H
    cases H
  | succ fu ih =>
    intro x φ x0 x1 x2 x3 q H
    unfold f_Ref_monitoredRead_L2 at H
    refine J_iload_n d_Ref_monitoredRead_2 rfl ?_
    refine J_aload_n d_Ref_monitoredRead_3 rfl ?_
    have g1 : Γ x0 = .inr 12 := by
      apply Classical.byContradiction
      intro q9
      rw [if_neg q9] at H
      cases H
    rw [if_pos g1] at H
    refine F_getR (ci := 12) (k := 90) hG (cf_Ref hw) (fl_Ref_250 hw) (by decide) (by decide) rfl d_Ref_monitoredRead_4 g1 ?_
    refine J_iload_n d_Ref_monitoredRead_7 rfl ?_
    obtain ⟨a2, ha2, H⟩ := Option.bind_eq_some_iff.mp H
    rw [j_rf ha2]
    obtain ⟨N3, hN3, H⟩ := Option.bind_eq_some_iff.mp H
    obtain ⟨k4, hk4, H⟩ := Option.bind_eq_some_iff.mp H
    refine F_iald k4 hw hG d_Ref_monitoredRead_8 (gA_some hN3) (ix_some hk4) ?_
    refine J_icmp_ge (tgt := 43) d_Ref_monitoredRead_9 (by decide) ?_ ?_
    · intro c10
      rw [if_pos c10] at H
      refine J_iconst (v := -1) d_Ref_monitoredRead_43 (by decide) ?_
      cases H
      exact J_iret (st := []) d_Ref_monitoredRead_44 rfl rfl ⟨rfl, rfl, rfl⟩
    · intro c10
      rw [if_neg c10] at H
      refine J_aload_n d_Ref_monitoredRead_12 rfl ?_
      refine F_getR (ci := 12) (k := 96) hG (cf_Ref hw) (fl_Ref_268 hw) (by decide) (by decide) rfl d_Ref_monitoredRead_13 g1 ?_
      refine J_bipush (v := 16) d_Ref_monitoredRead_16 (by decide) ?_
      refine J_iload_n d_Ref_monitoredRead_18 rfl ?_
      refine J_imul d_Ref_monitoredRead_19 ?_
      refine J_iload_n d_Ref_monitoredRead_20 rfl ?_
      refine J_iadd d_Ref_monitoredRead_21 ?_
      obtain ⟨a5, ha5, H⟩ := Option.bind_eq_some_iff.mp H
      rw [j_rf ha5]
      obtain ⟨N6, hN6, H⟩ := Option.bind_eq_some_iff.mp H
      obtain ⟨k7, hk7, H⟩ := Option.bind_eq_some_iff.mp H
      refine F_lald k7 hw hG d_Ref_monitoredRead_22 (gA_some hN6) (ix_some hk7) ?_
      obtain ⟨q8, hq8, H⟩ := Option.bind_eq_some_iff.mp H
      refine J_callS (kc := 0) (ks := 0) (kc' := 0) (ks' := 0) (as := [.long (φ.2.1 a5 k7)]) (st := []) (mf_Ref_idOf hw) (ms_Ref_396 hw) d_Ref_monitoredRead_23 ln_Ref_idOf (by decide) (by first | exact Nat.le_of_ble_eq_true rfl | (simp only [List.map_cons, List.map_nil, List.sum_cons, List.sum_nil, va_rf_cat]; exact Nat.le_of_ble_eq_true rfl)) rfl (p_Ref_idOf hw hG hq8) ?_ (fun E h' n' x' e1 => by cases e1.1)
      intro v9 h9 n9 x9 e9
      obtain ⟨e91, e92, e93⟩ := e9
      cases e91
      subst e92
      subst e93
      clear x
      rename Bool => x
      show J _ _ _ _ (_ :: _) _ _ _ _ _ _
      refine J_iload_n d_Ref_monitoredRead_26 rfl ?_
      refine J_icmp_ne (tgt := 37) d_Ref_monitoredRead_27 (by decide) ?_ ?_
      · intro c9
        rw [if_neg c9] at H
        refine J_iinc (v := x3 + 1) d_Ref_monitoredRead_37 rfl (by rw [show Int32.ofInt 1 = (1 : Int32) from by decide]) ?_
        refine J_goto (tgt := 2) d_Ref_monitoredRead_40 (by decide) ?_
        refine J.drop [true, true, true, true] rfl ?_
        exact ih H
      · intro c9
        rw [if_pos c9] at H
        refine J_bipush (v := 16) d_Ref_monitoredRead_30 (by decide) ?_
        refine J_iload_n d_Ref_monitoredRead_32 rfl ?_
        refine J_imul d_Ref_monitoredRead_33 ?_
        refine J_iload_n d_Ref_monitoredRead_34 rfl ?_
        refine J_iadd d_Ref_monitoredRead_35 ?_
        cases H
        exact J_iret (st := []) d_Ref_monitoredRead_36 rfl rfl ⟨rfl, rfl, rfl⟩
def f_Ref_monitoredRead (Γ : gm_T) (φ : ph_T) (this : Nat) (p0 : Int32) (p1 : Int32) : Option (Int32 × ph_T) :=
  f_Ref_monitoredRead_L2 Γ  jF φ this p0 p1 (0 : Int32)
set_option maxRecDepth 100000 in
set_option maxHeartbeats 4000000 in
theorem p_Ref_monitoredRead {w : jw_T} (hw : jok w) {Γ : gm_T} {n : Nat} (hG : gd w Γ n) {x : Bool} {φ : ph_T} {this : Nat} {p0 : Int32} {p1 : Int32} {q : Int32 × ph_T} (H : f_Ref_monitoredRead Γ φ this p0 p1 = some q) : jc w M_Ref_monitoredRead [.ref this, .int p0, .int p1] (pic Γ φ) n x 0 0 (fq Γ n (.inl (some (.int q.1))) q.2) := by
  refine jc.of (by simp only [jent_r, jent_i, jent_l, jent_a, jent_0]; exact Nat.le_of_ble_eq_true rfl) ?_
  have hls : jents [.ref this, .int p0, .int p1] (jm_nL M_Ref_monitoredRead) = [some (.ref this), some (.int p0), some (.int p1), none] := by simp only [jents, jent_r, jent_i, jent_l, jent_a, jent_0]; rfl
  rw [hls]
  clear hls
  unfold f_Ref_monitoredRead at H
  refine J_iconst (v := 0) d_Ref_monitoredRead_0 (by decide) ?_
  refine J_istore_n d_Ref_monitoredRead_1 (Nat.le_of_ble_eq_true rfl) ?_
  refine J.drop [true, true, true, true] rfl ?_
  exact p_Ref_monitoredRead_L2 hw hG  _ H
theorem ln_Ref_lookAt : (parseMethodDescriptor y_Ref_lookAt.desc).map (fun q => q.parameters.length) = some 5 := by decide +kernel
def f_Ref_lookAt_L291 (Γ : gm_T)  (φ : ph_T) : Option (Unit × ph_T) :=
  some ((), φ)
set_option maxRecDepth 100000 in
set_option maxHeartbeats 4000000 in
theorem p_Ref_lookAt_L291 {w : jw_T} (hw : jok w) {Γ : gm_T} {n : Nat} (hG : gd w Γ n)  {x : Bool} {φ : ph_T} {q : Unit × ph_T} (H : f_Ref_lookAt_L291 Γ  φ  = some q) : J w M_Ref_lookAt 291 [none, none, none, none, none, none, none, none, none, none, none] [] (pic Γ φ) n x 0 0 (fq Γ n (.inl none) q.2) := by
  unfold f_Ref_lookAt_L291 at H
  cases H
  exact J_vret (st := []) d_Ref_lookAt_291 rfl ⟨rfl, rfl, rfl⟩
def f_Ref_lookAt_L250 (Γ : gm_T)  (φ : ph_T) (x0 : Nat) (x1 : Int32) (x2 : Int32) (x9 : Int32) (x10 : Int32) (y0 : Int32) (y1 : Int32) : Option (Unit × ph_T) :=
  if y1 = y0 then
    if x9 = (1 : Int32) then
      @ite _ (Γ x0 = .inr 12) _ (
      Option.bind (φ.2.2 x0 96) fun a2 =>
      Option.bind (gA Γ a2 1) fun N3 =>
      Option.bind (ix x10 N3) fun k4 =>
      Option.bind (f_Ref_isAlone Γ φ (φ.2.1 a2 k4)) fun q5 =>
      if q5.1 = 0 then
        Option.bind (f_Ref_breakAt Γ q5.2 x0 x1 (11 : Int32) x2) fun q6 =>
        f_Ref_lookAt_L291 Γ  q6.2 
      else
        f_Ref_lookAt_L291 Γ  q5.2 
      ) none
    else
      f_Ref_lookAt_L291 Γ  φ 
  else
    @ite _ (Γ x0 = .inr 12) _ (
    Option.bind (f_Ref_breakAt Γ φ x0 x1 (7 : Int32) x2) fun q10 =>
    f_Ref_lookAt_L291 Γ  q10.2 
    ) none
set_option maxRecDepth 100000 in
set_option maxHeartbeats 4000000 in
theorem p_Ref_lookAt_L250 {w : jw_T} (hw : jok w) {Γ : gm_T} {n : Nat} (hG : gd w Γ n)  {x : Bool} {φ : ph_T} {x0 : Nat} {x1 : Int32} {x2 : Int32} {x9 : Int32} {x10 : Int32} {y0 : Int32} {y1 : Int32} {q : Unit × ph_T} (H : f_Ref_lookAt_L250 Γ  φ x0 x1 x2 x9 x10 y0 y1 = some q) : J w M_Ref_lookAt 250 [some (.ref x0), some (.int x1), some (.int x2), none, none, none, none, none, none, some (.int x9), some (.int x10)] [.int y0, .int y1] (pic Γ φ) n x 0 0 (fq Γ n (.inl none) q.2) := by
  unfold f_Ref_lookAt_L250 at H
  refine J_icmp_eq (tgt := 264) d_Ref_lookAt_250 (by decide) ?_ ?_
  · intro c11
    rw [if_pos c11] at H
    refine J_iload d_Ref_lookAt_264 rfl ?_
    refine J_iconst (v := 1) d_Ref_lookAt_266 (by decide) ?_
    refine J_icmp_ne (tgt := 291) d_Ref_lookAt_267 (by decide) ?_ ?_
    · intro c8
      rw [if_neg c8] at H
      refine J.drop [false, false, false, false, false, false, false, false, false, false, false] rfl ?_
      exact p_Ref_lookAt_L291 hw hG  H
    · intro c8
      rw [if_pos c8] at H
      refine J_aload_n d_Ref_lookAt_270 rfl ?_
      have g1 : Γ x0 = .inr 12 := by
        apply Classical.byContradiction
        intro q9
        rw [if_neg q9] at H
        cases H
      rw [if_pos g1] at H
      refine F_getR (ci := 12) (k := 96) hG (cf_Ref hw) (fl_Ref_268 hw) (by decide) (by decide) rfl d_Ref_lookAt_271 g1 ?_
      refine J_iload d_Ref_lookAt_274 rfl ?_
      obtain ⟨a2, ha2, H⟩ := Option.bind_eq_some_iff.mp H
      rw [j_rf ha2]
      obtain ⟨N3, hN3, H⟩ := Option.bind_eq_some_iff.mp H
      obtain ⟨k4, hk4, H⟩ := Option.bind_eq_some_iff.mp H
      refine F_lald k4 hw hG d_Ref_lookAt_276 (gA_some hN3) (ix_some hk4) ?_
      obtain ⟨q5, hq5, H⟩ := Option.bind_eq_some_iff.mp H
      refine J_callS (kc := 0) (ks := 0) (kc' := 0) (ks' := 0) (as := [.long (φ.2.1 a2 k4)]) (st := []) (mf_Ref_isAlone hw) (ms_Ref_329 hw) d_Ref_lookAt_277 ln_Ref_isAlone (by decide) (by first | exact Nat.le_of_ble_eq_true rfl | (simp only [List.map_cons, List.map_nil, List.sum_cons, List.sum_nil, va_rf_cat]; exact Nat.le_of_ble_eq_true rfl)) rfl (p_Ref_isAlone hw hG hq5) ?_ (fun E h' n' x' e1 => by cases e1.1)
      intro v9 h9 n9 x9 e9
      obtain ⟨e91, e92, e93⟩ := e9
      cases e91
      subst e92
      subst e93
      clear x
      rename Bool => x
      show J _ _ _ _ (_ :: _) _ _ _ _ _ _
      refine J_if_ne (tgt := 291) d_Ref_lookAt_280 (by decide) ?_ ?_
      · intro c7
        rw [if_neg c7] at H
        refine J.drop [false, false, false, false, false, false, false, false, false, false, false] rfl ?_
        exact p_Ref_lookAt_L291 hw hG  H
      · intro c7
        rw [if_pos c7] at H
        refine J_aload_n d_Ref_lookAt_283 rfl ?_
        refine J_iload_n d_Ref_lookAt_284 rfl ?_
        refine J_bipush (v := 11) d_Ref_lookAt_285 (by decide) ?_
        refine J_iload_n d_Ref_lookAt_287 rfl ?_
        obtain ⟨q6, hq6, H⟩ := Option.bind_eq_some_iff.mp H
        refine J_callV (kc := 0) (ks := 0) (kc' := 0) (ks' := 0) (a := x0) (ci := 12) (as := [.int x1, .int (11 : Int32), .int x2]) (st := []) (mf_Ref_breakAt hw) (mv_Ref_415 hw) d_Ref_lookAt_288 ln_Ref_breakAt (by decide) (by first | exact Nat.le_of_ble_eq_true rfl | (simp only [List.map_cons, List.map_nil, List.sum_cons, List.sum_nil, va_rf_cat]; exact Nat.le_of_ble_eq_true rfl)) rfl ((hG _).1 _ g1 (by decide)).1 ((hG _).1 _ g1 (by decide)).2 (by unfold pic; rw [g1]; rfl) (jcl_at hw rfl) rfl (p_Ref_breakAt hw hG hq6) ?_ (fun E h' n' x' e1 => by cases e1.1)
        intro v9 h9 n9 x9 e9
        obtain ⟨e91, e92, e93⟩ := e9
        cases e91
        subst e92
        subst e93
        clear x
        rename Bool => x
        show J _ _ _ _ [] _ _ _ _ _ _
        refine J.drop [false, false, false, false, false, false, false, false, false, false, false] rfl ?_
        exact p_Ref_lookAt_L291 hw hG  H
  · intro c11
    rw [if_neg c11] at H
    refine J_aload_n d_Ref_lookAt_253 rfl ?_
    refine J_iload_n d_Ref_lookAt_254 rfl ?_
    refine J_bipush (v := 7) d_Ref_lookAt_255 (by decide) ?_
    refine J_iload_n d_Ref_lookAt_257 rfl ?_
    have g9 : Γ x0 = .inr 12 := by
      apply Classical.byContradiction
      intro q9
      rw [if_neg q9] at H
      cases H
    rw [if_pos g9] at H
    obtain ⟨q10, hq10, H⟩ := Option.bind_eq_some_iff.mp H
    refine J_callV (kc := 0) (ks := 0) (kc' := 0) (ks' := 0) (a := x0) (ci := 12) (as := [.int x1, .int (7 : Int32), .int x2]) (st := []) (mf_Ref_breakAt hw) (mv_Ref_415 hw) d_Ref_lookAt_258 ln_Ref_breakAt (by decide) (by first | exact Nat.le_of_ble_eq_true rfl | (simp only [List.map_cons, List.map_nil, List.sum_cons, List.sum_nil, va_rf_cat]; exact Nat.le_of_ble_eq_true rfl)) rfl ((hG _).1 _ g9 (by decide)).1 ((hG _).1 _ g9 (by decide)).2 (by unfold pic; rw [g9]; rfl) (jcl_at hw rfl) rfl (p_Ref_breakAt hw hG hq10) ?_ (fun E h' n' x' e1 => by cases e1.1)
    intro v9 h9 n9 x9 e9
    obtain ⟨e91, e92, e93⟩ := e9
    cases e91
    subst e92
    subst e93
    clear x
    rename Bool => x
    show J _ _ _ _ [] _ _ _ _ _ _
    refine J_goto (tgt := 291) d_Ref_lookAt_261 (by decide) ?_
    refine J.drop [false, false, false, false, false, false, false, false, false, false, false] rfl ?_
    exact p_Ref_lookAt_L291 hw hG  H
def f_Ref_lookAt_L236 (Γ : gm_T)  (φ : ph_T) (x0 : Nat) (x1 : Int32) (x2 : Int32) (x6 : Int32) (x9 : Int32) (x10 : Int32) (y0 : Int32) : Option (Unit × ph_T) :=
  if (x6 &&& (256 : Int32)) = 0 then
    f_Ref_lookAt_L250 Γ  φ x0 x1 x2 x9 x10 (0 : Int32) y0
  else
    f_Ref_lookAt_L250 Γ  φ x0 x1 x2 x9 x10 (1 : Int32) y0
set_option maxRecDepth 100000 in
set_option maxHeartbeats 4000000 in
theorem p_Ref_lookAt_L236 {w : jw_T} (hw : jok w) {Γ : gm_T} {n : Nat} (hG : gd w Γ n)  {x : Bool} {φ : ph_T} {x0 : Nat} {x1 : Int32} {x2 : Int32} {x6 : Int32} {x9 : Int32} {x10 : Int32} {y0 : Int32} {q : Unit × ph_T} (H : f_Ref_lookAt_L236 Γ  φ x0 x1 x2 x6 x9 x10 y0 = some q) : J w M_Ref_lookAt 236 [some (.ref x0), some (.int x1), some (.int x2), none, none, none, some (.int x6), none, none, some (.int x9), some (.int x10)] [.int y0] (pic Γ φ) n x 0 0 (fq Γ n (.inl none) q.2) := by
  unfold f_Ref_lookAt_L236 at H
  refine J_iload d_Ref_lookAt_236 rfl ?_
  refine J_sipush (v := 256) d_Ref_lookAt_238 (by decide) ?_
  refine J_iand d_Ref_lookAt_241 ?_
  refine J_if_eq (tgt := 249) d_Ref_lookAt_242 (by decide) ?_ ?_
  · intro c12
    rw [if_pos c12] at H
    refine J_iconst (v := 0) d_Ref_lookAt_249 (by decide) ?_
    refine J.drop [true, true, true, false, false, false, false, false, false, true, true] rfl ?_
    exact p_Ref_lookAt_L250 hw hG  H
  · intro c12
    rw [if_neg c12] at H
    refine J_iconst (v := 1) d_Ref_lookAt_245 (by decide) ?_
    refine J_goto (tgt := 250) d_Ref_lookAt_246 (by decide) ?_
    refine J.drop [true, true, true, false, false, false, false, false, false, true, true] rfl ?_
    exact p_Ref_lookAt_L250 hw hG  H
def f_Ref_lookAt_L175 (Γ : gm_T)  (φ : ph_T) : Option (Unit × ph_T) :=
  f_Ref_lookAt_L291 Γ  φ 
set_option maxRecDepth 100000 in
set_option maxHeartbeats 4000000 in
theorem p_Ref_lookAt_L175 {w : jw_T} (hw : jok w) {Γ : gm_T} {n : Nat} (hG : gd w Γ n)  {x : Bool} {φ : ph_T} {q : Unit × ph_T} (H : f_Ref_lookAt_L175 Γ  φ  = some q) : J w M_Ref_lookAt 175 [none, none, none, none, none, none, none, none, none, none, none] [] (pic Γ φ) n x 0 0 (fq Γ n (.inl none) q.2) := by
  unfold f_Ref_lookAt_L175 at H
  refine J_goto (tgt := 291) d_Ref_lookAt_175 (by decide) ?_
  refine J.drop [false, false, false, false, false, false, false, false, false, false, false] rfl ?_
  exact p_Ref_lookAt_L291 hw hG  H
def f_Ref_lookAt_L114 (Γ : gm_T)  (φ : ph_T) : Option (Unit × ph_T) :=
  f_Ref_lookAt_L291 Γ  φ 
set_option maxRecDepth 100000 in
set_option maxHeartbeats 4000000 in
theorem p_Ref_lookAt_L114 {w : jw_T} (hw : jok w) {Γ : gm_T} {n : Nat} (hG : gd w Γ n)  {x : Bool} {φ : ph_T} {q : Unit × ph_T} (H : f_Ref_lookAt_L114 Γ  φ  = some q) : J w M_Ref_lookAt 114 [none, none, none, none, none, none, none, none, none, none, none] [] (pic Γ φ) n x 0 0 (fq Γ n (.inl none) q.2) := by
  unfold f_Ref_lookAt_L114 at H
  refine J_goto (tgt := 291) d_Ref_lookAt_114 (by decide) ?_
  refine J.drop [false, false, false, false, false, false, false, false, false, false, false] rfl ?_
  exact p_Ref_lookAt_L291 hw hG  H
def f_Ref_lookAt_L94 (Γ : gm_T)  (φ : ph_T) (x0 : Nat) (x1 : Int32) (x2 : Int32) (x4 : Int64) : Option (Unit × ph_T) :=
  Option.bind (f_Ref_breaks Γ φ x4) fun q13 =>
  if q13.1 ≤ 0 then
    f_Ref_lookAt_L114 Γ  q13.2 
  else
    @ite _ (Γ x0 = .inr 12) _ (
    Option.bind (f_Ref_breakAt Γ q13.2 x0 x1 q13.1 x2) fun q15 =>
    f_Ref_lookAt_L114 Γ  q15.2 
    ) none
set_option maxRecDepth 100000 in
set_option maxHeartbeats 4000000 in
theorem p_Ref_lookAt_L94 {w : jw_T} (hw : jok w) {Γ : gm_T} {n : Nat} (hG : gd w Γ n)  {x : Bool} {φ : ph_T} {x0 : Nat} {x1 : Int32} {x2 : Int32} {x4 : Int64} {q : Unit × ph_T} (H : f_Ref_lookAt_L94 Γ  φ x0 x1 x2 x4 = some q) : J w M_Ref_lookAt 94 [some (.ref x0), some (.int x1), some (.int x2), none, some (.long x4), none, none, none, none, none, none] [] (pic Γ φ) n x 0 0 (fq Γ n (.inl none) q.2) := by
  unfold f_Ref_lookAt_L94 at H
  refine J_lload d_Ref_lookAt_94 rfl ?_
  obtain ⟨q13, hq13, H⟩ := Option.bind_eq_some_iff.mp H
  refine J_callS (kc := 0) (ks := 0) (kc' := 0) (ks' := 0) (as := [.long x4]) (st := []) (mf_Ref_breaks hw) (ms_Ref_419 hw) d_Ref_lookAt_96 ln_Ref_breaks (by decide) (by first | exact Nat.le_of_ble_eq_true rfl | (simp only [List.map_cons, List.map_nil, List.sum_cons, List.sum_nil, va_rf_cat]; exact Nat.le_of_ble_eq_true rfl)) rfl (p_Ref_breaks hw hG hq13) ?_ (fun E h' n' x' e1 => by cases e1.1)
  intro v9 h9 n9 x9 e9
  obtain ⟨e91, e92, e93⟩ := e9
  cases e91
  subst e92
  subst e93
  clear x
  rename Bool => x
  show J _ _ _ _ (_ :: _) _ _ _ _ _ _
  refine J_istore d_Ref_lookAt_99 (Nat.le_of_ble_eq_true rfl) ?_
  refine J_iload d_Ref_lookAt_101 rfl ?_
  refine J_if_le (tgt := 114) d_Ref_lookAt_103 (by decide) ?_ ?_
  · intro c16
    rw [if_pos c16] at H
    refine J.drop [false, false, false, false, false, false, false, false, false, false, false] rfl ?_
    exact p_Ref_lookAt_L114 hw hG  H
  · intro c16
    rw [if_neg c16] at H
    refine J_aload_n d_Ref_lookAt_106 rfl ?_
    refine J_iload_n d_Ref_lookAt_107 rfl ?_
    refine J_iload d_Ref_lookAt_108 rfl ?_
    refine J_iload_n d_Ref_lookAt_110 rfl ?_
    have g14 : Γ x0 = .inr 12 := by
      apply Classical.byContradiction
      intro q9
      rw [if_neg q9] at H
      cases H
    rw [if_pos g14] at H
    obtain ⟨q15, hq15, H⟩ := Option.bind_eq_some_iff.mp H
    refine J_callV (kc := 0) (ks := 0) (kc' := 0) (ks' := 0) (a := x0) (ci := 12) (as := [.int x1, .int q13.1, .int x2]) (st := []) (mf_Ref_breakAt hw) (mv_Ref_415 hw) d_Ref_lookAt_111 ln_Ref_breakAt (by decide) (by first | exact Nat.le_of_ble_eq_true rfl | (simp only [List.map_cons, List.map_nil, List.sum_cons, List.sum_nil, va_rf_cat]; exact Nat.le_of_ble_eq_true rfl)) rfl ((hG _).1 _ g14 (by decide)).1 ((hG _).1 _ g14 (by decide)).2 (by unfold pic; rw [g14]; rfl) (jcl_at hw rfl) rfl (p_Ref_breakAt hw hG hq15) ?_ (fun E h' n' x' e1 => by cases e1.1)
    intro v9 h9 n9 x9 e9
    obtain ⟨e91, e92, e93⟩ := e9
    cases e91
    subst e92
    subst e93
    clear x
    rename Bool => x
    show J _ _ _ _ [] _ _ _ _ _ _
    refine J.drop [false, false, false, false, false, false, false, false, false, false, false] rfl ?_
    exact p_Ref_lookAt_L114 hw hG  H
def f_Ref_lookAt_L63 (Γ : gm_T)  (φ : ph_T) : Option (Unit × ph_T) :=
  some ((), φ)
set_option maxRecDepth 100000 in
set_option maxHeartbeats 4000000 in
theorem p_Ref_lookAt_L63 {w : jw_T} (hw : jok w) {Γ : gm_T} {n : Nat} (hG : gd w Γ n)  {x : Bool} {φ : ph_T} {q : Unit × ph_T} (H : f_Ref_lookAt_L63 Γ  φ  = some q) : J w M_Ref_lookAt 63 [none, none, none, none, none, none, none, none, none, none, none] [] (pic Γ φ) n x 0 0 (fq Γ n (.inl none) q.2) := by
  unfold f_Ref_lookAt_L63 at H
  cases H
  exact J_vret (st := []) d_Ref_lookAt_63 rfl ⟨rfl, rfl, rfl⟩
def f_Ref_lookAt_L56 (Γ : gm_T)  (φ : ph_T) (x0 : Nat) (x1 : Int32) (x2 : Int32) : Option (Unit × ph_T) :=
  @ite _ (Γ x0 = .inr 12) _ (
  Option.bind (f_Ref_breakAt Γ φ x0 x1 (2 : Int32) x2) fun q18 =>
  f_Ref_lookAt_L63 Γ  q18.2 
  ) none
set_option maxRecDepth 100000 in
set_option maxHeartbeats 4000000 in
theorem p_Ref_lookAt_L56 {w : jw_T} (hw : jok w) {Γ : gm_T} {n : Nat} (hG : gd w Γ n)  {x : Bool} {φ : ph_T} {x0 : Nat} {x1 : Int32} {x2 : Int32} {q : Unit × ph_T} (H : f_Ref_lookAt_L56 Γ  φ x0 x1 x2 = some q) : J w M_Ref_lookAt 56 [some (.ref x0), some (.int x1), some (.int x2), none, none, none, none, none, none, none, none] [] (pic Γ φ) n x 0 0 (fq Γ n (.inl none) q.2) := by
  unfold f_Ref_lookAt_L56 at H
  refine J_aload_n d_Ref_lookAt_56 rfl ?_
  refine J_iload_n d_Ref_lookAt_57 rfl ?_
  refine J_iconst (v := 2) d_Ref_lookAt_58 (by decide) ?_
  refine J_iload_n d_Ref_lookAt_59 rfl ?_
  have g17 : Γ x0 = .inr 12 := by
    apply Classical.byContradiction
    intro q9
    rw [if_neg q9] at H
    cases H
  rw [if_pos g17] at H
  obtain ⟨q18, hq18, H⟩ := Option.bind_eq_some_iff.mp H
  refine J_callV (kc := 0) (ks := 0) (kc' := 0) (ks' := 0) (a := x0) (ci := 12) (as := [.int x1, .int (2 : Int32), .int x2]) (st := []) (mf_Ref_breakAt hw) (mv_Ref_415 hw) d_Ref_lookAt_60 ln_Ref_breakAt (by decide) (by first | exact Nat.le_of_ble_eq_true rfl | (simp only [List.map_cons, List.map_nil, List.sum_cons, List.sum_nil, va_rf_cat]; exact Nat.le_of_ble_eq_true rfl)) rfl ((hG _).1 _ g17 (by decide)).1 ((hG _).1 _ g17 (by decide)).2 (by unfold pic; rw [g17]; rfl) (jcl_at hw rfl) rfl (p_Ref_breakAt hw hG hq18) ?_ (fun E h' n' x' e1 => by cases e1.1)
  intro v9 h9 n9 x9 e9
  obtain ⟨e91, e92, e93⟩ := e9
  cases e91
  subst e92
  subst e93
  clear x
  rename Bool => x
  show J _ _ _ _ [] _ _ _ _ _ _
  refine J.drop [false, false, false, false, false, false, false, false, false, false, false] rfl ?_
  exact p_Ref_lookAt_L63 hw hG  H
def f_Ref_lookAt (Γ : gm_T) (φ : ph_T) (this : Nat) (p0 : Int32) (p1 : Int32) (p2 : Int32) (p3 : Int64) (p4 : Int32) : Option (Unit × ph_T) :=
  @ite _ (Γ this = .inr 12) _ (
  Option.bind (φ.2.2 this 82) fun a20 =>
  Option.bind (gA Γ a20 2) fun N21 =>
  Option.bind (ix (((5 : Int32) * p0) + p1) N21) fun k22 =>
  if (φ.1 a20 k22) = 0 then
    if p2 = 0 then
      some ((), φ)
    else
      if p1 = 0 then
        f_Ref_lookAt_L94 Γ  φ this p0 p1 p3
      else
        if p1 = (3 : Int32) then
          f_Ref_lookAt_L94 Γ  φ this p0 p1 p3
        else
          if p1 = (2 : Int32) then
            Option.bind (f_Ref_monitoredWrite Γ φ this p0 (p4 &&& (63 : Int32))) fun q35 =>
            if q35.1 = (-1 : Int32) then
              Option.bind (f_Ref_breakAt Γ q35.2 this p0 (9 : Int32) p1) fun q43 =>
              f_Ref_lookAt_L175 Γ  q43.2 
            else
              if ((p4 >>> ((6 : Int32) &&& 31)) &&& (3 : Int32)) = (1 : Int32) then
                Option.bind (q35.2.2.2 this 92) fun a36 =>
                Option.bind (gA Γ a36 1) fun N37 =>
                Option.bind (ix q35.1 N37) fun k38 =>
                Option.bind (f_Ref_isAlone Γ q35.2 (q35.2.2.1 a36 k38)) fun q39 =>
                if q39.1 = 0 then
                  Option.bind (f_Ref_breakAt Γ q39.2 this p0 (11 : Int32) p1) fun q40 =>
                  f_Ref_lookAt_L175 Γ  q40.2 
                else
                  f_Ref_lookAt_L175 Γ  q39.2 
              else
                f_Ref_lookAt_L175 Γ  q35.2 
          else
            if p1 = (4 : Int32) then
              Option.bind (f_Ref_monitoredRead Γ φ this p0 (p4 &&& (63 : Int32))) fun q23 =>
              if q23.1 = (-1 : Int32) then
                Option.bind (f_Ref_breakAt Γ q23.2 this p0 (10 : Int32) p1) fun q32 =>
                f_Ref_lookAt_L291 Γ  q32.2 
              else
                Option.bind (q23.2.2.2 this 97) fun a24 =>
                Option.bind (gA Γ a24 0) fun N25 =>
                Option.bind (ix q23.1 N25) fun k26 =>
                Option.bind (q23.2.2.2 this 96) fun a27 =>
                Option.bind (gA Γ a27 1) fun N28 =>
                Option.bind (ix q23.1 N28) fun k29 =>
                Option.bind (f_Ref_lengthOf Γ q23.2 (q23.2.2.1 a27 k29)) fun q30 =>
                if (q23.2.1 a24 k26) = (q30.1 - (1 : Int32)) then
                  f_Ref_lookAt_L236 Γ  q30.2 this p0 p1 p4 ((p4 >>> ((6 : Int32) &&& 31)) &&& (3 : Int32)) q23.1 (1 : Int32)
                else
                  f_Ref_lookAt_L236 Γ  q30.2 this p0 p1 p4 ((p4 >>> ((6 : Int32) &&& 31)) &&& (3 : Int32)) q23.1 (0 : Int32)
            else
              f_Ref_lookAt_L291 Γ  φ 
  else
    if p2 = 0 then
      Option.bind (f_Ref_breakAt Γ φ this p0 (1 : Int32) p1) fun q57 =>
      f_Ref_lookAt_L63 Γ  q57.2 
    else
      Option.bind (φ.2.2 this 83) fun a49 =>
      Option.bind (gA Γ a49 1) fun N50 =>
      Option.bind (ix (((5 : Int32) * p0) + p1) N50) fun k51 =>
      if (lg_cmp p3 (φ.2.1 a49 k51)) = 0 then
        Option.bind (φ.2.2 this 84) fun a52 =>
        Option.bind (gA Γ a52 0) fun N53 =>
        Option.bind (ix (((5 : Int32) * p0) + p1) N53) fun k54 =>
        if p4 = (φ.1 a52 k54) then
          f_Ref_lookAt_L63 Γ  φ 
        else
          f_Ref_lookAt_L56 Γ  φ this p0 p1
      else
        f_Ref_lookAt_L56 Γ  φ this p0 p1
  ) none
set_option maxRecDepth 100000 in
set_option maxHeartbeats 4000000 in
theorem p_Ref_lookAt {w : jw_T} (hw : jok w) {Γ : gm_T} {n : Nat} (hG : gd w Γ n) {x : Bool} {φ : ph_T} {this : Nat} {p0 : Int32} {p1 : Int32} {p2 : Int32} {p3 : Int64} {p4 : Int32} {q : Unit × ph_T} (H : f_Ref_lookAt Γ φ this p0 p1 p2 p3 p4 = some q) : jc w M_Ref_lookAt [.ref this, .int p0, .int p1, .int p2, .long p3, .int p4] (pic Γ φ) n x 0 0 (fq Γ n (.inl none) q.2) := by
  refine jc.of (by simp only [jent_r, jent_i, jent_l, jent_a, jent_0]; exact Nat.le_of_ble_eq_true rfl) ?_
  have hls : jents [.ref this, .int p0, .int p1, .int p2, .long p3, .int p4] (jm_nL M_Ref_lookAt) = [some (.ref this), some (.int p0), some (.int p1), some (.int p2), some (.long p3), none, some (.int p4), none, none, none, none] := by simp only [jents, jent_r, jent_i, jent_l, jent_a, jent_0]; rfl
  rw [hls]
  clear hls
  unfold f_Ref_lookAt at H
  refine J_iconst (v := 5) d_Ref_lookAt_0 (by decide) ?_
  refine J_iload_n d_Ref_lookAt_1 rfl ?_
  refine J_imul d_Ref_lookAt_2 ?_
  refine J_iload_n d_Ref_lookAt_3 rfl ?_
  refine J_iadd d_Ref_lookAt_4 ?_
  refine J_istore d_Ref_lookAt_5 (Nat.le_of_ble_eq_true rfl) ?_
  refine J_aload_n d_Ref_lookAt_7 rfl ?_
  have g19 : Γ this = .inr 12 := by
    apply Classical.byContradiction
    intro q9
    rw [if_neg q9] at H
    cases H
  rw [if_pos g19] at H
  refine F_getR (ci := 12) (k := 82) hG (cf_Ref hw) (fl_Ref_226 hw) (by decide) (by decide) rfl d_Ref_lookAt_8 g19 ?_
  refine J_iload d_Ref_lookAt_11 rfl ?_
  obtain ⟨a20, ha20, H⟩ := Option.bind_eq_some_iff.mp H
  rw [j_rf ha20]
  obtain ⟨N21, hN21, H⟩ := Option.bind_eq_some_iff.mp H
  obtain ⟨k22, hk22, H⟩ := Option.bind_eq_some_iff.mp H
  refine F_zald k22 hw hG d_Ref_lookAt_13 (gA_some hN21) (ix_some hk22) ?_
  refine J_if_eq (tgt := 64) d_Ref_lookAt_14 (by decide) ?_ ?_
  · intro c59
    rw [if_pos c59] at H
    refine J_iload_n d_Ref_lookAt_64 rfl ?_
    refine J_if_ne (tgt := 69) d_Ref_lookAt_65 (by decide) ?_ ?_
    · intro c48
      rw [if_neg c48] at H
      refine J_iload d_Ref_lookAt_69 rfl ?_
      refine J_bipush (v := 63) d_Ref_lookAt_71 (by decide) ?_
      refine J_iand d_Ref_lookAt_73 ?_
      refine J_istore d_Ref_lookAt_74 (Nat.le_of_ble_eq_true rfl) ?_
      refine J_iload d_Ref_lookAt_76 rfl ?_
      refine J_bipush (v := 6) d_Ref_lookAt_78 (by decide) ?_
      refine J_ishr d_Ref_lookAt_80 ?_
      refine J_iconst (v := 3) d_Ref_lookAt_81 (by decide) ?_
      refine J_iand d_Ref_lookAt_82 ?_
      refine J_istore d_Ref_lookAt_83 (Nat.le_of_ble_eq_true rfl) ?_
      refine J_iload_n d_Ref_lookAt_85 rfl ?_
      refine J_if_eq (tgt := 94) d_Ref_lookAt_86 (by decide) ?_ ?_
      · intro c47
        rw [if_pos c47] at H
        refine J.drop [true, true, true, false, true, false, false, false, false, false, false] rfl ?_
        exact p_Ref_lookAt_L94 hw hG  H
      · intro c47
        rw [if_neg c47] at H
        refine J_iload_n d_Ref_lookAt_89 rfl ?_
        refine J_iconst (v := 3) d_Ref_lookAt_90 (by decide) ?_
        refine J_icmp_ne (tgt := 117) d_Ref_lookAt_91 (by decide) ?_ ?_
        · intro c46
          rw [if_neg c46] at H
          refine J_iload_n d_Ref_lookAt_117 rfl ?_
          refine J_iconst (v := 2) d_Ref_lookAt_118 (by decide) ?_
          refine J_icmp_ne (tgt := 178) d_Ref_lookAt_119 (by decide) ?_ ?_
          · intro c45
            rw [if_neg c45] at H
            refine J_iload_n d_Ref_lookAt_178 rfl ?_
            refine J_iconst (v := 4) d_Ref_lookAt_179 (by decide) ?_
            refine J_icmp_ne (tgt := 291) d_Ref_lookAt_180 (by decide) ?_ ?_
            · intro c34
              rw [if_neg c34] at H
              refine J.drop [false, false, false, false, false, false, false, false, false, false, false] rfl ?_
              exact p_Ref_lookAt_L291 hw hG  H
            · intro c34
              rw [if_pos c34] at H
              refine J_aload_n d_Ref_lookAt_183 rfl ?_
              refine J_iload_n d_Ref_lookAt_184 rfl ?_
              refine J_iload d_Ref_lookAt_185 rfl ?_
              obtain ⟨q23, hq23, H⟩ := Option.bind_eq_some_iff.mp H
              refine J_callV (kc := 0) (ks := 0) (kc' := 0) (ks' := 0) (a := this) (ci := 12) (as := [.int p0, .int (p4 &&& (63 : Int32))]) (st := []) (mf_Ref_monitoredRead hw) (mv_Ref_425 hw) d_Ref_lookAt_187 ln_Ref_monitoredRead (by decide) (by first | exact Nat.le_of_ble_eq_true rfl | (simp only [List.map_cons, List.map_nil, List.sum_cons, List.sum_nil, va_rf_cat]; exact Nat.le_of_ble_eq_true rfl)) rfl ((hG _).1 _ g19 (by decide)).1 ((hG _).1 _ g19 (by decide)).2 (by unfold pic; rw [g19]; rfl) (jcl_at hw rfl) rfl (p_Ref_monitoredRead hw hG hq23) ?_ (fun E h' n' x' e1 => by cases e1.1)
              intro v9 h9 n9 x9 e9
              obtain ⟨e91, e92, e93⟩ := e9
              cases e91
              subst e92
              subst e93
              clear x
              rename Bool => x
              show J _ _ _ _ (_ :: _) _ _ _ _ _ _
              refine J_istore d_Ref_lookAt_190 (Nat.le_of_ble_eq_true rfl) ?_
              refine J_iload d_Ref_lookAt_192 rfl ?_
              refine J_iconst (v := -1) d_Ref_lookAt_194 (by decide) ?_
              refine J_icmp_ne (tgt := 209) d_Ref_lookAt_195 (by decide) ?_ ?_
              · intro c33
                rw [if_neg c33] at H
                refine J_aload_n d_Ref_lookAt_209 rfl ?_
                refine F_getR (ci := 12) (k := 97) hG (cf_Ref hw) (fl_Ref_271 hw) (by decide) (by decide) rfl d_Ref_lookAt_210 g19 ?_
                refine J_iload d_Ref_lookAt_213 rfl ?_
                obtain ⟨a24, ha24, H⟩ := Option.bind_eq_some_iff.mp H
                rw [j_rf ha24]
                obtain ⟨N25, hN25, H⟩ := Option.bind_eq_some_iff.mp H
                obtain ⟨k26, hk26, H⟩ := Option.bind_eq_some_iff.mp H
                refine F_iald k26 hw hG d_Ref_lookAt_215 (gA_some hN25) (ix_some hk26) ?_
                refine J_aload_n d_Ref_lookAt_216 rfl ?_
                refine F_getR (ci := 12) (k := 96) hG (cf_Ref hw) (fl_Ref_268 hw) (by decide) (by decide) rfl d_Ref_lookAt_217 g19 ?_
                refine J_iload d_Ref_lookAt_220 rfl ?_
                obtain ⟨a27, ha27, H⟩ := Option.bind_eq_some_iff.mp H
                rw [j_rf ha27]
                obtain ⟨N28, hN28, H⟩ := Option.bind_eq_some_iff.mp H
                obtain ⟨k29, hk29, H⟩ := Option.bind_eq_some_iff.mp H
                refine F_lald k29 hw hG d_Ref_lookAt_222 (gA_some hN28) (ix_some hk29) ?_
                obtain ⟨q30, hq30, H⟩ := Option.bind_eq_some_iff.mp H
                refine J_callS (kc := 0) (ks := 0) (kc' := 0) (ks' := 0) (as := [.long (q23.2.2.1 a27 k29)]) (st := [.int (q23.2.1 a24 k26)]) (mf_Ref_lengthOf hw) (ms_Ref_321 hw) d_Ref_lookAt_223 ln_Ref_lengthOf (by decide) (by first | exact Nat.le_of_ble_eq_true rfl | (simp only [List.map_cons, List.map_nil, List.sum_cons, List.sum_nil, va_rf_cat]; exact Nat.le_of_ble_eq_true rfl)) rfl (p_Ref_lengthOf hw hG hq30) ?_ (fun E h' n' x' e1 => by cases e1.1)
                intro v9 h9 n9 x9 e9
                obtain ⟨e91, e92, e93⟩ := e9
                cases e91
                subst e92
                subst e93
                clear x
                rename Bool => x
                show J _ _ _ _ (_ :: _) _ _ _ _ _ _
                refine J_iconst (v := 1) d_Ref_lookAt_226 (by decide) ?_
                refine J_isub d_Ref_lookAt_227 ?_
                refine J_icmp_ne (tgt := 235) d_Ref_lookAt_228 (by decide) ?_ ?_
                · intro c31
                  rw [if_neg c31] at H
                  refine J_iconst (v := 0) d_Ref_lookAt_235 (by decide) ?_
                  refine J.drop [true, true, true, false, false, false, true, false, false, true, true] rfl ?_
                  exact p_Ref_lookAt_L236 hw hG  H
                · intro c31
                  rw [if_pos c31] at H
                  refine J_iconst (v := 1) d_Ref_lookAt_231 (by decide) ?_
                  refine J_goto (tgt := 236) d_Ref_lookAt_232 (by decide) ?_
                  refine J.drop [true, true, true, false, false, false, true, false, false, true, true] rfl ?_
                  exact p_Ref_lookAt_L236 hw hG  H
              · intro c33
                rw [if_pos c33] at H
                refine J_aload_n d_Ref_lookAt_198 rfl ?_
                refine J_iload_n d_Ref_lookAt_199 rfl ?_
                refine J_bipush (v := 10) d_Ref_lookAt_200 (by decide) ?_
                refine J_iload_n d_Ref_lookAt_202 rfl ?_
                obtain ⟨q32, hq32, H⟩ := Option.bind_eq_some_iff.mp H
                refine J_callV (kc := 0) (ks := 0) (kc' := 0) (ks' := 0) (a := this) (ci := 12) (as := [.int p0, .int (10 : Int32), .int p1]) (st := []) (mf_Ref_breakAt hw) (mv_Ref_415 hw) d_Ref_lookAt_203 ln_Ref_breakAt (by decide) (by first | exact Nat.le_of_ble_eq_true rfl | (simp only [List.map_cons, List.map_nil, List.sum_cons, List.sum_nil, va_rf_cat]; exact Nat.le_of_ble_eq_true rfl)) rfl ((hG _).1 _ g19 (by decide)).1 ((hG _).1 _ g19 (by decide)).2 (by unfold pic; rw [g19]; rfl) (jcl_at hw rfl) rfl (p_Ref_breakAt hw hG hq32) ?_ (fun E h' n' x' e1 => by cases e1.1)
                intro v9 h9 n9 x9 e9
                obtain ⟨e91, e92, e93⟩ := e9
                cases e91
                subst e92
                subst e93
                clear x
                rename Bool => x
                show J _ _ _ _ [] _ _ _ _ _ _
                refine J_goto (tgt := 291) d_Ref_lookAt_206 (by decide) ?_
                refine J.drop [false, false, false, false, false, false, false, false, false, false, false] rfl ?_
                exact p_Ref_lookAt_L291 hw hG  H
          · intro c45
            rw [if_pos c45] at H
            refine J_aload_n d_Ref_lookAt_122 rfl ?_
            refine J_iload_n d_Ref_lookAt_123 rfl ?_
            refine J_iload d_Ref_lookAt_124 rfl ?_
            obtain ⟨q35, hq35, H⟩ := Option.bind_eq_some_iff.mp H
            refine J_callV (kc := 0) (ks := 0) (kc' := 0) (ks' := 0) (a := this) (ci := 12) (as := [.int p0, .int (p4 &&& (63 : Int32))]) (st := []) (mf_Ref_monitoredWrite hw) (mv_Ref_422 hw) d_Ref_lookAt_126 ln_Ref_monitoredWrite (by decide) (by first | exact Nat.le_of_ble_eq_true rfl | (simp only [List.map_cons, List.map_nil, List.sum_cons, List.sum_nil, va_rf_cat]; exact Nat.le_of_ble_eq_true rfl)) rfl ((hG _).1 _ g19 (by decide)).1 ((hG _).1 _ g19 (by decide)).2 (by unfold pic; rw [g19]; rfl) (jcl_at hw rfl) rfl (p_Ref_monitoredWrite hw hG hq35) ?_ (fun E h' n' x' e1 => by cases e1.1)
            intro v9 h9 n9 x9 e9
            obtain ⟨e91, e92, e93⟩ := e9
            cases e91
            subst e92
            subst e93
            clear x
            rename Bool => x
            show J _ _ _ _ (_ :: _) _ _ _ _ _ _
            refine J_istore d_Ref_lookAt_129 (Nat.le_of_ble_eq_true rfl) ?_
            refine J_iload d_Ref_lookAt_131 rfl ?_
            refine J_iconst (v := -1) d_Ref_lookAt_133 (by decide) ?_
            refine J_icmp_ne (tgt := 148) d_Ref_lookAt_134 (by decide) ?_ ?_
            · intro c44
              rw [if_neg c44] at H
              refine J_iload d_Ref_lookAt_148 rfl ?_
              refine J_iconst (v := 1) d_Ref_lookAt_150 (by decide) ?_
              refine J_icmp_ne (tgt := 175) d_Ref_lookAt_151 (by decide) ?_ ?_
              · intro c42
                rw [if_neg c42] at H
                refine J.drop [false, false, false, false, false, false, false, false, false, false, false] rfl ?_
                exact p_Ref_lookAt_L175 hw hG  H
              · intro c42
                rw [if_pos c42] at H
                refine J_aload_n d_Ref_lookAt_154 rfl ?_
                refine F_getR (ci := 12) (k := 92) hG (cf_Ref hw) (fl_Ref_256 hw) (by decide) (by decide) rfl d_Ref_lookAt_155 g19 ?_
                refine J_iload d_Ref_lookAt_158 rfl ?_
                obtain ⟨a36, ha36, H⟩ := Option.bind_eq_some_iff.mp H
                rw [j_rf ha36]
                obtain ⟨N37, hN37, H⟩ := Option.bind_eq_some_iff.mp H
                obtain ⟨k38, hk38, H⟩ := Option.bind_eq_some_iff.mp H
                refine F_lald k38 hw hG d_Ref_lookAt_160 (gA_some hN37) (ix_some hk38) ?_
                obtain ⟨q39, hq39, H⟩ := Option.bind_eq_some_iff.mp H
                refine J_callS (kc := 0) (ks := 0) (kc' := 0) (ks' := 0) (as := [.long (q35.2.2.1 a36 k38)]) (st := []) (mf_Ref_isAlone hw) (ms_Ref_329 hw) d_Ref_lookAt_161 ln_Ref_isAlone (by decide) (by first | exact Nat.le_of_ble_eq_true rfl | (simp only [List.map_cons, List.map_nil, List.sum_cons, List.sum_nil, va_rf_cat]; exact Nat.le_of_ble_eq_true rfl)) rfl (p_Ref_isAlone hw hG hq39) ?_ (fun E h' n' x' e1 => by cases e1.1)
                intro v9 h9 n9 x9 e9
                obtain ⟨e91, e92, e93⟩ := e9
                cases e91
                subst e92
                subst e93
                clear x
                rename Bool => x
                show J _ _ _ _ (_ :: _) _ _ _ _ _ _
                refine J_if_ne (tgt := 175) d_Ref_lookAt_164 (by decide) ?_ ?_
                · intro c41
                  rw [if_neg c41] at H
                  refine J.drop [false, false, false, false, false, false, false, false, false, false, false] rfl ?_
                  exact p_Ref_lookAt_L175 hw hG  H
                · intro c41
                  rw [if_pos c41] at H
                  refine J_aload_n d_Ref_lookAt_167 rfl ?_
                  refine J_iload_n d_Ref_lookAt_168 rfl ?_
                  refine J_bipush (v := 11) d_Ref_lookAt_169 (by decide) ?_
                  refine J_iload_n d_Ref_lookAt_171 rfl ?_
                  obtain ⟨q40, hq40, H⟩ := Option.bind_eq_some_iff.mp H
                  refine J_callV (kc := 0) (ks := 0) (kc' := 0) (ks' := 0) (a := this) (ci := 12) (as := [.int p0, .int (11 : Int32), .int p1]) (st := []) (mf_Ref_breakAt hw) (mv_Ref_415 hw) d_Ref_lookAt_172 ln_Ref_breakAt (by decide) (by first | exact Nat.le_of_ble_eq_true rfl | (simp only [List.map_cons, List.map_nil, List.sum_cons, List.sum_nil, va_rf_cat]; exact Nat.le_of_ble_eq_true rfl)) rfl ((hG _).1 _ g19 (by decide)).1 ((hG _).1 _ g19 (by decide)).2 (by unfold pic; rw [g19]; rfl) (jcl_at hw rfl) rfl (p_Ref_breakAt hw hG hq40) ?_ (fun E h' n' x' e1 => by cases e1.1)
                  intro v9 h9 n9 x9 e9
                  obtain ⟨e91, e92, e93⟩ := e9
                  cases e91
                  subst e92
                  subst e93
                  clear x
                  rename Bool => x
                  show J _ _ _ _ [] _ _ _ _ _ _
                  refine J.drop [false, false, false, false, false, false, false, false, false, false, false] rfl ?_
                  exact p_Ref_lookAt_L175 hw hG  H
            · intro c44
              rw [if_pos c44] at H
              refine J_aload_n d_Ref_lookAt_137 rfl ?_
              refine J_iload_n d_Ref_lookAt_138 rfl ?_
              refine J_bipush (v := 9) d_Ref_lookAt_139 (by decide) ?_
              refine J_iload_n d_Ref_lookAt_141 rfl ?_
              obtain ⟨q43, hq43, H⟩ := Option.bind_eq_some_iff.mp H
              refine J_callV (kc := 0) (ks := 0) (kc' := 0) (ks' := 0) (a := this) (ci := 12) (as := [.int p0, .int (9 : Int32), .int p1]) (st := []) (mf_Ref_breakAt hw) (mv_Ref_415 hw) d_Ref_lookAt_142 ln_Ref_breakAt (by decide) (by first | exact Nat.le_of_ble_eq_true rfl | (simp only [List.map_cons, List.map_nil, List.sum_cons, List.sum_nil, va_rf_cat]; exact Nat.le_of_ble_eq_true rfl)) rfl ((hG _).1 _ g19 (by decide)).1 ((hG _).1 _ g19 (by decide)).2 (by unfold pic; rw [g19]; rfl) (jcl_at hw rfl) rfl (p_Ref_breakAt hw hG hq43) ?_ (fun E h' n' x' e1 => by cases e1.1)
              intro v9 h9 n9 x9 e9
              obtain ⟨e91, e92, e93⟩ := e9
              cases e91
              subst e92
              subst e93
              clear x
              rename Bool => x
              show J _ _ _ _ [] _ _ _ _ _ _
              refine J_goto (tgt := 175) d_Ref_lookAt_145 (by decide) ?_
              refine J.drop [false, false, false, false, false, false, false, false, false, false, false] rfl ?_
              exact p_Ref_lookAt_L175 hw hG  H
        · intro c46
          rw [if_pos c46] at H
          refine J.drop [true, true, true, false, true, false, false, false, false, false, false] rfl ?_
          exact p_Ref_lookAt_L94 hw hG  H
    · intro c48
      rw [if_pos c48] at H
      cases H
      exact J_vret (st := []) d_Ref_lookAt_68 rfl ⟨rfl, rfl, rfl⟩
  · intro c59
    rw [if_neg c59] at H
    refine J_iload_n d_Ref_lookAt_17 rfl ?_
    refine J_if_ne (tgt := 31) d_Ref_lookAt_18 (by decide) ?_ ?_
    · intro c58
      rw [if_neg c58] at H
      refine J_lload d_Ref_lookAt_31 rfl ?_
      refine J_aload_n d_Ref_lookAt_33 rfl ?_
      refine F_getR (ci := 12) (k := 83) hG (cf_Ref hw) (fl_Ref_229 hw) (by decide) (by decide) rfl d_Ref_lookAt_34 g19 ?_
      refine J_iload d_Ref_lookAt_37 rfl ?_
      obtain ⟨a49, ha49, H⟩ := Option.bind_eq_some_iff.mp H
      rw [j_rf ha49]
      obtain ⟨N50, hN50, H⟩ := Option.bind_eq_some_iff.mp H
      obtain ⟨k51, hk51, H⟩ := Option.bind_eq_some_iff.mp H
      refine F_lald k51 hw hG d_Ref_lookAt_39 (gA_some hN50) (ix_some hk51) ?_
      refine J_lcmp d_Ref_lookAt_40 ?_
      refine J_if_ne (tgt := 56) d_Ref_lookAt_41 (by decide) ?_ ?_
      · intro c56
        rw [if_neg c56] at H
        refine J.drop [true, true, true, false, false, false, false, false, false, false, false] rfl ?_
        exact p_Ref_lookAt_L56 hw hG  H
      · intro c56
        rw [if_pos c56] at H
        refine J_iload d_Ref_lookAt_44 rfl ?_
        refine J_aload_n d_Ref_lookAt_46 rfl ?_
        refine F_getR (ci := 12) (k := 84) hG (cf_Ref hw) (fl_Ref_232 hw) (by decide) (by decide) rfl d_Ref_lookAt_47 g19 ?_
        refine J_iload d_Ref_lookAt_50 rfl ?_
        obtain ⟨a52, ha52, H⟩ := Option.bind_eq_some_iff.mp H
        rw [j_rf ha52]
        obtain ⟨N53, hN53, H⟩ := Option.bind_eq_some_iff.mp H
        obtain ⟨k54, hk54, H⟩ := Option.bind_eq_some_iff.mp H
        refine F_iald k54 hw hG d_Ref_lookAt_52 (gA_some hN53) (ix_some hk54) ?_
        refine J_icmp_eq (tgt := 63) d_Ref_lookAt_53 (by decide) ?_ ?_
        · intro c55
          rw [if_pos c55] at H
          refine J.drop [false, false, false, false, false, false, false, false, false, false, false] rfl ?_
          exact p_Ref_lookAt_L63 hw hG  H
        · intro c55
          rw [if_neg c55] at H
          refine J.drop [true, true, true, false, false, false, false, false, false, false, false] rfl ?_
          exact p_Ref_lookAt_L56 hw hG  H
    · intro c58
      rw [if_pos c58] at H
      refine J_aload_n d_Ref_lookAt_21 rfl ?_
      refine J_iload_n d_Ref_lookAt_22 rfl ?_
      refine J_iconst (v := 1) d_Ref_lookAt_23 (by decide) ?_
      refine J_iload_n d_Ref_lookAt_24 rfl ?_
      obtain ⟨q57, hq57, H⟩ := Option.bind_eq_some_iff.mp H
      refine J_callV (kc := 0) (ks := 0) (kc' := 0) (ks' := 0) (a := this) (ci := 12) (as := [.int p0, .int (1 : Int32), .int p1]) (st := []) (mf_Ref_breakAt hw) (mv_Ref_415 hw) d_Ref_lookAt_25 ln_Ref_breakAt (by decide) (by first | exact Nat.le_of_ble_eq_true rfl | (simp only [List.map_cons, List.map_nil, List.sum_cons, List.sum_nil, va_rf_cat]; exact Nat.le_of_ble_eq_true rfl)) rfl ((hG _).1 _ g19 (by decide)).1 ((hG _).1 _ g19 (by decide)).2 (by unfold pic; rw [g19]; rfl) (jcl_at hw rfl) rfl (p_Ref_breakAt hw hG hq57) ?_ (fun E h' n' x' e1 => by cases e1.1)
      intro v9 h9 n9 x9 e9
      obtain ⟨e91, e92, e93⟩ := e9
      cases e91
      subst e92
      subst e93
      clear x
      rename Bool => x
      show J _ _ _ _ [] _ _ _ _ _ _
      refine J_goto (tgt := 63) d_Ref_lookAt_28 (by decide) ?_
      refine J.drop [false, false, false, false, false, false, false, false, false, false, false] rfl ?_
      exact p_Ref_lookAt_L63 hw hG  H
theorem ln_Ref_goes : (parseMethodDescriptor y_Ref_goes.desc).map (fun q => q.parameters.length) = some 2 := by decide +kernel
def f_Ref_goes_L53 (Γ : gm_T)  (φ : ph_T) (y0 : Int32) : Option (Int32 × ph_T) :=
  @ite _ (y0 = 0 ∨ y0 = 1) _ (
  some (y0, φ)
  ) none
set_option maxRecDepth 100000 in
set_option maxHeartbeats 4000000 in
theorem p_Ref_goes_L53 {w : jw_T} (hw : jok w) {Γ : gm_T} {n : Nat} (hG : gd w Γ n)  {x : Bool} {φ : ph_T} {y0 : Int32} {q : Int32 × ph_T} (H : f_Ref_goes_L53 Γ  φ y0 = some q) : J w M_Ref_goes 53 [none, none, none] [.int y0] (pic Γ φ) n x 0 0 (fq Γ n (.inl (some (.int q.1))) q.2) := by
  unfold f_Ref_goes_L53 at H
  have z1 : y0 = 0 ∨ y0 = 1 := by
    apply Classical.byContradiction
    intro q9
    rw [if_neg q9] at H
    cases H
  rw [if_pos z1] at H
  cases H
  exact J_iret (st := []) d_Ref_goes_53 rfl (narrow_z z1).1 ⟨rfl, rfl, rfl⟩
def f_Ref_goes_L52 (Γ : gm_T)  (φ : ph_T) : Option (Int32 × ph_T) :=
  f_Ref_goes_L53 Γ  φ (0 : Int32)
set_option maxRecDepth 100000 in
set_option maxHeartbeats 4000000 in
theorem p_Ref_goes_L52 {w : jw_T} (hw : jok w) {Γ : gm_T} {n : Nat} (hG : gd w Γ n)  {x : Bool} {φ : ph_T} {q : Int32 × ph_T} (H : f_Ref_goes_L52 Γ  φ  = some q) : J w M_Ref_goes 52 [none, none, none] [] (pic Γ φ) n x 0 0 (fq Γ n (.inl (some (.int q.1))) q.2) := by
  unfold f_Ref_goes_L52 at H
  refine J_iconst (v := 0) d_Ref_goes_52 (by decide) ?_
  refine J.drop [false, false, false] rfl ?_
  exact p_Ref_goes_L53 hw hG  H
def f_Ref_goes_L26 (Γ : gm_T)  (φ : ph_T) : Option (Int32 × ph_T) :=
  f_Ref_goes_L53 Γ  φ (0 : Int32)
set_option maxRecDepth 100000 in
set_option maxHeartbeats 4000000 in
theorem p_Ref_goes_L26 {w : jw_T} (hw : jok w) {Γ : gm_T} {n : Nat} (hG : gd w Γ n)  {x : Bool} {φ : ph_T} {q : Int32 × ph_T} (H : f_Ref_goes_L26 Γ  φ  = some q) : J w M_Ref_goes 26 [none, none, none] [] (pic Γ φ) n x 0 0 (fq Γ n (.inl (some (.int q.1))) q.2) := by
  unfold f_Ref_goes_L26 at H
  refine J_iconst (v := 0) d_Ref_goes_26 (by decide) ?_
  refine J_goto (tgt := 53) d_Ref_goes_27 (by decide) ?_
  refine J.drop [false, false, false] rfl ?_
  exact p_Ref_goes_L53 hw hG  H
def f_Ref_goes (Γ : gm_T) (φ : ph_T) (this : Nat) (p0 : Int32) (p1 : Int32) : Option (Int32 × ph_T) :=
  if p1 = 0 then
    @ite _ (Γ this = .inr 12) _ (
    Option.bind (φ.2.2 this 33) fun a3 =>
    Option.bind (gA Γ a3 2) fun N4 =>
    Option.bind (ix p0 N4) fun k5 =>
    if (φ.1 a3 k5) = 0 then
      f_Ref_goes_L52 Γ  φ 
    else
      Option.bind (φ.2.2 this 34) fun a6 =>
      Option.bind (gA Γ a6 2) fun N7 =>
      Option.bind (ix p0 N7) fun k8 =>
      if (φ.1 a6 k8) = 0 then
        f_Ref_goes_L52 Γ  φ 
      else
        f_Ref_goes_L53 Γ  φ (1 : Int32)
    ) none
  else
    @ite _ (Γ this = .inr 12) _ (
    Option.bind (φ.2.2 this 98) fun a12 =>
    Option.bind (gA Γ a12 2) fun N13 =>
    Option.bind (ix p0 N13) fun k14 =>
    if (φ.1 a12 k14) = 0 then
      f_Ref_goes_L26 Γ  φ 
    else
      Option.bind (φ.2.2 this 99) fun a15 =>
      Option.bind (gA Γ a15 2) fun N16 =>
      Option.bind (ix p0 N16) fun k17 =>
      if (φ.1 a15 k17) = 0 then
        f_Ref_goes_L26 Γ  φ 
      else
        f_Ref_goes_L53 Γ  φ (1 : Int32)
    ) none
set_option maxRecDepth 100000 in
set_option maxHeartbeats 4000000 in
theorem p_Ref_goes {w : jw_T} (hw : jok w) {Γ : gm_T} {n : Nat} (hG : gd w Γ n) {x : Bool} {φ : ph_T} {this : Nat} {p0 : Int32} {p1 : Int32} {q : Int32 × ph_T} (H : f_Ref_goes Γ φ this p0 p1 = some q) : jc w M_Ref_goes [.ref this, .int p0, .int p1] (pic Γ φ) n x 0 0 (fq Γ n (.inl (some (.int q.1))) q.2) := by
  refine jc.of (by simp only [jent_r, jent_i, jent_l, jent_a, jent_0]; exact Nat.le_of_ble_eq_true rfl) ?_
  have hls : jents [.ref this, .int p0, .int p1] (jm_nL M_Ref_goes) = [some (.ref this), some (.int p0), some (.int p1)] := by simp only [jents, jent_r, jent_i, jent_l, jent_a, jent_0]; rfl
  rw [hls]
  clear hls
  unfold f_Ref_goes at H
  refine J_iload_n d_Ref_goes_0 rfl ?_
  refine J_if_eq (tgt := 30) d_Ref_goes_1 (by decide) ?_ ?_
  · intro c20
    rw [if_pos c20] at H
    refine J_aload_n d_Ref_goes_30 rfl ?_
    have g2 : Γ this = .inr 12 := by
      apply Classical.byContradiction
      intro q9
      rw [if_neg q9] at H
      cases H
    rw [if_pos g2] at H
    refine F_getR (ci := 12) (k := 33) hG (cf_Ref hw) (fl_Ref_88 hw) (by decide) (by decide) rfl d_Ref_goes_31 g2 ?_
    refine J_iload_n d_Ref_goes_34 rfl ?_
    obtain ⟨a3, ha3, H⟩ := Option.bind_eq_some_iff.mp H
    rw [j_rf ha3]
    obtain ⟨N4, hN4, H⟩ := Option.bind_eq_some_iff.mp H
    obtain ⟨k5, hk5, H⟩ := Option.bind_eq_some_iff.mp H
    refine F_zald k5 hw hG d_Ref_goes_35 (gA_some hN4) (ix_some hk5) ?_
    refine J_if_eq (tgt := 52) d_Ref_goes_36 (by decide) ?_ ?_
    · intro c10
      rw [if_pos c10] at H
      refine J.drop [false, false, false] rfl ?_
      exact p_Ref_goes_L52 hw hG  H
    · intro c10
      rw [if_neg c10] at H
      refine J_aload_n d_Ref_goes_39 rfl ?_
      refine F_getR (ci := 12) (k := 34) hG (cf_Ref hw) (fl_Ref_91 hw) (by decide) (by decide) rfl d_Ref_goes_40 g2 ?_
      refine J_iload_n d_Ref_goes_43 rfl ?_
      obtain ⟨a6, ha6, H⟩ := Option.bind_eq_some_iff.mp H
      rw [j_rf ha6]
      obtain ⟨N7, hN7, H⟩ := Option.bind_eq_some_iff.mp H
      obtain ⟨k8, hk8, H⟩ := Option.bind_eq_some_iff.mp H
      refine F_zald k8 hw hG d_Ref_goes_44 (gA_some hN7) (ix_some hk8) ?_
      refine J_if_eq (tgt := 52) d_Ref_goes_45 (by decide) ?_ ?_
      · intro c9
        rw [if_pos c9] at H
        refine J.drop [false, false, false] rfl ?_
        exact p_Ref_goes_L52 hw hG  H
      · intro c9
        rw [if_neg c9] at H
        refine J_iconst (v := 1) d_Ref_goes_48 (by decide) ?_
        refine J_goto (tgt := 53) d_Ref_goes_49 (by decide) ?_
        refine J.drop [false, false, false] rfl ?_
        exact p_Ref_goes_L53 hw hG  H
  · intro c20
    rw [if_neg c20] at H
    refine J_aload_n d_Ref_goes_4 rfl ?_
    have g11 : Γ this = .inr 12 := by
      apply Classical.byContradiction
      intro q9
      rw [if_neg q9] at H
      cases H
    rw [if_pos g11] at H
    refine F_getR (ci := 12) (k := 98) hG (cf_Ref hw) (fl_Ref_274 hw) (by decide) (by decide) rfl d_Ref_goes_5 g11 ?_
    refine J_iload_n d_Ref_goes_8 rfl ?_
    obtain ⟨a12, ha12, H⟩ := Option.bind_eq_some_iff.mp H
    rw [j_rf ha12]
    obtain ⟨N13, hN13, H⟩ := Option.bind_eq_some_iff.mp H
    obtain ⟨k14, hk14, H⟩ := Option.bind_eq_some_iff.mp H
    refine F_zald k14 hw hG d_Ref_goes_9 (gA_some hN13) (ix_some hk14) ?_
    refine J_if_eq (tgt := 26) d_Ref_goes_10 (by decide) ?_ ?_
    · intro c19
      rw [if_pos c19] at H
      refine J.drop [false, false, false] rfl ?_
      exact p_Ref_goes_L26 hw hG  H
    · intro c19
      rw [if_neg c19] at H
      refine J_aload_n d_Ref_goes_13 rfl ?_
      refine F_getR (ci := 12) (k := 99) hG (cf_Ref hw) (fl_Ref_277 hw) (by decide) (by decide) rfl d_Ref_goes_14 g11 ?_
      refine J_iload_n d_Ref_goes_17 rfl ?_
      obtain ⟨a15, ha15, H⟩ := Option.bind_eq_some_iff.mp H
      rw [j_rf ha15]
      obtain ⟨N16, hN16, H⟩ := Option.bind_eq_some_iff.mp H
      obtain ⟨k17, hk17, H⟩ := Option.bind_eq_some_iff.mp H
      refine F_zald k17 hw hG d_Ref_goes_18 (gA_some hN16) (ix_some hk17) ?_
      refine J_if_eq (tgt := 26) d_Ref_goes_19 (by decide) ?_ ?_
      · intro c18
        rw [if_pos c18] at H
        refine J.drop [false, false, false] rfl ?_
        exact p_Ref_goes_L26 hw hG  H
      · intro c18
        rw [if_neg c18] at H
        refine J_iconst (v := 1) d_Ref_goes_22 (by decide) ?_
        refine J_goto (tgt := 53) d_Ref_goes_23 (by decide) ?_
        refine J.drop [false, false, false] rfl ?_
        exact p_Ref_goes_L53 hw hG  H
theorem ln_Ref_dropWrite : (parseMethodDescriptor y_Ref_dropWrite.desc).map (fun q => q.parameters.length) = some 2 := by decide +kernel
def f_Ref_dropWrite_L86 (Γ : gm_T) (Kc12 : ph_T → Nat → Int32 → Int32 → Option (Unit × ph_T)) : Nat → ph_T → Nat → Int32 → Int32 → Int32 → Option (Unit × ph_T)
  | 0, _, _, _, _, _ => none
  | fu + 1, φ, x0, x1, x3, x4 =>
    if (16 : Int32) ≤ x4 then
      Kc12 φ x0 x1 (x3 + (1 : Int32))
    else
      @ite _ (Γ x0 = .inr 12) _ (
      Option.bind (φ.2.2 x0 95) fun a2 =>
      Option.bind (gA Γ a2 0) fun N3 =>
      Option.bind (ix ((((16 : Int32) * x3) + (16 : Int32)) + x4) N3) fun k4 =>
      Option.bind (gA Γ a2 0) fun N5 =>
      Option.bind (ix (((16 : Int32) * x3) + x4) N5) fun k6 =>
      (f_Ref_dropWrite_L86 Γ Kc12 fu) (uI φ a2 k6 (φ.1 a2 k4)) x0 x1 x3 (x4 + (1 : Int32))
      ) none
set_option maxRecDepth 100000 in
set_option maxHeartbeats 4000000 in
theorem p_Ref_dropWrite_L86 {w : jw_T} (hw : jok w) {Γ : gm_T} {n : Nat} (hG : gd w Γ n) {Kc12 : ph_T → Nat → Int32 → Int32 → Option (Unit × ph_T)} (hKc12 : ∀ {x : Bool} {φ : ph_T} {x0 : Nat} {x1 : Int32} {x3 : Int32} {q : Unit × ph_T}, Kc12 φ x0 x1 x3 = some q → J w M_Ref_dropWrite 12 [some (.ref x0), some (.int x1), none, some (.int x3), none] [] (pic Γ φ) n x 0 0 (fq Γ n (.inl none) q.2)) : ∀ (fu : Nat) {x : Bool} {φ : ph_T} {x0 : Nat} {x1 : Int32} {x3 : Int32} {x4 : Int32} {q : Unit × ph_T}, f_Ref_dropWrite_L86 Γ Kc12 fu φ x0 x1 x3 x4 = some q → J w M_Ref_dropWrite 86 [some (.ref x0), some (.int x1), none, some (.int x3), some (.int x4)] [] (pic Γ φ) n x 0 0 (fq Γ n (.inl none) q.2) := by
  intro fu
  induction fu with
  | zero =>
    intro x φ x0 x1 x3 x4 q H
    cases H
  | succ fu ih =>
    intro x φ x0 x1 x3 x4 q H
    unfold f_Ref_dropWrite_L86 at H
    refine J_iload d_Ref_dropWrite_86 rfl ?_
    refine J_bipush (v := 16) d_Ref_dropWrite_88 (by decide) ?_
    refine J_icmp_ge (tgt := 126) d_Ref_dropWrite_90 (by decide) ?_ ?_
    · intro c7
      rw [if_pos c7] at H
      refine J_iinc (v := x3 + 1) d_Ref_dropWrite_126 rfl (by rw [show Int32.ofInt 1 = (1 : Int32) from by decide]) ?_
      refine J_goto (tgt := 12) d_Ref_dropWrite_129 (by decide) ?_
      refine J.drop [true, true, false, true, false] rfl ?_
      exact hKc12 H
    · intro c7
      rw [if_neg c7] at H
      refine J_aload_n d_Ref_dropWrite_93 rfl ?_
      have g1 : Γ x0 = .inr 12 := by
        apply Classical.byContradiction
        intro q9
        rw [if_neg q9] at H
        cases H
      rw [if_pos g1] at H
      refine F_getR (ci := 12) (k := 95) hG (cf_Ref hw) (fl_Ref_265 hw) (by decide) (by decide) rfl d_Ref_dropWrite_94 g1 ?_
      refine J_bipush (v := 16) d_Ref_dropWrite_97 (by decide) ?_
      refine J_iload_n d_Ref_dropWrite_99 rfl ?_
      refine J_imul d_Ref_dropWrite_100 ?_
      refine J_iload d_Ref_dropWrite_101 rfl ?_
      refine J_iadd d_Ref_dropWrite_103 ?_
      refine J_aload_n d_Ref_dropWrite_104 rfl ?_
      refine F_getR (ci := 12) (k := 95) hG (cf_Ref hw) (fl_Ref_265 hw) (by decide) (by decide) rfl d_Ref_dropWrite_105 g1 ?_
      refine J_bipush (v := 16) d_Ref_dropWrite_108 (by decide) ?_
      refine J_iload_n d_Ref_dropWrite_110 rfl ?_
      refine J_imul d_Ref_dropWrite_111 ?_
      refine J_bipush (v := 16) d_Ref_dropWrite_112 (by decide) ?_
      refine J_iadd d_Ref_dropWrite_114 ?_
      refine J_iload d_Ref_dropWrite_115 rfl ?_
      refine J_iadd d_Ref_dropWrite_117 ?_
      obtain ⟨a2, ha2, H⟩ := Option.bind_eq_some_iff.mp H
      rw [j_rf ha2]
      obtain ⟨N3, hN3, H⟩ := Option.bind_eq_some_iff.mp H
      obtain ⟨k4, hk4, H⟩ := Option.bind_eq_some_iff.mp H
      refine F_iald k4 hw hG d_Ref_dropWrite_118 (gA_some hN3) (ix_some hk4) ?_
      obtain ⟨N5, hN5, H⟩ := Option.bind_eq_some_iff.mp H
      obtain ⟨k6, hk6, H⟩ := Option.bind_eq_some_iff.mp H
      refine F_iast k6 hw hG d_Ref_dropWrite_119 (gA_some hN5) (ix_some hk6) ?_
      refine J_iinc (v := x4 + 1) d_Ref_dropWrite_120 rfl (by rw [show Int32.ofInt 1 = (1 : Int32) from by decide]) ?_
      refine J_goto (tgt := 86) d_Ref_dropWrite_123 (by decide) ?_
      refine J.drop [true, true, false, true, true] rfl ?_
      exact ih H
def f_Ref_dropWrite_L12 (Γ : gm_T)  : Nat → ph_T → Nat → Int32 → Int32 → Option (Unit × ph_T)
  | 0, _, _, _, _ => none
  | fu + 1, φ, x0, x1, x3 =>
    @ite _ (Γ x0 = .inr 12) _ (
    Option.bind (φ.2.2 x0 89) fun a9 =>
    Option.bind (gA Γ a9 0) fun N10 =>
    Option.bind (ix x1 N10) fun k11 =>
    if (((16 : Int32) * x1) + (φ.1 a9 k11)) ≤ x3 then
      some ((), φ)
    else
      Option.bind (φ.2.2 x0 91) fun a12 =>
      Option.bind (gA Γ a12 2) fun N13 =>
      Option.bind (ix (x3 + (1 : Int32)) N13) fun k14 =>
      Option.bind (gA Γ a12 2) fun N15 =>
      Option.bind (ix x3 N15) fun k16 =>
      @ite _ ((φ.1 a12 k14) = 0 ∨ (φ.1 a12 k14) = 1) _ (
      Option.bind ((uI φ a12 k16 (φ.1 a12 k14)).2.2 x0 92) fun a18 =>
      Option.bind (gA Γ a18 1) fun N19 =>
      Option.bind (ix (x3 + (1 : Int32)) N19) fun k20 =>
      Option.bind (gA Γ a18 1) fun N21 =>
      Option.bind (ix x3 N21) fun k22 =>
      Option.bind ((uL (uI φ a12 k16 (φ.1 a12 k14)) a18 k22 ((uI φ a12 k16 (φ.1 a12 k14)).2.1 a18 k20)).2.2 x0 93) fun a23 =>
      Option.bind (gA Γ a23 0) fun N24 =>
      Option.bind (ix (x3 + (1 : Int32)) N24) fun k25 =>
      Option.bind (gA Γ a23 0) fun N26 =>
      Option.bind (ix x3 N26) fun k27 =>
      Option.bind ((uI (uL (uI φ a12 k16 (φ.1 a12 k14)) a18 k22 ((uI φ a12 k16 (φ.1 a12 k14)).2.1 a18 k20)) a23 k27 ((uL (uI φ a12 k16 (φ.1 a12 k14)) a18 k22 ((uI φ a12 k16 (φ.1 a12 k14)).2.1 a18 k20)).1 a23 k25)).2.2 x0 94) fun a28 =>
      Option.bind (gA Γ a28 2) fun N29 =>
      Option.bind (ix (x3 + (1 : Int32)) N29) fun k30 =>
      Option.bind (gA Γ a28 2) fun N31 =>
      Option.bind (ix x3 N31) fun k32 =>
      @ite _ (((uI (uL (uI φ a12 k16 (φ.1 a12 k14)) a18 k22 ((uI φ a12 k16 (φ.1 a12 k14)).2.1 a18 k20)) a23 k27 ((uL (uI φ a12 k16 (φ.1 a12 k14)) a18 k22 ((uI φ a12 k16 (φ.1 a12 k14)).2.1 a18 k20)).1 a23 k25)).1 a28 k30) = 0 ∨ ((uI (uL (uI φ a12 k16 (φ.1 a12 k14)) a18 k22 ((uI φ a12 k16 (φ.1 a12 k14)).2.1 a18 k20)) a23 k27 ((uL (uI φ a12 k16 (φ.1 a12 k14)) a18 k22 ((uI φ a12 k16 (φ.1 a12 k14)).2.1 a18 k20)).1 a23 k25)).1 a28 k30) = 1) _ (
      f_Ref_dropWrite_L86 Γ (f_Ref_dropWrite_L12 Γ  fu) jF (uI (uI (uL (uI φ a12 k16 (φ.1 a12 k14)) a18 k22 ((uI φ a12 k16 (φ.1 a12 k14)).2.1 a18 k20)) a23 k27 ((uL (uI φ a12 k16 (φ.1 a12 k14)) a18 k22 ((uI φ a12 k16 (φ.1 a12 k14)).2.1 a18 k20)).1 a23 k25)) a28 k32 ((uI (uL (uI φ a12 k16 (φ.1 a12 k14)) a18 k22 ((uI φ a12 k16 (φ.1 a12 k14)).2.1 a18 k20)) a23 k27 ((uL (uI φ a12 k16 (φ.1 a12 k14)) a18 k22 ((uI φ a12 k16 (φ.1 a12 k14)).2.1 a18 k20)).1 a23 k25)).1 a28 k30)) x0 x1 x3 (0 : Int32)
      ) none
      ) none
    ) none
set_option maxRecDepth 100000 in
set_option maxHeartbeats 4000000 in
theorem p_Ref_dropWrite_L12 {w : jw_T} (hw : jok w) {Γ : gm_T} {n : Nat} (hG : gd w Γ n)  : ∀ (fu : Nat) {x : Bool} {φ : ph_T} {x0 : Nat} {x1 : Int32} {x3 : Int32} {q : Unit × ph_T}, f_Ref_dropWrite_L12 Γ  fu φ x0 x1 x3 = some q → J w M_Ref_dropWrite 12 [some (.ref x0), some (.int x1), none, some (.int x3), none] [] (pic Γ φ) n x 0 0 (fq Γ n (.inl none) q.2) := by
  intro fu
  induction fu with
  | zero =>
    intro x φ x0 x1 x3 q H
    cases H
  | succ fu ih =>
    intro x φ x0 x1 x3 q H
    unfold f_Ref_dropWrite_L12 at H
    refine J_iload_n d_Ref_dropWrite_12 rfl ?_
    refine J_bipush (v := 16) d_Ref_dropWrite_13 (by decide) ?_
    refine J_iload_n d_Ref_dropWrite_15 rfl ?_
    refine J_imul d_Ref_dropWrite_16 ?_
    refine J_aload_n d_Ref_dropWrite_17 rfl ?_
    have g8 : Γ x0 = .inr 12 := by
      apply Classical.byContradiction
      intro q9
      rw [if_neg q9] at H
      cases H
    rw [if_pos g8] at H
    refine F_getR (ci := 12) (k := 89) hG (cf_Ref hw) (fl_Ref_247 hw) (by decide) (by decide) rfl d_Ref_dropWrite_18 g8 ?_
    refine J_iload_n d_Ref_dropWrite_21 rfl ?_
    obtain ⟨a9, ha9, H⟩ := Option.bind_eq_some_iff.mp H
    rw [j_rf ha9]
    obtain ⟨N10, hN10, H⟩ := Option.bind_eq_some_iff.mp H
    obtain ⟨k11, hk11, H⟩ := Option.bind_eq_some_iff.mp H
    refine F_iald k11 hw hG d_Ref_dropWrite_22 (gA_some hN10) (ix_some hk11) ?_
    refine J_iadd d_Ref_dropWrite_23 ?_
    refine J_icmp_ge (tgt := 132) d_Ref_dropWrite_24 (by decide) ?_ ?_
    · intro c34
      rw [if_pos c34] at H
      cases H
      exact J_vret (st := []) d_Ref_dropWrite_132 rfl ⟨rfl, rfl, rfl⟩
    · intro c34
      rw [if_neg c34] at H
      refine J_aload_n d_Ref_dropWrite_27 rfl ?_
      refine F_getR (ci := 12) (k := 91) hG (cf_Ref hw) (fl_Ref_253 hw) (by decide) (by decide) rfl d_Ref_dropWrite_28 g8 ?_
      refine J_iload_n d_Ref_dropWrite_31 rfl ?_
      refine J_aload_n d_Ref_dropWrite_32 rfl ?_
      refine F_getR (ci := 12) (k := 91) hG (cf_Ref hw) (fl_Ref_253 hw) (by decide) (by decide) rfl d_Ref_dropWrite_33 g8 ?_
      refine J_iload_n d_Ref_dropWrite_36 rfl ?_
      refine J_iconst (v := 1) d_Ref_dropWrite_37 (by decide) ?_
      refine J_iadd d_Ref_dropWrite_38 ?_
      obtain ⟨a12, ha12, H⟩ := Option.bind_eq_some_iff.mp H
      rw [j_rf ha12]
      obtain ⟨N13, hN13, H⟩ := Option.bind_eq_some_iff.mp H
      obtain ⟨k14, hk14, H⟩ := Option.bind_eq_some_iff.mp H
      refine F_zald k14 hw hG d_Ref_dropWrite_39 (gA_some hN13) (ix_some hk14) ?_
      obtain ⟨N15, hN15, H⟩ := Option.bind_eq_some_iff.mp H
      obtain ⟨k16, hk16, H⟩ := Option.bind_eq_some_iff.mp H
      have z17 : (φ.1 a12 k14) = 0 ∨ (φ.1 a12 k14) = 1 := by
        apply Classical.byContradiction
        intro q9
        rw [if_neg q9] at H
        cases H
      rw [if_pos z17] at H
      refine F_zast k16 hw hG d_Ref_dropWrite_40 (gA_some hN15) (ix_some hk16) z17 ?_
      refine J_aload_n d_Ref_dropWrite_41 rfl ?_
      refine F_getR (ci := 12) (k := 92) hG (cf_Ref hw) (fl_Ref_256 hw) (by decide) (by decide) rfl d_Ref_dropWrite_42 g8 ?_
      refine J_iload_n d_Ref_dropWrite_45 rfl ?_
      refine J_aload_n d_Ref_dropWrite_46 rfl ?_
      refine F_getR (ci := 12) (k := 92) hG (cf_Ref hw) (fl_Ref_256 hw) (by decide) (by decide) rfl d_Ref_dropWrite_47 g8 ?_
      refine J_iload_n d_Ref_dropWrite_50 rfl ?_
      refine J_iconst (v := 1) d_Ref_dropWrite_51 (by decide) ?_
      refine J_iadd d_Ref_dropWrite_52 ?_
      obtain ⟨a18, ha18, H⟩ := Option.bind_eq_some_iff.mp H
      rw [j_rf ha18]
      obtain ⟨N19, hN19, H⟩ := Option.bind_eq_some_iff.mp H
      obtain ⟨k20, hk20, H⟩ := Option.bind_eq_some_iff.mp H
      refine F_lald k20 hw hG d_Ref_dropWrite_53 (gA_some hN19) (ix_some hk20) ?_
      obtain ⟨N21, hN21, H⟩ := Option.bind_eq_some_iff.mp H
      obtain ⟨k22, hk22, H⟩ := Option.bind_eq_some_iff.mp H
      refine F_last k22 hw hG d_Ref_dropWrite_54 (gA_some hN21) (ix_some hk22) ?_
      refine J_aload_n d_Ref_dropWrite_55 rfl ?_
      refine F_getR (ci := 12) (k := 93) hG (cf_Ref hw) (fl_Ref_259 hw) (by decide) (by decide) rfl d_Ref_dropWrite_56 g8 ?_
      refine J_iload_n d_Ref_dropWrite_59 rfl ?_
      refine J_aload_n d_Ref_dropWrite_60 rfl ?_
      refine F_getR (ci := 12) (k := 93) hG (cf_Ref hw) (fl_Ref_259 hw) (by decide) (by decide) rfl d_Ref_dropWrite_61 g8 ?_
      refine J_iload_n d_Ref_dropWrite_64 rfl ?_
      refine J_iconst (v := 1) d_Ref_dropWrite_65 (by decide) ?_
      refine J_iadd d_Ref_dropWrite_66 ?_
      obtain ⟨a23, ha23, H⟩ := Option.bind_eq_some_iff.mp H
      rw [j_rf ha23]
      obtain ⟨N24, hN24, H⟩ := Option.bind_eq_some_iff.mp H
      obtain ⟨k25, hk25, H⟩ := Option.bind_eq_some_iff.mp H
      refine F_iald k25 hw hG d_Ref_dropWrite_67 (gA_some hN24) (ix_some hk25) ?_
      obtain ⟨N26, hN26, H⟩ := Option.bind_eq_some_iff.mp H
      obtain ⟨k27, hk27, H⟩ := Option.bind_eq_some_iff.mp H
      refine F_iast k27 hw hG d_Ref_dropWrite_68 (gA_some hN26) (ix_some hk27) ?_
      refine J_aload_n d_Ref_dropWrite_69 rfl ?_
      refine F_getR (ci := 12) (k := 94) hG (cf_Ref hw) (fl_Ref_262 hw) (by decide) (by decide) rfl d_Ref_dropWrite_70 g8 ?_
      refine J_iload_n d_Ref_dropWrite_73 rfl ?_
      refine J_aload_n d_Ref_dropWrite_74 rfl ?_
      refine F_getR (ci := 12) (k := 94) hG (cf_Ref hw) (fl_Ref_262 hw) (by decide) (by decide) rfl d_Ref_dropWrite_75 g8 ?_
      refine J_iload_n d_Ref_dropWrite_78 rfl ?_
      refine J_iconst (v := 1) d_Ref_dropWrite_79 (by decide) ?_
      refine J_iadd d_Ref_dropWrite_80 ?_
      obtain ⟨a28, ha28, H⟩ := Option.bind_eq_some_iff.mp H
      rw [j_rf ha28]
      obtain ⟨N29, hN29, H⟩ := Option.bind_eq_some_iff.mp H
      obtain ⟨k30, hk30, H⟩ := Option.bind_eq_some_iff.mp H
      refine F_zald k30 hw hG d_Ref_dropWrite_81 (gA_some hN29) (ix_some hk30) ?_
      obtain ⟨N31, hN31, H⟩ := Option.bind_eq_some_iff.mp H
      obtain ⟨k32, hk32, H⟩ := Option.bind_eq_some_iff.mp H
      have z33 : ((uI (uL (uI φ a12 k16 (φ.1 a12 k14)) a18 k22 ((uI φ a12 k16 (φ.1 a12 k14)).2.1 a18 k20)) a23 k27 ((uL (uI φ a12 k16 (φ.1 a12 k14)) a18 k22 ((uI φ a12 k16 (φ.1 a12 k14)).2.1 a18 k20)).1 a23 k25)).1 a28 k30) = 0 ∨ ((uI (uL (uI φ a12 k16 (φ.1 a12 k14)) a18 k22 ((uI φ a12 k16 (φ.1 a12 k14)).2.1 a18 k20)) a23 k27 ((uL (uI φ a12 k16 (φ.1 a12 k14)) a18 k22 ((uI φ a12 k16 (φ.1 a12 k14)).2.1 a18 k20)).1 a23 k25)).1 a28 k30) = 1 := by
        apply Classical.byContradiction
        intro q9
        rw [if_neg q9] at H
        cases H
      rw [if_pos z33] at H
      refine F_zast k32 hw hG d_Ref_dropWrite_82 (gA_some hN31) (ix_some hk32) z33 ?_
      refine J_iconst (v := 0) d_Ref_dropWrite_83 (by decide) ?_
      refine J_istore d_Ref_dropWrite_84 (Nat.le_of_ble_eq_true rfl) ?_
      refine J.drop [true, true, false, true, true] rfl ?_
      exact p_Ref_dropWrite_L86 hw hG ih _ H
def f_Ref_dropWrite (Γ : gm_T) (φ : ph_T) (this : Nat) (p0 : Int32) (p1 : Int32) : Option (Unit × ph_T) :=
  @ite _ (Γ this = .inr 12) _ (
  Option.bind (φ.2.2 this 89) fun a36 =>
  Option.bind (gA Γ a36 0) fun N37 =>
  Option.bind (ix p0 N37) fun k38 =>
  Option.bind (gA Γ a36 0) fun N39 =>
  Option.bind (ix p0 N39) fun k40 =>
  f_Ref_dropWrite_L12 Γ  jF (uI φ a36 k40 ((φ.1 a36 k38) - (1 : Int32))) this p0 p1
  ) none
set_option maxRecDepth 100000 in
set_option maxHeartbeats 4000000 in
theorem p_Ref_dropWrite {w : jw_T} (hw : jok w) {Γ : gm_T} {n : Nat} (hG : gd w Γ n) {x : Bool} {φ : ph_T} {this : Nat} {p0 : Int32} {p1 : Int32} {q : Unit × ph_T} (H : f_Ref_dropWrite Γ φ this p0 p1 = some q) : jc w M_Ref_dropWrite [.ref this, .int p0, .int p1] (pic Γ φ) n x 0 0 (fq Γ n (.inl none) q.2) := by
  refine jc.of (by simp only [jent_r, jent_i, jent_l, jent_a, jent_0]; exact Nat.le_of_ble_eq_true rfl) ?_
  have hls : jents [.ref this, .int p0, .int p1] (jm_nL M_Ref_dropWrite) = [some (.ref this), some (.int p0), some (.int p1), none, none] := by simp only [jents, jent_r, jent_i, jent_l, jent_a, jent_0]; rfl
  rw [hls]
  clear hls
  unfold f_Ref_dropWrite at H
  refine J_aload_n d_Ref_dropWrite_0 rfl ?_
  have g35 : Γ this = .inr 12 := by
    apply Classical.byContradiction
    intro q9
    rw [if_neg q9] at H
    cases H
  rw [if_pos g35] at H
  refine F_getR (ci := 12) (k := 89) hG (cf_Ref hw) (fl_Ref_247 hw) (by decide) (by decide) rfl d_Ref_dropWrite_1 g35 ?_
  refine J_iload_n d_Ref_dropWrite_4 rfl ?_
  refine J_dup2 d_Ref_dropWrite_5 rfl (va_rf_cat _) ?_
  obtain ⟨a36, ha36, H⟩ := Option.bind_eq_some_iff.mp H
  rw [j_rf ha36]
  obtain ⟨N37, hN37, H⟩ := Option.bind_eq_some_iff.mp H
  obtain ⟨k38, hk38, H⟩ := Option.bind_eq_some_iff.mp H
  refine F_iald k38 hw hG d_Ref_dropWrite_6 (gA_some hN37) (ix_some hk38) ?_
  refine J_iconst (v := 1) d_Ref_dropWrite_7 (by decide) ?_
  refine J_isub d_Ref_dropWrite_8 ?_
  obtain ⟨N39, hN39, H⟩ := Option.bind_eq_some_iff.mp H
  obtain ⟨k40, hk40, H⟩ := Option.bind_eq_some_iff.mp H
  refine F_iast k40 hw hG d_Ref_dropWrite_9 (gA_some hN39) (ix_some hk40) ?_
  refine J_iload_n d_Ref_dropWrite_10 rfl ?_
  refine J_istore_n d_Ref_dropWrite_11 (Nat.le_of_ble_eq_true rfl) ?_
  refine J.drop [true, true, false, true, false] rfl ?_
  exact p_Ref_dropWrite_L12 hw hG  _ H
theorem ln_Ref_goB : (parseMethodDescriptor y_Ref_goB.desc).map (fun q => q.parameters.length) = some 2 := by decide +kernel
def f_Ref_goB_L18 (Γ : gm_T)  (φ : ph_T) : Option (Unit × ph_T) :=
  some ((), φ)
set_option maxRecDepth 100000 in
set_option maxHeartbeats 4000000 in
theorem p_Ref_goB_L18 {w : jw_T} (hw : jok w) {Γ : gm_T} {n : Nat} (hG : gd w Γ n)  {x : Bool} {φ : ph_T} {q : Unit × ph_T} (H : f_Ref_goB_L18 Γ  φ  = some q) : J w M_Ref_goB 18 [none, none, none, none] [] (pic Γ φ) n x 0 0 (fq Γ n (.inl none) q.2) := by
  unfold f_Ref_goB_L18 at H
  cases H
  exact J_vret (st := []) d_Ref_goB_18 rfl ⟨rfl, rfl, rfl⟩
def f_Ref_goB (Γ : gm_T) (φ : ph_T) (this : Nat) (p0 : Int32) (p1 : Int32) : Option (Unit × ph_T) :=
  @ite _ (Γ this = .inr 12) _ (
  Option.bind (f_Ref_monitoredWrite Γ φ this p0 p1) fun q2 =>
  if q2.1 = (-1 : Int32) then
    f_Ref_goB_L18 Γ  q2.2 
  else
    Option.bind (f_Ref_dropWrite Γ q2.2 this p0 q2.1) fun q3 =>
    f_Ref_goB_L18 Γ  q3.2 
  ) none
set_option maxRecDepth 100000 in
set_option maxHeartbeats 4000000 in
theorem p_Ref_goB {w : jw_T} (hw : jok w) {Γ : gm_T} {n : Nat} (hG : gd w Γ n) {x : Bool} {φ : ph_T} {this : Nat} {p0 : Int32} {p1 : Int32} {q : Unit × ph_T} (H : f_Ref_goB Γ φ this p0 p1 = some q) : jc w M_Ref_goB [.ref this, .int p0, .int p1] (pic Γ φ) n x 0 0 (fq Γ n (.inl none) q.2) := by
  refine jc.of (by simp only [jent_r, jent_i, jent_l, jent_a, jent_0]; exact Nat.le_of_ble_eq_true rfl) ?_
  have hls : jents [.ref this, .int p0, .int p1] (jm_nL M_Ref_goB) = [some (.ref this), some (.int p0), some (.int p1), none] := by simp only [jents, jent_r, jent_i, jent_l, jent_a, jent_0]; rfl
  rw [hls]
  clear hls
  unfold f_Ref_goB at H
  refine J_aload_n d_Ref_goB_0 rfl ?_
  refine J_iload_n d_Ref_goB_1 rfl ?_
  refine J_iload_n d_Ref_goB_2 rfl ?_
  have g1 : Γ this = .inr 12 := by
    apply Classical.byContradiction
    intro q9
    rw [if_neg q9] at H
    cases H
  rw [if_pos g1] at H
  obtain ⟨q2, hq2, H⟩ := Option.bind_eq_some_iff.mp H
  refine J_callV (kc := 0) (ks := 0) (kc' := 0) (ks' := 0) (a := this) (ci := 12) (as := [.int p0, .int p1]) (st := []) (mf_Ref_monitoredWrite hw) (mv_Ref_422 hw) d_Ref_goB_3 ln_Ref_monitoredWrite (by decide) (by first | exact Nat.le_of_ble_eq_true rfl | (simp only [List.map_cons, List.map_nil, List.sum_cons, List.sum_nil, va_rf_cat]; exact Nat.le_of_ble_eq_true rfl)) rfl ((hG _).1 _ g1 (by decide)).1 ((hG _).1 _ g1 (by decide)).2 (by unfold pic; rw [g1]; rfl) (jcl_at hw rfl) rfl (p_Ref_monitoredWrite hw hG hq2) ?_ (fun E h' n' x' e1 => by cases e1.1)
  intro v9 h9 n9 x9 e9
  obtain ⟨e91, e92, e93⟩ := e9
  cases e91
  subst e92
  subst e93
  clear x
  rename Bool => x
  show J _ _ _ _ (_ :: _) _ _ _ _ _ _
  refine J_istore_n d_Ref_goB_6 (Nat.le_of_ble_eq_true rfl) ?_
  refine J_iload_n d_Ref_goB_7 rfl ?_
  refine J_iconst (v := -1) d_Ref_goB_8 (by decide) ?_
  refine J_icmp_eq (tgt := 18) d_Ref_goB_9 (by decide) ?_ ?_
  · intro c4
    rw [if_pos c4] at H
    refine J.drop [false, false, false, false] rfl ?_
    exact p_Ref_goB_L18 hw hG  H
  · intro c4
    rw [if_neg c4] at H
    refine J_aload_n d_Ref_goB_12 rfl ?_
    refine J_iload_n d_Ref_goB_13 rfl ?_
    refine J_iload_n d_Ref_goB_14 rfl ?_
    obtain ⟨q3, hq3, H⟩ := Option.bind_eq_some_iff.mp H
    refine J_callV (kc := 0) (ks := 0) (kc' := 0) (ks' := 0) (a := this) (ci := 12) (as := [.int p0, .int q2.1]) (st := []) (mf_Ref_dropWrite hw) (mv_Ref_428 hw) d_Ref_goB_15 ln_Ref_dropWrite (by decide) (by first | exact Nat.le_of_ble_eq_true rfl | (simp only [List.map_cons, List.map_nil, List.sum_cons, List.sum_nil, va_rf_cat]; exact Nat.le_of_ble_eq_true rfl)) rfl ((hG _).1 _ g1 (by decide)).1 ((hG _).1 _ g1 (by decide)).2 (by unfold pic; rw [g1]; rfl) (jcl_at hw rfl) rfl (p_Ref_dropWrite hw hG hq3) ?_ (fun E h' n' x' e1 => by cases e1.1)
    intro v9 h9 n9 x9 e9
    obtain ⟨e91, e92, e93⟩ := e9
    cases e91
    subst e92
    subst e93
    clear x
    rename Bool => x
    show J _ _ _ _ [] _ _ _ _ _ _
    refine J.drop [false, false, false, false] rfl ?_
    exact p_Ref_goB_L18 hw hG  H
theorem ln_Ref_dropRead : (parseMethodDescriptor y_Ref_dropRead.desc).map (fun q => q.parameters.length) = some 2 := by decide +kernel
def f_Ref_dropRead_L12 (Γ : gm_T)  : Nat → ph_T → Nat → Int32 → Int32 → Option (Unit × ph_T)
  | 0, _, _, _, _ => none
  | fu + 1, φ, x0, x1, x3 =>
    @ite _ (Γ x0 = .inr 12) _ (
    Option.bind (φ.2.2 x0 90) fun a2 =>
    Option.bind (gA Γ a2 0) fun N3 =>
    Option.bind (ix x1 N3) fun k4 =>
    if (((16 : Int32) * x1) + (φ.1 a2 k4)) ≤ x3 then
      some ((), φ)
    else
      Option.bind (φ.2.2 x0 96) fun a5 =>
      Option.bind (gA Γ a5 1) fun N6 =>
      Option.bind (ix (x3 + (1 : Int32)) N6) fun k7 =>
      Option.bind (gA Γ a5 1) fun N8 =>
      Option.bind (ix x3 N8) fun k9 =>
      Option.bind ((uL φ a5 k9 (φ.2.1 a5 k7)).2.2 x0 97) fun a10 =>
      Option.bind (gA Γ a10 0) fun N11 =>
      Option.bind (ix (x3 + (1 : Int32)) N11) fun k12 =>
      Option.bind (gA Γ a10 0) fun N13 =>
      Option.bind (ix x3 N13) fun k14 =>
      (f_Ref_dropRead_L12 Γ  fu) (uI (uL φ a5 k9 (φ.2.1 a5 k7)) a10 k14 ((uL φ a5 k9 (φ.2.1 a5 k7)).1 a10 k12)) x0 x1 (x3 + (1 : Int32))
    ) none
set_option maxRecDepth 100000 in
set_option maxHeartbeats 4000000 in
theorem p_Ref_dropRead_L12 {w : jw_T} (hw : jok w) {Γ : gm_T} {n : Nat} (hG : gd w Γ n)  : ∀ (fu : Nat) {x : Bool} {φ : ph_T} {x0 : Nat} {x1 : Int32} {x3 : Int32} {q : Unit × ph_T}, f_Ref_dropRead_L12 Γ  fu φ x0 x1 x3 = some q → J w M_Ref_dropRead 12 [some (.ref x0), some (.int x1), none, some (.int x3)] [] (pic Γ φ) n x 0 0 (fq Γ n (.inl none) q.2) := by
  intro fu
  induction fu with
  | zero =>
    intro x φ x0 x1 x3 q H
    cases H
  | succ fu ih =>
    intro x φ x0 x1 x3 q H
    unfold f_Ref_dropRead_L12 at H
    refine J_iload_n d_Ref_dropRead_12 rfl ?_
    refine J_bipush (v := 16) d_Ref_dropRead_13 (by decide) ?_
    refine J_iload_n d_Ref_dropRead_15 rfl ?_
    refine J_imul d_Ref_dropRead_16 ?_
    refine J_aload_n d_Ref_dropRead_17 rfl ?_
    have g1 : Γ x0 = .inr 12 := by
      apply Classical.byContradiction
      intro q9
      rw [if_neg q9] at H
      cases H
    rw [if_pos g1] at H
    refine F_getR (ci := 12) (k := 90) hG (cf_Ref hw) (fl_Ref_250 hw) (by decide) (by decide) rfl d_Ref_dropRead_18 g1 ?_
    refine J_iload_n d_Ref_dropRead_21 rfl ?_
    obtain ⟨a2, ha2, H⟩ := Option.bind_eq_some_iff.mp H
    rw [j_rf ha2]
    obtain ⟨N3, hN3, H⟩ := Option.bind_eq_some_iff.mp H
    obtain ⟨k4, hk4, H⟩ := Option.bind_eq_some_iff.mp H
    refine F_iald k4 hw hG d_Ref_dropRead_22 (gA_some hN3) (ix_some hk4) ?_
    refine J_iadd d_Ref_dropRead_23 ?_
    refine J_icmp_ge (tgt := 61) d_Ref_dropRead_24 (by decide) ?_ ?_
    · intro c15
      rw [if_pos c15] at H
      cases H
      exact J_vret (st := []) d_Ref_dropRead_61 rfl ⟨rfl, rfl, rfl⟩
    · intro c15
      rw [if_neg c15] at H
      refine J_aload_n d_Ref_dropRead_27 rfl ?_
      refine F_getR (ci := 12) (k := 96) hG (cf_Ref hw) (fl_Ref_268 hw) (by decide) (by decide) rfl d_Ref_dropRead_28 g1 ?_
      refine J_iload_n d_Ref_dropRead_31 rfl ?_
      refine J_aload_n d_Ref_dropRead_32 rfl ?_
      refine F_getR (ci := 12) (k := 96) hG (cf_Ref hw) (fl_Ref_268 hw) (by decide) (by decide) rfl d_Ref_dropRead_33 g1 ?_
      refine J_iload_n d_Ref_dropRead_36 rfl ?_
      refine J_iconst (v := 1) d_Ref_dropRead_37 (by decide) ?_
      refine J_iadd d_Ref_dropRead_38 ?_
      obtain ⟨a5, ha5, H⟩ := Option.bind_eq_some_iff.mp H
      rw [j_rf ha5]
      obtain ⟨N6, hN6, H⟩ := Option.bind_eq_some_iff.mp H
      obtain ⟨k7, hk7, H⟩ := Option.bind_eq_some_iff.mp H
      refine F_lald k7 hw hG d_Ref_dropRead_39 (gA_some hN6) (ix_some hk7) ?_
      obtain ⟨N8, hN8, H⟩ := Option.bind_eq_some_iff.mp H
      obtain ⟨k9, hk9, H⟩ := Option.bind_eq_some_iff.mp H
      refine F_last k9 hw hG d_Ref_dropRead_40 (gA_some hN8) (ix_some hk9) ?_
      refine J_aload_n d_Ref_dropRead_41 rfl ?_
      refine F_getR (ci := 12) (k := 97) hG (cf_Ref hw) (fl_Ref_271 hw) (by decide) (by decide) rfl d_Ref_dropRead_42 g1 ?_
      refine J_iload_n d_Ref_dropRead_45 rfl ?_
      refine J_aload_n d_Ref_dropRead_46 rfl ?_
      refine F_getR (ci := 12) (k := 97) hG (cf_Ref hw) (fl_Ref_271 hw) (by decide) (by decide) rfl d_Ref_dropRead_47 g1 ?_
      refine J_iload_n d_Ref_dropRead_50 rfl ?_
      refine J_iconst (v := 1) d_Ref_dropRead_51 (by decide) ?_
      refine J_iadd d_Ref_dropRead_52 ?_
      obtain ⟨a10, ha10, H⟩ := Option.bind_eq_some_iff.mp H
      rw [j_rf ha10]
      obtain ⟨N11, hN11, H⟩ := Option.bind_eq_some_iff.mp H
      obtain ⟨k12, hk12, H⟩ := Option.bind_eq_some_iff.mp H
      refine F_iald k12 hw hG d_Ref_dropRead_53 (gA_some hN11) (ix_some hk12) ?_
      obtain ⟨N13, hN13, H⟩ := Option.bind_eq_some_iff.mp H
      obtain ⟨k14, hk14, H⟩ := Option.bind_eq_some_iff.mp H
      refine F_iast k14 hw hG d_Ref_dropRead_54 (gA_some hN13) (ix_some hk14) ?_
      refine J_iinc (v := x3 + 1) d_Ref_dropRead_55 rfl (by rw [show Int32.ofInt 1 = (1 : Int32) from by decide]) ?_
      refine J_goto (tgt := 12) d_Ref_dropRead_58 (by decide) ?_
      refine J.drop [true, true, false, true] rfl ?_
      exact ih H
def f_Ref_dropRead (Γ : gm_T) (φ : ph_T) (this : Nat) (p0 : Int32) (p1 : Int32) : Option (Unit × ph_T) :=
  @ite _ (Γ this = .inr 12) _ (
  Option.bind (φ.2.2 this 90) fun a17 =>
  Option.bind (gA Γ a17 0) fun N18 =>
  Option.bind (ix p0 N18) fun k19 =>
  Option.bind (gA Γ a17 0) fun N20 =>
  Option.bind (ix p0 N20) fun k21 =>
  f_Ref_dropRead_L12 Γ  jF (uI φ a17 k21 ((φ.1 a17 k19) - (1 : Int32))) this p0 p1
  ) none
set_option maxRecDepth 100000 in
set_option maxHeartbeats 4000000 in
theorem p_Ref_dropRead {w : jw_T} (hw : jok w) {Γ : gm_T} {n : Nat} (hG : gd w Γ n) {x : Bool} {φ : ph_T} {this : Nat} {p0 : Int32} {p1 : Int32} {q : Unit × ph_T} (H : f_Ref_dropRead Γ φ this p0 p1 = some q) : jc w M_Ref_dropRead [.ref this, .int p0, .int p1] (pic Γ φ) n x 0 0 (fq Γ n (.inl none) q.2) := by
  refine jc.of (by simp only [jent_r, jent_i, jent_l, jent_a, jent_0]; exact Nat.le_of_ble_eq_true rfl) ?_
  have hls : jents [.ref this, .int p0, .int p1] (jm_nL M_Ref_dropRead) = [some (.ref this), some (.int p0), some (.int p1), none] := by simp only [jents, jent_r, jent_i, jent_l, jent_a, jent_0]; rfl
  rw [hls]
  clear hls
  unfold f_Ref_dropRead at H
  refine J_aload_n d_Ref_dropRead_0 rfl ?_
  have g16 : Γ this = .inr 12 := by
    apply Classical.byContradiction
    intro q9
    rw [if_neg q9] at H
    cases H
  rw [if_pos g16] at H
  refine F_getR (ci := 12) (k := 90) hG (cf_Ref hw) (fl_Ref_250 hw) (by decide) (by decide) rfl d_Ref_dropRead_1 g16 ?_
  refine J_iload_n d_Ref_dropRead_4 rfl ?_
  refine J_dup2 d_Ref_dropRead_5 rfl (va_rf_cat _) ?_
  obtain ⟨a17, ha17, H⟩ := Option.bind_eq_some_iff.mp H
  rw [j_rf ha17]
  obtain ⟨N18, hN18, H⟩ := Option.bind_eq_some_iff.mp H
  obtain ⟨k19, hk19, H⟩ := Option.bind_eq_some_iff.mp H
  refine F_iald k19 hw hG d_Ref_dropRead_6 (gA_some hN18) (ix_some hk19) ?_
  refine J_iconst (v := 1) d_Ref_dropRead_7 (by decide) ?_
  refine J_isub d_Ref_dropRead_8 ?_
  obtain ⟨N20, hN20, H⟩ := Option.bind_eq_some_iff.mp H
  obtain ⟨k21, hk21, H⟩ := Option.bind_eq_some_iff.mp H
  refine F_iast k21 hw hG d_Ref_dropRead_9 (gA_some hN20) (ix_some hk21) ?_
  refine J_iload_n d_Ref_dropRead_10 rfl ?_
  refine J_istore_n d_Ref_dropRead_11 (Nat.le_of_ble_eq_true rfl) ?_
  refine J.drop [true, true, false, true] rfl ?_
  exact p_Ref_dropRead_L12 hw hG  _ H
theorem ln_Ref_goR : (parseMethodDescriptor y_Ref_goR.desc).map (fun q => q.parameters.length) = some 2 := by decide +kernel
def f_Ref_goR_L46 (Γ : gm_T)  (φ : ph_T) : Option (Unit × ph_T) :=
  some ((), φ)
set_option maxRecDepth 100000 in
set_option maxHeartbeats 4000000 in
theorem p_Ref_goR_L46 {w : jw_T} (hw : jok w) {Γ : gm_T} {n : Nat} (hG : gd w Γ n)  {x : Bool} {φ : ph_T} {q : Unit × ph_T} (H : f_Ref_goR_L46 Γ  φ  = some q) : J w M_Ref_goR 46 [none, none, none, none] [] (pic Γ φ) n x 0 0 (fq Γ n (.inl none) q.2) := by
  unfold f_Ref_goR_L46 at H
  cases H
  exact J_vret (st := []) d_Ref_goR_46 rfl ⟨rfl, rfl, rfl⟩
def f_Ref_goR (Γ : gm_T) (φ : ph_T) (this : Nat) (p0 : Int32) (p1 : Int32) : Option (Unit × ph_T) :=
  @ite _ (Γ this = .inr 12) _ (
  Option.bind (f_Ref_monitoredRead Γ φ this p0 p1) fun q2 =>
  if q2.1 = (-1 : Int32) then
    f_Ref_goR_L46 Γ  q2.2 
  else
    Option.bind (q2.2.2.2 this 97) fun a3 =>
    Option.bind (gA Γ a3 0) fun N4 =>
    Option.bind (ix q2.1 N4) fun k5 =>
    Option.bind (gA Γ a3 0) fun N6 =>
    Option.bind (ix q2.1 N6) fun k7 =>
    Option.bind ((uI q2.2 a3 k7 ((q2.2.1 a3 k5) + (1 : Int32))).2.2 this 97) fun a8 =>
    Option.bind (gA Γ a8 0) fun N9 =>
    Option.bind (ix q2.1 N9) fun k10 =>
    Option.bind ((uI q2.2 a3 k7 ((q2.2.1 a3 k5) + (1 : Int32))).2.2 this 96) fun a11 =>
    Option.bind (gA Γ a11 1) fun N12 =>
    Option.bind (ix q2.1 N12) fun k13 =>
    Option.bind (f_Ref_lengthOf Γ (uI q2.2 a3 k7 ((q2.2.1 a3 k5) + (1 : Int32))) ((uI q2.2 a3 k7 ((q2.2.1 a3 k5) + (1 : Int32))).2.1 a11 k13)) fun q14 =>
    if ((uI q2.2 a3 k7 ((q2.2.1 a3 k5) + (1 : Int32))).1 a8 k10) = q14.1 then
      Option.bind (f_Ref_dropRead Γ q14.2 this p0 q2.1) fun q15 =>
      f_Ref_goR_L46 Γ  q15.2 
    else
      f_Ref_goR_L46 Γ  q14.2 
  ) none
set_option maxRecDepth 100000 in
set_option maxHeartbeats 4000000 in
theorem p_Ref_goR {w : jw_T} (hw : jok w) {Γ : gm_T} {n : Nat} (hG : gd w Γ n) {x : Bool} {φ : ph_T} {this : Nat} {p0 : Int32} {p1 : Int32} {q : Unit × ph_T} (H : f_Ref_goR Γ φ this p0 p1 = some q) : jc w M_Ref_goR [.ref this, .int p0, .int p1] (pic Γ φ) n x 0 0 (fq Γ n (.inl none) q.2) := by
  refine jc.of (by simp only [jent_r, jent_i, jent_l, jent_a, jent_0]; exact Nat.le_of_ble_eq_true rfl) ?_
  have hls : jents [.ref this, .int p0, .int p1] (jm_nL M_Ref_goR) = [some (.ref this), some (.int p0), some (.int p1), none] := by simp only [jents, jent_r, jent_i, jent_l, jent_a, jent_0]; rfl
  rw [hls]
  clear hls
  unfold f_Ref_goR at H
  refine J_aload_n d_Ref_goR_0 rfl ?_
  refine J_iload_n d_Ref_goR_1 rfl ?_
  refine J_iload_n d_Ref_goR_2 rfl ?_
  have g1 : Γ this = .inr 12 := by
    apply Classical.byContradiction
    intro q9
    rw [if_neg q9] at H
    cases H
  rw [if_pos g1] at H
  obtain ⟨q2, hq2, H⟩ := Option.bind_eq_some_iff.mp H
  refine J_callV (kc := 0) (ks := 0) (kc' := 0) (ks' := 0) (a := this) (ci := 12) (as := [.int p0, .int p1]) (st := []) (mf_Ref_monitoredRead hw) (mv_Ref_425 hw) d_Ref_goR_3 ln_Ref_monitoredRead (by decide) (by first | exact Nat.le_of_ble_eq_true rfl | (simp only [List.map_cons, List.map_nil, List.sum_cons, List.sum_nil, va_rf_cat]; exact Nat.le_of_ble_eq_true rfl)) rfl ((hG _).1 _ g1 (by decide)).1 ((hG _).1 _ g1 (by decide)).2 (by unfold pic; rw [g1]; rfl) (jcl_at hw rfl) rfl (p_Ref_monitoredRead hw hG hq2) ?_ (fun E h' n' x' e1 => by cases e1.1)
  intro v9 h9 n9 x9 e9
  obtain ⟨e91, e92, e93⟩ := e9
  cases e91
  subst e92
  subst e93
  clear x
  rename Bool => x
  show J _ _ _ _ (_ :: _) _ _ _ _ _ _
  refine J_istore_n d_Ref_goR_6 (Nat.le_of_ble_eq_true rfl) ?_
  refine J_iload_n d_Ref_goR_7 rfl ?_
  refine J_iconst (v := -1) d_Ref_goR_8 (by decide) ?_
  refine J_icmp_eq (tgt := 46) d_Ref_goR_9 (by decide) ?_ ?_
  · intro c17
    rw [if_pos c17] at H
    refine J.drop [false, false, false, false] rfl ?_
    exact p_Ref_goR_L46 hw hG  H
  · intro c17
    rw [if_neg c17] at H
    refine J_aload_n d_Ref_goR_12 rfl ?_
    refine F_getR (ci := 12) (k := 97) hG (cf_Ref hw) (fl_Ref_271 hw) (by decide) (by decide) rfl d_Ref_goR_13 g1 ?_
    refine J_iload_n d_Ref_goR_16 rfl ?_
    refine J_dup2 d_Ref_goR_17 rfl (va_rf_cat _) ?_
    obtain ⟨a3, ha3, H⟩ := Option.bind_eq_some_iff.mp H
    rw [j_rf ha3]
    obtain ⟨N4, hN4, H⟩ := Option.bind_eq_some_iff.mp H
    obtain ⟨k5, hk5, H⟩ := Option.bind_eq_some_iff.mp H
    refine F_iald k5 hw hG d_Ref_goR_18 (gA_some hN4) (ix_some hk5) ?_
    refine J_iconst (v := 1) d_Ref_goR_19 (by decide) ?_
    refine J_iadd d_Ref_goR_20 ?_
    obtain ⟨N6, hN6, H⟩ := Option.bind_eq_some_iff.mp H
    obtain ⟨k7, hk7, H⟩ := Option.bind_eq_some_iff.mp H
    refine F_iast k7 hw hG d_Ref_goR_21 (gA_some hN6) (ix_some hk7) ?_
    refine J_aload_n d_Ref_goR_22 rfl ?_
    refine F_getR (ci := 12) (k := 97) hG (cf_Ref hw) (fl_Ref_271 hw) (by decide) (by decide) rfl d_Ref_goR_23 g1 ?_
    refine J_iload_n d_Ref_goR_26 rfl ?_
    obtain ⟨a8, ha8, H⟩ := Option.bind_eq_some_iff.mp H
    rw [j_rf ha8]
    obtain ⟨N9, hN9, H⟩ := Option.bind_eq_some_iff.mp H
    obtain ⟨k10, hk10, H⟩ := Option.bind_eq_some_iff.mp H
    refine F_iald k10 hw hG d_Ref_goR_27 (gA_some hN9) (ix_some hk10) ?_
    refine J_aload_n d_Ref_goR_28 rfl ?_
    refine F_getR (ci := 12) (k := 96) hG (cf_Ref hw) (fl_Ref_268 hw) (by decide) (by decide) rfl d_Ref_goR_29 g1 ?_
    refine J_iload_n d_Ref_goR_32 rfl ?_
    obtain ⟨a11, ha11, H⟩ := Option.bind_eq_some_iff.mp H
    rw [j_rf ha11]
    obtain ⟨N12, hN12, H⟩ := Option.bind_eq_some_iff.mp H
    obtain ⟨k13, hk13, H⟩ := Option.bind_eq_some_iff.mp H
    refine F_lald k13 hw hG d_Ref_goR_33 (gA_some hN12) (ix_some hk13) ?_
    obtain ⟨q14, hq14, H⟩ := Option.bind_eq_some_iff.mp H
    refine J_callS (kc := 0) (ks := 0) (kc' := 0) (ks' := 0) (as := [.long ((uI q2.2 a3 k7 ((q2.2.1 a3 k5) + (1 : Int32))).2.1 a11 k13)]) (st := [.int ((uI q2.2 a3 k7 ((q2.2.1 a3 k5) + (1 : Int32))).1 a8 k10)]) (mf_Ref_lengthOf hw) (ms_Ref_321 hw) d_Ref_goR_34 ln_Ref_lengthOf (by decide) (by first | exact Nat.le_of_ble_eq_true rfl | (simp only [List.map_cons, List.map_nil, List.sum_cons, List.sum_nil, va_rf_cat]; exact Nat.le_of_ble_eq_true rfl)) rfl (p_Ref_lengthOf hw hG hq14) ?_ (fun E h' n' x' e1 => by cases e1.1)
    intro v9 h9 n9 x9 e9
    obtain ⟨e91, e92, e93⟩ := e9
    cases e91
    subst e92
    subst e93
    clear x
    rename Bool => x
    show J _ _ _ _ (_ :: _) _ _ _ _ _ _
    refine J_icmp_ne (tgt := 46) d_Ref_goR_37 (by decide) ?_ ?_
    · intro c16
      rw [if_neg c16] at H
      refine J.drop [false, false, false, false] rfl ?_
      exact p_Ref_goR_L46 hw hG  H
    · intro c16
      rw [if_pos c16] at H
      refine J_aload_n d_Ref_goR_40 rfl ?_
      refine J_iload_n d_Ref_goR_41 rfl ?_
      refine J_iload_n d_Ref_goR_42 rfl ?_
      obtain ⟨q15, hq15, H⟩ := Option.bind_eq_some_iff.mp H
      refine J_callV (kc := 0) (ks := 0) (kc' := 0) (ks' := 0) (a := this) (ci := 12) (as := [.int p0, .int q2.1]) (st := []) (mf_Ref_dropRead hw) (mv_Ref_431 hw) d_Ref_goR_43 ln_Ref_dropRead (by decide) (by first | exact Nat.le_of_ble_eq_true rfl | (simp only [List.map_cons, List.map_nil, List.sum_cons, List.sum_nil, va_rf_cat]; exact Nat.le_of_ble_eq_true rfl)) rfl ((hG _).1 _ g1 (by decide)).1 ((hG _).1 _ g1 (by decide)).2 (by unfold pic; rw [g1]; rfl) (jcl_at hw rfl) rfl (p_Ref_dropRead hw hG hq15) ?_ (fun E h' n' x' e1 => by cases e1.1)
      intro v9 h9 n9 x9 e9
      obtain ⟨e91, e92, e93⟩ := e9
      cases e91
      subst e92
      subst e93
      clear x
      rename Bool => x
      show J _ _ _ _ [] _ _ _ _ _ _
      refine J.drop [false, false, false, false] rfl ?_
      exact p_Ref_goR_L46 hw hG  H
theorem ln_Ref_goAr : (parseMethodDescriptor y_Ref_goAr.desc).map (fun q => q.parameters.length) = some 2 := by decide +kernel
def f_Ref_goAr (Γ : gm_T) (φ : ph_T) (this : Nat) (p0 : Int32) (p1 : Int64) : Option (Unit × ph_T) :=
  @ite _ (Γ this = .inr 12) _ (
  Option.bind (φ.2.2 this 90) fun a2 =>
  Option.bind (gA Γ a2 0) fun N3 =>
  Option.bind (ix p0 N3) fun k4 =>
  if (φ.1 a2 k4) = (16 : Int32) then
    Option.bind (f_Ref_breakAt Γ φ this p0 (12 : Int32) (3 : Int32)) fun q21 =>
    some ((), q21.2)
  else
    Option.bind (gA Γ a2 0) fun N5 =>
    Option.bind (ix p0 N5) fun k6 =>
    Option.bind (φ.2.2 this 96) fun a7 =>
    Option.bind (gA Γ a7 1) fun N8 =>
    Option.bind (ix (((16 : Int32) * p0) + (φ.1 a2 k6)) N8) fun k9 =>
    Option.bind ((uL φ a7 k9 p1).2.2 this 90) fun a10 =>
    Option.bind (gA Γ a10 0) fun N11 =>
    Option.bind (ix p0 N11) fun k12 =>
    Option.bind ((uL φ a7 k9 p1).2.2 this 97) fun a13 =>
    Option.bind (gA Γ a13 0) fun N14 =>
    Option.bind (ix (((16 : Int32) * p0) + ((uL φ a7 k9 p1).1 a10 k12)) N14) fun k15 =>
    Option.bind ((uI (uL φ a7 k9 p1) a13 k15 (0 : Int32)).2.2 this 90) fun a16 =>
    Option.bind (gA Γ a16 0) fun N17 =>
    Option.bind (ix p0 N17) fun k18 =>
    Option.bind (gA Γ a16 0) fun N19 =>
    Option.bind (ix p0 N19) fun k20 =>
    some ((), (uI (uI (uL φ a7 k9 p1) a13 k15 (0 : Int32)) a16 k20 (((uI (uL φ a7 k9 p1) a13 k15 (0 : Int32)).1 a16 k18) + (1 : Int32))))
  ) none
set_option maxRecDepth 100000 in
set_option maxHeartbeats 4000000 in
theorem p_Ref_goAr {w : jw_T} (hw : jok w) {Γ : gm_T} {n : Nat} (hG : gd w Γ n) {x : Bool} {φ : ph_T} {this : Nat} {p0 : Int32} {p1 : Int64} {q : Unit × ph_T} (H : f_Ref_goAr Γ φ this p0 p1 = some q) : jc w M_Ref_goAr [.ref this, .int p0, .long p1] (pic Γ φ) n x 0 0 (fq Γ n (.inl none) q.2) := by
  refine jc.of (by simp only [jent_r, jent_i, jent_l, jent_a, jent_0]; exact Nat.le_of_ble_eq_true rfl) ?_
  have hls : jents [.ref this, .int p0, .long p1] (jm_nL M_Ref_goAr) = [some (.ref this), some (.int p0), some (.long p1), none] := by simp only [jents, jent_r, jent_i, jent_l, jent_a, jent_0]; rfl
  rw [hls]
  clear hls
  unfold f_Ref_goAr at H
  refine J_aload_n d_Ref_goAr_0 rfl ?_
  have g1 : Γ this = .inr 12 := by
    apply Classical.byContradiction
    intro q9
    rw [if_neg q9] at H
    cases H
  rw [if_pos g1] at H
  refine F_getR (ci := 12) (k := 90) hG (cf_Ref hw) (fl_Ref_250 hw) (by decide) (by decide) rfl d_Ref_goAr_1 g1 ?_
  refine J_iload_n d_Ref_goAr_4 rfl ?_
  obtain ⟨a2, ha2, H⟩ := Option.bind_eq_some_iff.mp H
  rw [j_rf ha2]
  obtain ⟨N3, hN3, H⟩ := Option.bind_eq_some_iff.mp H
  obtain ⟨k4, hk4, H⟩ := Option.bind_eq_some_iff.mp H
  refine F_iald k4 hw hG d_Ref_goAr_5 (gA_some hN3) (ix_some hk4) ?_
  refine J_bipush (v := 16) d_Ref_goAr_6 (by decide) ?_
  refine J_icmp_ne (tgt := 20) d_Ref_goAr_8 (by decide) ?_ ?_
  · intro c22
    rw [if_neg c22] at H
    refine J_aload_n d_Ref_goAr_20 rfl ?_
    refine F_getR (ci := 12) (k := 96) hG (cf_Ref hw) (fl_Ref_268 hw) (by decide) (by decide) rfl d_Ref_goAr_21 g1 ?_
    refine J_bipush (v := 16) d_Ref_goAr_24 (by decide) ?_
    refine J_iload_n d_Ref_goAr_26 rfl ?_
    refine J_imul d_Ref_goAr_27 ?_
    refine J_aload_n d_Ref_goAr_28 rfl ?_
    refine F_getR (ci := 12) (k := 90) hG (cf_Ref hw) (fl_Ref_250 hw) (by decide) (by decide) rfl d_Ref_goAr_29 g1 ?_
    refine J_iload_n d_Ref_goAr_32 rfl ?_
    try rw [j_rf ha2]
    obtain ⟨N5, hN5, H⟩ := Option.bind_eq_some_iff.mp H
    obtain ⟨k6, hk6, H⟩ := Option.bind_eq_some_iff.mp H
    refine F_iald k6 hw hG d_Ref_goAr_33 (gA_some hN5) (ix_some hk6) ?_
    refine J_iadd d_Ref_goAr_34 ?_
    refine J_lload_n d_Ref_goAr_35 rfl ?_
    obtain ⟨a7, ha7, H⟩ := Option.bind_eq_some_iff.mp H
    rw [j_rf ha7]
    obtain ⟨N8, hN8, H⟩ := Option.bind_eq_some_iff.mp H
    obtain ⟨k9, hk9, H⟩ := Option.bind_eq_some_iff.mp H
    refine F_last k9 hw hG d_Ref_goAr_36 (gA_some hN8) (ix_some hk9) ?_
    refine J_aload_n d_Ref_goAr_37 rfl ?_
    refine F_getR (ci := 12) (k := 97) hG (cf_Ref hw) (fl_Ref_271 hw) (by decide) (by decide) rfl d_Ref_goAr_38 g1 ?_
    refine J_bipush (v := 16) d_Ref_goAr_41 (by decide) ?_
    refine J_iload_n d_Ref_goAr_43 rfl ?_
    refine J_imul d_Ref_goAr_44 ?_
    refine J_aload_n d_Ref_goAr_45 rfl ?_
    refine F_getR (ci := 12) (k := 90) hG (cf_Ref hw) (fl_Ref_250 hw) (by decide) (by decide) rfl d_Ref_goAr_46 g1 ?_
    refine J_iload_n d_Ref_goAr_49 rfl ?_
    obtain ⟨a10, ha10, H⟩ := Option.bind_eq_some_iff.mp H
    rw [j_rf ha10]
    obtain ⟨N11, hN11, H⟩ := Option.bind_eq_some_iff.mp H
    obtain ⟨k12, hk12, H⟩ := Option.bind_eq_some_iff.mp H
    refine F_iald k12 hw hG d_Ref_goAr_50 (gA_some hN11) (ix_some hk12) ?_
    refine J_iadd d_Ref_goAr_51 ?_
    refine J_iconst (v := 0) d_Ref_goAr_52 (by decide) ?_
    obtain ⟨a13, ha13, H⟩ := Option.bind_eq_some_iff.mp H
    rw [j_rf ha13]
    obtain ⟨N14, hN14, H⟩ := Option.bind_eq_some_iff.mp H
    obtain ⟨k15, hk15, H⟩ := Option.bind_eq_some_iff.mp H
    refine F_iast k15 hw hG d_Ref_goAr_53 (gA_some hN14) (ix_some hk15) ?_
    refine J_aload_n d_Ref_goAr_54 rfl ?_
    refine F_getR (ci := 12) (k := 90) hG (cf_Ref hw) (fl_Ref_250 hw) (by decide) (by decide) rfl d_Ref_goAr_55 g1 ?_
    refine J_iload_n d_Ref_goAr_58 rfl ?_
    refine J_dup2 d_Ref_goAr_59 rfl (va_rf_cat _) ?_
    obtain ⟨a16, ha16, H⟩ := Option.bind_eq_some_iff.mp H
    rw [j_rf ha16]
    obtain ⟨N17, hN17, H⟩ := Option.bind_eq_some_iff.mp H
    obtain ⟨k18, hk18, H⟩ := Option.bind_eq_some_iff.mp H
    refine F_iald k18 hw hG d_Ref_goAr_60 (gA_some hN17) (ix_some hk18) ?_
    refine J_iconst (v := 1) d_Ref_goAr_61 (by decide) ?_
    refine J_iadd d_Ref_goAr_62 ?_
    obtain ⟨N19, hN19, H⟩ := Option.bind_eq_some_iff.mp H
    obtain ⟨k20, hk20, H⟩ := Option.bind_eq_some_iff.mp H
    refine F_iast k20 hw hG d_Ref_goAr_63 (gA_some hN19) (ix_some hk20) ?_
    cases H
    exact J_vret (st := []) d_Ref_goAr_64 rfl ⟨rfl, rfl, rfl⟩
  · intro c22
    rw [if_pos c22] at H
    refine J_aload_n d_Ref_goAr_11 rfl ?_
    refine J_iload_n d_Ref_goAr_12 rfl ?_
    refine J_bipush (v := 12) d_Ref_goAr_13 (by decide) ?_
    refine J_iconst (v := 3) d_Ref_goAr_15 (by decide) ?_
    obtain ⟨q21, hq21, H⟩ := Option.bind_eq_some_iff.mp H
    refine J_callV (kc := 0) (ks := 0) (kc' := 0) (ks' := 0) (a := this) (ci := 12) (as := [.int p0, .int (12 : Int32), .int (3 : Int32)]) (st := []) (mf_Ref_breakAt hw) (mv_Ref_415 hw) d_Ref_goAr_16 ln_Ref_breakAt (by decide) (by first | exact Nat.le_of_ble_eq_true rfl | (simp only [List.map_cons, List.map_nil, List.sum_cons, List.sum_nil, va_rf_cat]; exact Nat.le_of_ble_eq_true rfl)) rfl ((hG _).1 _ g1 (by decide)).1 ((hG _).1 _ g1 (by decide)).2 (by unfold pic; rw [g1]; rfl) (jcl_at hw rfl) rfl (p_Ref_breakAt hw hG hq21) ?_ (fun E h' n' x' e1 => by cases e1.1)
    intro v9 h9 n9 x9 e9
    obtain ⟨e91, e92, e93⟩ := e9
    cases e91
    subst e92
    subst e93
    clear x
    rename Bool => x
    show J _ _ _ _ [] _ _ _ _ _ _
    cases H
    exact J_vret (st := []) d_Ref_goAr_19 rfl ⟨rfl, rfl, rfl⟩
theorem ln_Ref_newWrite : (parseMethodDescriptor y_Ref_newWrite.desc).map (fun q => q.parameters.length) = some 2 := by decide +kernel
def f_Ref_newWrite (Γ : gm_T) (φ : ph_T) (this : Nat) (p0 : Int32) (p1 : Int32) : Option (Int32 × ph_T) :=
  @ite _ (Γ this = .inr 12) _ (
  Option.bind (φ.2.2 this 89) fun a2 =>
  Option.bind (gA Γ a2 0) fun N3 =>
  Option.bind (ix p0 N3) fun k4 =>
  if (φ.1 a2 k4) = (16 : Int32) then
    Option.bind (f_Ref_breakAt Γ φ this p0 (12 : Int32) p1) fun q23 =>
    some ((-1 : Int32), q23.2)
  else
    Option.bind (gA Γ a2 0) fun N5 =>
    Option.bind (ix p0 N5) fun k6 =>
    Option.bind (φ.2.2 this 91) fun a7 =>
    Option.bind (gA Γ a7 2) fun N8 =>
    Option.bind (ix (((16 : Int32) * p0) + (φ.1 a2 k6)) N8) fun k9 =>
    @ite _ ((0 : Int32) = 0 ∨ (0 : Int32) = 1) _ (
    Option.bind ((uI φ a7 k9 (0 : Int32)).2.2 this 93) fun a11 =>
    Option.bind (gA Γ a11 0) fun N12 =>
    Option.bind (ix (((16 : Int32) * p0) + (φ.1 a2 k6)) N12) fun k13 =>
    Option.bind ((uI (uI φ a7 k9 (0 : Int32)) a11 k13 (0 : Int32)).2.2 this 94) fun a14 =>
    Option.bind (gA Γ a14 2) fun N15 =>
    Option.bind (ix (((16 : Int32) * p0) + (φ.1 a2 k6)) N15) fun k16 =>
    @ite _ ((0 : Int32) = 0 ∨ (0 : Int32) = 1) _ (
    Option.bind ((uI (uI (uI φ a7 k9 (0 : Int32)) a11 k13 (0 : Int32)) a14 k16 (0 : Int32)).2.2 this 89) fun a18 =>
    Option.bind (gA Γ a18 0) fun N19 =>
    Option.bind (ix p0 N19) fun k20 =>
    Option.bind (gA Γ a18 0) fun N21 =>
    Option.bind (ix p0 N21) fun k22 =>
    some ((((16 : Int32) * p0) + (φ.1 a2 k6)), (uI (uI (uI (uI φ a7 k9 (0 : Int32)) a11 k13 (0 : Int32)) a14 k16 (0 : Int32)) a18 k22 (((uI (uI (uI φ a7 k9 (0 : Int32)) a11 k13 (0 : Int32)) a14 k16 (0 : Int32)).1 a18 k20) + (1 : Int32))))
    ) none
    ) none
  ) none
set_option maxRecDepth 100000 in
set_option maxHeartbeats 4000000 in
theorem p_Ref_newWrite {w : jw_T} (hw : jok w) {Γ : gm_T} {n : Nat} (hG : gd w Γ n) {x : Bool} {φ : ph_T} {this : Nat} {p0 : Int32} {p1 : Int32} {q : Int32 × ph_T} (H : f_Ref_newWrite Γ φ this p0 p1 = some q) : jc w M_Ref_newWrite [.ref this, .int p0, .int p1] (pic Γ φ) n x 0 0 (fq Γ n (.inl (some (.int q.1))) q.2) := by
  refine jc.of (by simp only [jent_r, jent_i, jent_l, jent_a, jent_0]; exact Nat.le_of_ble_eq_true rfl) ?_
  have hls : jents [.ref this, .int p0, .int p1] (jm_nL M_Ref_newWrite) = [some (.ref this), some (.int p0), some (.int p1), none] := by simp only [jents, jent_r, jent_i, jent_l, jent_a, jent_0]; rfl
  rw [hls]
  clear hls
  unfold f_Ref_newWrite at H
  refine J_aload_n d_Ref_newWrite_0 rfl ?_
  have g1 : Γ this = .inr 12 := by
    apply Classical.byContradiction
    intro q9
    rw [if_neg q9] at H
    cases H
  rw [if_pos g1] at H
  refine F_getR (ci := 12) (k := 89) hG (cf_Ref hw) (fl_Ref_247 hw) (by decide) (by decide) rfl d_Ref_newWrite_1 g1 ?_
  refine J_iload_n d_Ref_newWrite_4 rfl ?_
  obtain ⟨a2, ha2, H⟩ := Option.bind_eq_some_iff.mp H
  rw [j_rf ha2]
  obtain ⟨N3, hN3, H⟩ := Option.bind_eq_some_iff.mp H
  obtain ⟨k4, hk4, H⟩ := Option.bind_eq_some_iff.mp H
  refine F_iald k4 hw hG d_Ref_newWrite_5 (gA_some hN3) (ix_some hk4) ?_
  refine J_bipush (v := 16) d_Ref_newWrite_6 (by decide) ?_
  refine J_icmp_ne (tgt := 21) d_Ref_newWrite_8 (by decide) ?_ ?_
  · intro c24
    rw [if_neg c24] at H
    refine J_bipush (v := 16) d_Ref_newWrite_21 (by decide) ?_
    refine J_iload_n d_Ref_newWrite_23 rfl ?_
    refine J_imul d_Ref_newWrite_24 ?_
    refine J_aload_n d_Ref_newWrite_25 rfl ?_
    refine F_getR (ci := 12) (k := 89) hG (cf_Ref hw) (fl_Ref_247 hw) (by decide) (by decide) rfl d_Ref_newWrite_26 g1 ?_
    refine J_iload_n d_Ref_newWrite_29 rfl ?_
    try rw [j_rf ha2]
    obtain ⟨N5, hN5, H⟩ := Option.bind_eq_some_iff.mp H
    obtain ⟨k6, hk6, H⟩ := Option.bind_eq_some_iff.mp H
    refine F_iald k6 hw hG d_Ref_newWrite_30 (gA_some hN5) (ix_some hk6) ?_
    refine J_iadd d_Ref_newWrite_31 ?_
    refine J_istore_n d_Ref_newWrite_32 (Nat.le_of_ble_eq_true rfl) ?_
    refine J_aload_n d_Ref_newWrite_33 rfl ?_
    refine F_getR (ci := 12) (k := 91) hG (cf_Ref hw) (fl_Ref_253 hw) (by decide) (by decide) rfl d_Ref_newWrite_34 g1 ?_
    refine J_iload_n d_Ref_newWrite_37 rfl ?_
    refine J_iconst (v := 0) d_Ref_newWrite_38 (by decide) ?_
    obtain ⟨a7, ha7, H⟩ := Option.bind_eq_some_iff.mp H
    rw [j_rf ha7]
    obtain ⟨N8, hN8, H⟩ := Option.bind_eq_some_iff.mp H
    obtain ⟨k9, hk9, H⟩ := Option.bind_eq_some_iff.mp H
    have z10 : (0 : Int32) = 0 ∨ (0 : Int32) = 1 := by
      apply Classical.byContradiction
      intro q9
      rw [if_neg q9] at H
      cases H
    rw [if_pos z10] at H
    refine F_zast k9 hw hG d_Ref_newWrite_39 (gA_some hN8) (ix_some hk9) z10 ?_
    refine J_aload_n d_Ref_newWrite_40 rfl ?_
    refine F_getR (ci := 12) (k := 93) hG (cf_Ref hw) (fl_Ref_259 hw) (by decide) (by decide) rfl d_Ref_newWrite_41 g1 ?_
    refine J_iload_n d_Ref_newWrite_44 rfl ?_
    refine J_iconst (v := 0) d_Ref_newWrite_45 (by decide) ?_
    obtain ⟨a11, ha11, H⟩ := Option.bind_eq_some_iff.mp H
    rw [j_rf ha11]
    obtain ⟨N12, hN12, H⟩ := Option.bind_eq_some_iff.mp H
    obtain ⟨k13, hk13, H⟩ := Option.bind_eq_some_iff.mp H
    refine F_iast k13 hw hG d_Ref_newWrite_46 (gA_some hN12) (ix_some hk13) ?_
    refine J_aload_n d_Ref_newWrite_47 rfl ?_
    refine F_getR (ci := 12) (k := 94) hG (cf_Ref hw) (fl_Ref_262 hw) (by decide) (by decide) rfl d_Ref_newWrite_48 g1 ?_
    refine J_iload_n d_Ref_newWrite_51 rfl ?_
    refine J_iconst (v := 0) d_Ref_newWrite_52 (by decide) ?_
    obtain ⟨a14, ha14, H⟩ := Option.bind_eq_some_iff.mp H
    rw [j_rf ha14]
    obtain ⟨N15, hN15, H⟩ := Option.bind_eq_some_iff.mp H
    obtain ⟨k16, hk16, H⟩ := Option.bind_eq_some_iff.mp H
    have z17 : (0 : Int32) = 0 ∨ (0 : Int32) = 1 := by
      apply Classical.byContradiction
      intro q9
      rw [if_neg q9] at H
      cases H
    rw [if_pos z17] at H
    refine F_zast k16 hw hG d_Ref_newWrite_53 (gA_some hN15) (ix_some hk16) z17 ?_
    refine J_aload_n d_Ref_newWrite_54 rfl ?_
    refine F_getR (ci := 12) (k := 89) hG (cf_Ref hw) (fl_Ref_247 hw) (by decide) (by decide) rfl d_Ref_newWrite_55 g1 ?_
    refine J_iload_n d_Ref_newWrite_58 rfl ?_
    refine J_dup2 d_Ref_newWrite_59 rfl (va_rf_cat _) ?_
    obtain ⟨a18, ha18, H⟩ := Option.bind_eq_some_iff.mp H
    rw [j_rf ha18]
    obtain ⟨N19, hN19, H⟩ := Option.bind_eq_some_iff.mp H
    obtain ⟨k20, hk20, H⟩ := Option.bind_eq_some_iff.mp H
    refine F_iald k20 hw hG d_Ref_newWrite_60 (gA_some hN19) (ix_some hk20) ?_
    refine J_iconst (v := 1) d_Ref_newWrite_61 (by decide) ?_
    refine J_iadd d_Ref_newWrite_62 ?_
    obtain ⟨N21, hN21, H⟩ := Option.bind_eq_some_iff.mp H
    obtain ⟨k22, hk22, H⟩ := Option.bind_eq_some_iff.mp H
    refine F_iast k22 hw hG d_Ref_newWrite_63 (gA_some hN21) (ix_some hk22) ?_
    refine J_iload_n d_Ref_newWrite_64 rfl ?_
    cases H
    exact J_iret (st := []) d_Ref_newWrite_65 rfl rfl ⟨rfl, rfl, rfl⟩
  · intro c24
    rw [if_pos c24] at H
    refine J_aload_n d_Ref_newWrite_11 rfl ?_
    refine J_iload_n d_Ref_newWrite_12 rfl ?_
    refine J_bipush (v := 12) d_Ref_newWrite_13 (by decide) ?_
    refine J_iload_n d_Ref_newWrite_15 rfl ?_
    obtain ⟨q23, hq23, H⟩ := Option.bind_eq_some_iff.mp H
    refine J_callV (kc := 0) (ks := 0) (kc' := 0) (ks' := 0) (a := this) (ci := 12) (as := [.int p0, .int (12 : Int32), .int p1]) (st := []) (mf_Ref_breakAt hw) (mv_Ref_415 hw) d_Ref_newWrite_16 ln_Ref_breakAt (by decide) (by first | exact Nat.le_of_ble_eq_true rfl | (simp only [List.map_cons, List.map_nil, List.sum_cons, List.sum_nil, va_rf_cat]; exact Nat.le_of_ble_eq_true rfl)) rfl ((hG _).1 _ g1 (by decide)).1 ((hG _).1 _ g1 (by decide)).2 (by unfold pic; rw [g1]; rfl) (jcl_at hw rfl) rfl (p_Ref_breakAt hw hG hq23) ?_ (fun E h' n' x' e1 => by cases e1.1)
    intro v9 h9 n9 x9 e9
    obtain ⟨e91, e92, e93⟩ := e9
    cases e91
    subst e92
    subst e93
    clear x
    rename Bool => x
    show J _ _ _ _ [] _ _ _ _ _ _
    refine J_iconst (v := -1) d_Ref_newWrite_19 (by decide) ?_
    cases H
    exact J_iret (st := []) d_Ref_newWrite_20 rfl rfl ⟨rfl, rfl, rfl⟩
theorem ln_Ref_checkBeat : (parseMethodDescriptor y_Ref_checkBeat.desc).map (fun q => q.parameters.length) = some 4 := by decide +kernel
def f_Ref_checkBeat_L129 (Γ : gm_T)  (φ : ph_T) : Option (Unit × ph_T) :=
  some ((), φ)
set_option maxRecDepth 100000 in
set_option maxHeartbeats 4000000 in
theorem p_Ref_checkBeat_L129 {w : jw_T} (hw : jok w) {Γ : gm_T} {n : Nat} (hG : gd w Γ n)  {x : Bool} {φ : ph_T} {q : Unit × ph_T} (H : f_Ref_checkBeat_L129 Γ  φ  = some q) : J w M_Ref_checkBeat 129 [none, none, none, none, none, none, none, none] [] (pic Γ φ) n x 0 0 (fq Γ n (.inl none) q.2) := by
  unfold f_Ref_checkBeat_L129 at H
  cases H
  exact J_vret (st := []) d_Ref_checkBeat_129 rfl ⟨rfl, rfl, rfl⟩
def f_Ref_checkBeat_L73 (Γ : gm_T)  (φ : ph_T) (x0 : Nat) (x1 : Int32) (x2 : Int32) (x3 : Int32) (x4 : Int32) : Option (Unit × ph_T) :=
  @ite _ (Γ x0 = .inr 12) _ (
  Option.bind (φ.2.2 x0 92) fun a2 =>
  Option.bind (gA Γ a2 1) fun N3 =>
  Option.bind (ix x2 N3) fun k4 =>
  Option.bind (f_Ref_beatAt Γ φ (φ.2.1 a2 k4) x3) fun q5 =>
  Option.bind (q5.2.2.2 x0 92) fun a6 =>
  Option.bind (gA Γ a6 1) fun N7 =>
  Option.bind (ix x2 N7) fun k8 =>
  Option.bind (f_Ref_sizeOf Γ q5.2 (q5.2.2.1 a6 k8)) fun q9 =>
  Option.bind (f_Ref_lanesOf Γ q9.2 q5.1 q9.1) fun q10 =>
  Option.bind (q10.2.2.2 x0 95) fun a11 =>
  Option.bind (gA Γ a11 0) fun N12 =>
  Option.bind (ix (((16 : Int32) * x2) + x3) N12) fun k13 =>
  if (((q10.2.1 a11 k13) &&& (255 : Int32)) &&& (q10.1 ^^^ (-1 : Int32))) = 0 then
    f_Ref_checkBeat_L129 Γ  q10.2 
  else
    Option.bind (f_Ref_breakAt Γ q10.2 x0 x1 (8 : Int32) x4) fun q14 =>
    f_Ref_checkBeat_L129 Γ  q14.2 
  ) none
set_option maxRecDepth 100000 in
set_option maxHeartbeats 4000000 in
theorem p_Ref_checkBeat_L73 {w : jw_T} (hw : jok w) {Γ : gm_T} {n : Nat} (hG : gd w Γ n)  {x : Bool} {φ : ph_T} {x0 : Nat} {x1 : Int32} {x2 : Int32} {x3 : Int32} {x4 : Int32} {q : Unit × ph_T} (H : f_Ref_checkBeat_L73 Γ  φ x0 x1 x2 x3 x4 = some q) : J w M_Ref_checkBeat 73 [some (.ref x0), some (.int x1), some (.int x2), some (.int x3), some (.int x4), none, none, none] [] (pic Γ φ) n x 0 0 (fq Γ n (.inl none) q.2) := by
  unfold f_Ref_checkBeat_L73 at H
  refine J_aload_n d_Ref_checkBeat_73 rfl ?_
  have g1 : Γ x0 = .inr 12 := by
    apply Classical.byContradiction
    intro q9
    rw [if_neg q9] at H
    cases H
  rw [if_pos g1] at H
  refine F_getR (ci := 12) (k := 92) hG (cf_Ref hw) (fl_Ref_256 hw) (by decide) (by decide) rfl d_Ref_checkBeat_74 g1 ?_
  refine J_iload_n d_Ref_checkBeat_77 rfl ?_
  obtain ⟨a2, ha2, H⟩ := Option.bind_eq_some_iff.mp H
  rw [j_rf ha2]
  obtain ⟨N3, hN3, H⟩ := Option.bind_eq_some_iff.mp H
  obtain ⟨k4, hk4, H⟩ := Option.bind_eq_some_iff.mp H
  refine F_lald k4 hw hG d_Ref_checkBeat_78 (gA_some hN3) (ix_some hk4) ?_
  refine J_iload_n d_Ref_checkBeat_79 rfl ?_
  obtain ⟨q5, hq5, H⟩ := Option.bind_eq_some_iff.mp H
  refine J_callS (kc := 0) (ks := 0) (kc' := 0) (ks' := 0) (as := [.long (φ.2.1 a2 k4), .int x3]) (st := []) (mf_Ref_beatAt hw) (ms_Ref_366 hw) d_Ref_checkBeat_80 ln_Ref_beatAt (by decide) (by first | exact Nat.le_of_ble_eq_true rfl | (simp only [List.map_cons, List.map_nil, List.sum_cons, List.sum_nil, va_rf_cat]; exact Nat.le_of_ble_eq_true rfl)) rfl (p_Ref_beatAt hw hG hq5) ?_ (fun E h' n' x' e1 => by cases e1.1)
  intro v9 h9 n9 x9 e9
  obtain ⟨e91, e92, e93⟩ := e9
  cases e91
  subst e92
  subst e93
  clear x
  rename Bool => x
  show J _ _ _ _ (_ :: _) _ _ _ _ _ _
  refine J_aload_n d_Ref_checkBeat_83 rfl ?_
  refine F_getR (ci := 12) (k := 92) hG (cf_Ref hw) (fl_Ref_256 hw) (by decide) (by decide) rfl d_Ref_checkBeat_84 g1 ?_
  refine J_iload_n d_Ref_checkBeat_87 rfl ?_
  obtain ⟨a6, ha6, H⟩ := Option.bind_eq_some_iff.mp H
  rw [j_rf ha6]
  obtain ⟨N7, hN7, H⟩ := Option.bind_eq_some_iff.mp H
  obtain ⟨k8, hk8, H⟩ := Option.bind_eq_some_iff.mp H
  refine F_lald k8 hw hG d_Ref_checkBeat_88 (gA_some hN7) (ix_some hk8) ?_
  obtain ⟨q9, hq9, H⟩ := Option.bind_eq_some_iff.mp H
  refine J_callS (kc := 0) (ks := 0) (kc' := 0) (ks' := 0) (as := [.long (q5.2.2.1 a6 k8)]) (st := [.int q5.1]) (mf_Ref_sizeOf hw) (ms_Ref_318 hw) d_Ref_checkBeat_89 ln_Ref_sizeOf (by decide) (by first | exact Nat.le_of_ble_eq_true rfl | (simp only [List.map_cons, List.map_nil, List.sum_cons, List.sum_nil, va_rf_cat]; exact Nat.le_of_ble_eq_true rfl)) rfl (p_Ref_sizeOf hw hG hq9) ?_ (fun E h' n' x' e1 => by cases e1.1)
  intro v9 h9 n9 x9 e9
  obtain ⟨e91, e92, e93⟩ := e9
  cases e91
  subst e92
  subst e93
  clear x
  rename Bool => x
  show J _ _ _ _ (_ :: _) _ _ _ _ _ _
  obtain ⟨q10, hq10, H⟩ := Option.bind_eq_some_iff.mp H
  refine J_callS (kc := 0) (ks := 0) (kc' := 0) (ks' := 0) (as := [.int q5.1, .int q9.1]) (st := []) (mf_Ref_lanesOf hw) (ms_Ref_370 hw) d_Ref_checkBeat_92 ln_Ref_lanesOf (by decide) (by first | exact Nat.le_of_ble_eq_true rfl | (simp only [List.map_cons, List.map_nil, List.sum_cons, List.sum_nil, va_rf_cat]; exact Nat.le_of_ble_eq_true rfl)) rfl (p_Ref_lanesOf hw hG hq10) ?_ (fun E h' n' x' e1 => by cases e1.1)
  intro v9 h9 n9 x9 e9
  obtain ⟨e91, e92, e93⟩ := e9
  cases e91
  subst e92
  subst e93
  clear x
  rename Bool => x
  show J _ _ _ _ (_ :: _) _ _ _ _ _ _
  refine J_istore d_Ref_checkBeat_95 (Nat.le_of_ble_eq_true rfl) ?_
  refine J_aload_n d_Ref_checkBeat_97 rfl ?_
  refine F_getR (ci := 12) (k := 95) hG (cf_Ref hw) (fl_Ref_265 hw) (by decide) (by decide) rfl d_Ref_checkBeat_98 g1 ?_
  refine J_bipush (v := 16) d_Ref_checkBeat_101 (by decide) ?_
  refine J_iload_n d_Ref_checkBeat_103 rfl ?_
  refine J_imul d_Ref_checkBeat_104 ?_
  refine J_iload_n d_Ref_checkBeat_105 rfl ?_
  refine J_iadd d_Ref_checkBeat_106 ?_
  obtain ⟨a11, ha11, H⟩ := Option.bind_eq_some_iff.mp H
  rw [j_rf ha11]
  obtain ⟨N12, hN12, H⟩ := Option.bind_eq_some_iff.mp H
  obtain ⟨k13, hk13, H⟩ := Option.bind_eq_some_iff.mp H
  refine F_iald k13 hw hG d_Ref_checkBeat_107 (gA_some hN12) (ix_some hk13) ?_
  refine J_sipush (v := 255) d_Ref_checkBeat_108 (by decide) ?_
  refine J_iand d_Ref_checkBeat_111 ?_
  refine J_iload d_Ref_checkBeat_112 rfl ?_
  refine J_iconst (v := -1) d_Ref_checkBeat_114 (by decide) ?_
  refine J_ixor d_Ref_checkBeat_115 ?_
  refine J_iand d_Ref_checkBeat_116 ?_
  refine J_if_eq (tgt := 129) d_Ref_checkBeat_117 (by decide) ?_ ?_
  · intro c15
    rw [if_pos c15] at H
    refine J.drop [false, false, false, false, false, false, false, false] rfl ?_
    exact p_Ref_checkBeat_L129 hw hG  H
  · intro c15
    rw [if_neg c15] at H
    refine J_aload_n d_Ref_checkBeat_120 rfl ?_
    refine J_iload_n d_Ref_checkBeat_121 rfl ?_
    refine J_bipush (v := 8) d_Ref_checkBeat_122 (by decide) ?_
    refine J_iload d_Ref_checkBeat_124 rfl ?_
    obtain ⟨q14, hq14, H⟩ := Option.bind_eq_some_iff.mp H
    refine J_callV (kc := 0) (ks := 0) (kc' := 0) (ks' := 0) (a := x0) (ci := 12) (as := [.int x1, .int (8 : Int32), .int x4]) (st := []) (mf_Ref_breakAt hw) (mv_Ref_415 hw) d_Ref_checkBeat_126 ln_Ref_breakAt (by decide) (by first | exact Nat.le_of_ble_eq_true rfl | (simp only [List.map_cons, List.map_nil, List.sum_cons, List.sum_nil, va_rf_cat]; exact Nat.le_of_ble_eq_true rfl)) rfl ((hG _).1 _ g1 (by decide)).1 ((hG _).1 _ g1 (by decide)).2 (by unfold pic; rw [g1]; rfl) (jcl_at hw rfl) rfl (p_Ref_breakAt hw hG hq14) ?_ (fun E h' n' x' e1 => by cases e1.1)
    intro v9 h9 n9 x9 e9
    obtain ⟨e91, e92, e93⟩ := e9
    cases e91
    subst e92
    subst e93
    clear x
    rename Bool => x
    show J _ _ _ _ [] _ _ _ _ _ _
    refine J.drop [false, false, false, false, false, false, false, false] rfl ?_
    exact p_Ref_checkBeat_L129 hw hG  H
def f_Ref_checkBeat_L63 (Γ : gm_T)  (φ : ph_T) (x0 : Nat) (x1 : Int32) (x4 : Int32) : Option (Unit × ph_T) :=
  @ite _ (Γ x0 = .inr 12) _ (
  Option.bind (f_Ref_breakAt Γ φ x0 x1 (7 : Int32) x4) fun q17 =>
  some ((), q17.2)
  ) none
set_option maxRecDepth 100000 in
set_option maxHeartbeats 4000000 in
theorem p_Ref_checkBeat_L63 {w : jw_T} (hw : jok w) {Γ : gm_T} {n : Nat} (hG : gd w Γ n)  {x : Bool} {φ : ph_T} {x0 : Nat} {x1 : Int32} {x4 : Int32} {q : Unit × ph_T} (H : f_Ref_checkBeat_L63 Γ  φ x0 x1 x4 = some q) : J w M_Ref_checkBeat 63 [some (.ref x0), some (.int x1), none, none, some (.int x4), none, none, none] [] (pic Γ φ) n x 0 0 (fq Γ n (.inl none) q.2) := by
  unfold f_Ref_checkBeat_L63 at H
  refine J_aload_n d_Ref_checkBeat_63 rfl ?_
  refine J_iload_n d_Ref_checkBeat_64 rfl ?_
  refine J_bipush (v := 7) d_Ref_checkBeat_65 (by decide) ?_
  refine J_iload d_Ref_checkBeat_67 rfl ?_
  have g16 : Γ x0 = .inr 12 := by
    apply Classical.byContradiction
    intro q9
    rw [if_neg q9] at H
    cases H
  rw [if_pos g16] at H
  obtain ⟨q17, hq17, H⟩ := Option.bind_eq_some_iff.mp H
  refine J_callV (kc := 0) (ks := 0) (kc' := 0) (ks' := 0) (a := x0) (ci := 12) (as := [.int x1, .int (7 : Int32), .int x4]) (st := []) (mf_Ref_breakAt hw) (mv_Ref_415 hw) d_Ref_checkBeat_69 ln_Ref_breakAt (by decide) (by first | exact Nat.le_of_ble_eq_true rfl | (simp only [List.map_cons, List.map_nil, List.sum_cons, List.sum_nil, va_rf_cat]; exact Nat.le_of_ble_eq_true rfl)) rfl ((hG _).1 _ g16 (by decide)).1 ((hG _).1 _ g16 (by decide)).2 (by unfold pic; rw [g16]; rfl) (jcl_at hw rfl) rfl (p_Ref_breakAt hw hG hq17) ?_ (fun E h' n' x' e1 => by cases e1.1)
  intro v9 h9 n9 x9 e9
  obtain ⟨e91, e92, e93⟩ := e9
  cases e91
  subst e92
  subst e93
  clear x
  rename Bool => x
  show J _ _ _ _ [] _ _ _ _ _ _
  cases H
  exact J_vret (st := []) d_Ref_checkBeat_72 rfl ⟨rfl, rfl, rfl⟩
def f_Ref_checkBeat_L34 (Γ : gm_T)  (φ : ph_T) (x0 : Nat) (x1 : Int32) (x2 : Int32) (x3 : Int32) (x4 : Int32) (x5 : Int32) (y0 : Int32) : Option (Unit × ph_T) :=
  if x3 = (x5 - (1 : Int32)) then
    if y0 = 0 then
      f_Ref_checkBeat_L63 Γ  φ x0 x1 x4
    else
      f_Ref_checkBeat_L73 Γ  φ x0 x1 x2 x3 x4
  else
    if y0 = 0 then
      if x3 < x5 then
        f_Ref_checkBeat_L73 Γ  φ x0 x1 x2 x3 x4
      else
        f_Ref_checkBeat_L63 Γ  φ x0 x1 x4
    else
      f_Ref_checkBeat_L63 Γ  φ x0 x1 x4
set_option maxRecDepth 100000 in
set_option maxHeartbeats 4000000 in
theorem p_Ref_checkBeat_L34 {w : jw_T} (hw : jok w) {Γ : gm_T} {n : Nat} (hG : gd w Γ n)  {x : Bool} {φ : ph_T} {x0 : Nat} {x1 : Int32} {x2 : Int32} {x3 : Int32} {x4 : Int32} {x5 : Int32} {y0 : Int32} {q : Unit × ph_T} (H : f_Ref_checkBeat_L34 Γ  φ x0 x1 x2 x3 x4 x5 y0 = some q) : J w M_Ref_checkBeat 34 [some (.ref x0), some (.int x1), some (.int x2), some (.int x3), some (.int x4), some (.int x5), none, none] [.int y0] (pic Γ φ) n x 0 0 (fq Γ n (.inl none) q.2) := by
  unfold f_Ref_checkBeat_L34 at H
  refine J_istore d_Ref_checkBeat_34 (Nat.le_of_ble_eq_true rfl) ?_
  refine J_iload_n d_Ref_checkBeat_36 rfl ?_
  refine J_iload d_Ref_checkBeat_37 rfl ?_
  refine J_iconst (v := 1) d_Ref_checkBeat_39 (by decide) ?_
  refine J_isub d_Ref_checkBeat_40 ?_
  refine J_icmp_ne (tgt := 52) d_Ref_checkBeat_41 (by decide) ?_ ?_
  · intro c21
    rw [if_neg c21] at H
    refine J_iload d_Ref_checkBeat_52 rfl ?_
    refine J_if_ne (tgt := 63) d_Ref_checkBeat_54 (by decide) ?_ ?_
    · intro c19
      rw [if_neg c19] at H
      refine J.drop [true, true, false, false, true, false, false, false] rfl ?_
      exact p_Ref_checkBeat_L63 hw hG  H
    · intro c19
      rw [if_pos c19] at H
      refine J_iload_n d_Ref_checkBeat_57 rfl ?_
      refine J_iload d_Ref_checkBeat_58 rfl ?_
      refine J_icmp_lt (tgt := 73) d_Ref_checkBeat_60 (by decide) ?_ ?_
      · intro c18
        rw [if_pos c18] at H
        refine J.drop [true, true, true, true, true, false, false, false] rfl ?_
        exact p_Ref_checkBeat_L73 hw hG  H
      · intro c18
        rw [if_neg c18] at H
        refine J.drop [true, true, false, false, true, false, false, false] rfl ?_
        exact p_Ref_checkBeat_L63 hw hG  H
  · intro c21
    rw [if_pos c21] at H
    refine J_iload d_Ref_checkBeat_44 rfl ?_
    refine J_if_ne (tgt := 73) d_Ref_checkBeat_46 (by decide) ?_ ?_
    · intro c20
      rw [if_neg c20] at H
      refine J.drop [true, true, true, true, true, false, false, false] rfl ?_
      exact p_Ref_checkBeat_L73 hw hG  H
    · intro c20
      rw [if_pos c20] at H
      refine J_goto (tgt := 63) d_Ref_checkBeat_49 (by decide) ?_
      refine J.drop [true, true, false, false, true, false, false, false] rfl ?_
      exact p_Ref_checkBeat_L63 hw hG  H
def f_Ref_checkBeat (Γ : gm_T) (φ : ph_T) (this : Nat) (p0 : Int32) (p1 : Int32) (p2 : Int32) (p3 : Int32) : Option (Unit × ph_T) :=
  @ite _ (Γ this = .inr 12) _ (
  Option.bind (φ.2.2 this 92) fun a23 =>
  Option.bind (gA Γ a23 1) fun N24 =>
  Option.bind (ix p1 N24) fun k25 =>
  Option.bind (f_Ref_lengthOf Γ φ (φ.2.1 a23 k25)) fun q26 =>
  Option.bind (q26.2.2.2 this 95) fun a27 =>
  Option.bind (gA Γ a27 0) fun N28 =>
  Option.bind (ix (((16 : Int32) * p1) + p2) N28) fun k29 =>
  if ((q26.2.1 a27 k29) &&& (256 : Int32)) = 0 then
    f_Ref_checkBeat_L34 Γ  q26.2 this p0 p1 p2 p3 q26.1 (0 : Int32)
  else
    f_Ref_checkBeat_L34 Γ  q26.2 this p0 p1 p2 p3 q26.1 (1 : Int32)
  ) none
set_option maxRecDepth 100000 in
set_option maxHeartbeats 4000000 in
theorem p_Ref_checkBeat {w : jw_T} (hw : jok w) {Γ : gm_T} {n : Nat} (hG : gd w Γ n) {x : Bool} {φ : ph_T} {this : Nat} {p0 : Int32} {p1 : Int32} {p2 : Int32} {p3 : Int32} {q : Unit × ph_T} (H : f_Ref_checkBeat Γ φ this p0 p1 p2 p3 = some q) : jc w M_Ref_checkBeat [.ref this, .int p0, .int p1, .int p2, .int p3] (pic Γ φ) n x 0 0 (fq Γ n (.inl none) q.2) := by
  refine jc.of (by simp only [jent_r, jent_i, jent_l, jent_a, jent_0]; exact Nat.le_of_ble_eq_true rfl) ?_
  have hls : jents [.ref this, .int p0, .int p1, .int p2, .int p3] (jm_nL M_Ref_checkBeat) = [some (.ref this), some (.int p0), some (.int p1), some (.int p2), some (.int p3), none, none, none] := by simp only [jents, jent_r, jent_i, jent_l, jent_a, jent_0]; rfl
  rw [hls]
  clear hls
  unfold f_Ref_checkBeat at H
  refine J_aload_n d_Ref_checkBeat_0 rfl ?_
  have g22 : Γ this = .inr 12 := by
    apply Classical.byContradiction
    intro q9
    rw [if_neg q9] at H
    cases H
  rw [if_pos g22] at H
  refine F_getR (ci := 12) (k := 92) hG (cf_Ref hw) (fl_Ref_256 hw) (by decide) (by decide) rfl d_Ref_checkBeat_1 g22 ?_
  refine J_iload_n d_Ref_checkBeat_4 rfl ?_
  obtain ⟨a23, ha23, H⟩ := Option.bind_eq_some_iff.mp H
  rw [j_rf ha23]
  obtain ⟨N24, hN24, H⟩ := Option.bind_eq_some_iff.mp H
  obtain ⟨k25, hk25, H⟩ := Option.bind_eq_some_iff.mp H
  refine F_lald k25 hw hG d_Ref_checkBeat_5 (gA_some hN24) (ix_some hk25) ?_
  obtain ⟨q26, hq26, H⟩ := Option.bind_eq_some_iff.mp H
  refine J_callS (kc := 0) (ks := 0) (kc' := 0) (ks' := 0) (as := [.long (φ.2.1 a23 k25)]) (st := []) (mf_Ref_lengthOf hw) (ms_Ref_321 hw) d_Ref_checkBeat_6 ln_Ref_lengthOf (by decide) (by first | exact Nat.le_of_ble_eq_true rfl | (simp only [List.map_cons, List.map_nil, List.sum_cons, List.sum_nil, va_rf_cat]; exact Nat.le_of_ble_eq_true rfl)) rfl (p_Ref_lengthOf hw hG hq26) ?_ (fun E h' n' x' e1 => by cases e1.1)
  intro v9 h9 n9 x9 e9
  obtain ⟨e91, e92, e93⟩ := e9
  cases e91
  subst e92
  subst e93
  clear x
  rename Bool => x
  show J _ _ _ _ (_ :: _) _ _ _ _ _ _
  refine J_istore d_Ref_checkBeat_9 (Nat.le_of_ble_eq_true rfl) ?_
  refine J_aload_n d_Ref_checkBeat_11 rfl ?_
  refine F_getR (ci := 12) (k := 95) hG (cf_Ref hw) (fl_Ref_265 hw) (by decide) (by decide) rfl d_Ref_checkBeat_12 g22 ?_
  refine J_bipush (v := 16) d_Ref_checkBeat_15 (by decide) ?_
  refine J_iload_n d_Ref_checkBeat_17 rfl ?_
  refine J_imul d_Ref_checkBeat_18 ?_
  refine J_iload_n d_Ref_checkBeat_19 rfl ?_
  refine J_iadd d_Ref_checkBeat_20 ?_
  obtain ⟨a27, ha27, H⟩ := Option.bind_eq_some_iff.mp H
  rw [j_rf ha27]
  obtain ⟨N28, hN28, H⟩ := Option.bind_eq_some_iff.mp H
  obtain ⟨k29, hk29, H⟩ := Option.bind_eq_some_iff.mp H
  refine F_iald k29 hw hG d_Ref_checkBeat_21 (gA_some hN28) (ix_some hk29) ?_
  refine J_sipush (v := 256) d_Ref_checkBeat_22 (by decide) ?_
  refine J_iand d_Ref_checkBeat_25 ?_
  refine J_if_eq (tgt := 33) d_Ref_checkBeat_26 (by decide) ?_ ?_
  · intro c30
    rw [if_pos c30] at H
    refine J_iconst (v := 0) d_Ref_checkBeat_33 (by decide) ?_
    refine J.drop [true, true, true, true, true, true, false, false] rfl ?_
    exact p_Ref_checkBeat_L34 hw hG  H
  · intro c30
    rw [if_neg c30] at H
    refine J_iconst (v := 1) d_Ref_checkBeat_29 (by decide) ?_
    refine J_goto (tgt := 34) d_Ref_checkBeat_30 (by decide) ?_
    refine J.drop [true, true, true, true, true, true, false, false] rfl ?_
    exact p_Ref_checkBeat_L34 hw hG  H
theorem ln_Ref_goAw : (parseMethodDescriptor y_Ref_goAw.desc).map (fun q => q.parameters.length) = some 2 := by decide +kernel
def f_Ref_goAw_L139 (Γ : gm_T)  (φ : ph_T) : Option (Unit × ph_T) :=
  some ((), φ)
set_option maxRecDepth 100000 in
set_option maxHeartbeats 4000000 in
theorem p_Ref_goAw_L139 {w : jw_T} (hw : jok w) {Γ : gm_T} {n : Nat} (hG : gd w Γ n)  {x : Bool} {φ : ph_T} {q : Unit × ph_T} (H : f_Ref_goAw_L139 Γ  φ  = some q) : J w M_Ref_goAw 139 [none, none, none, none, none, none] [] (pic Γ φ) n x 0 0 (fq Γ n (.inl none) q.2) := by
  unfold f_Ref_goAw_L139 at H
  cases H
  exact J_vret (st := []) d_Ref_goAw_139 rfl ⟨rfl, rfl, rfl⟩
def f_Ref_goAw_L102 (Γ : gm_T)  : Nat → ph_T → Nat → Int32 → Int32 → Int32 → Option (Unit × ph_T)
  | 0, _, _, _, _, _ => none
  | fu + 1, φ, x0, x1, x4, x5 =>
    @ite _ (Γ x0 = .inr 12) _ (
    Option.bind (φ.2.2 x0 93) fun a2 =>
    Option.bind (gA Γ a2 0) fun N3 =>
    Option.bind (ix x4 N3) fun k4 =>
    if (φ.1 a2 k4) ≤ x5 then
      f_Ref_goAw_L139 Γ  φ 
    else
      Option.bind (φ.2.2 x0 86) fun a5 =>
      Option.bind (gA Γ a5 0) fun N6 =>
      Option.bind (ix x1 N6) fun k7 =>
      if (φ.1 a5 k7) = 0 then
        Option.bind (f_Ref_checkBeat Γ φ x0 x1 x4 x5 (0 : Int32)) fun q8 =>
        (f_Ref_goAw_L102 Γ  fu) q8.2 x0 x1 x4 (x5 + (1 : Int32))
      else
        f_Ref_goAw_L139 Γ  φ 
    ) none
set_option maxRecDepth 100000 in
set_option maxHeartbeats 4000000 in
theorem p_Ref_goAw_L102 {w : jw_T} (hw : jok w) {Γ : gm_T} {n : Nat} (hG : gd w Γ n)  : ∀ (fu : Nat) {x : Bool} {φ : ph_T} {x0 : Nat} {x1 : Int32} {x4 : Int32} {x5 : Int32} {q : Unit × ph_T}, f_Ref_goAw_L102 Γ  fu φ x0 x1 x4 x5 = some q → J w M_Ref_goAw 102 [some (.ref x0), some (.int x1), none, none, some (.int x4), some (.int x5)] [] (pic Γ φ) n x 0 0 (fq Γ n (.inl none) q.2) := by
  intro fu
  induction fu with
  | zero =>
    intro x φ x0 x1 x4 x5 q H
    cases H
  | succ fu ih =>
    intro x φ x0 x1 x4 x5 q H
    unfold f_Ref_goAw_L102 at H
    refine J_iload d_Ref_goAw_102 rfl ?_
    refine J_aload_n d_Ref_goAw_104 rfl ?_
    have g1 : Γ x0 = .inr 12 := by
      apply Classical.byContradiction
      intro q9
      rw [if_neg q9] at H
      cases H
    rw [if_pos g1] at H
    refine F_getR (ci := 12) (k := 93) hG (cf_Ref hw) (fl_Ref_259 hw) (by decide) (by decide) rfl d_Ref_goAw_105 g1 ?_
    refine J_iload d_Ref_goAw_108 rfl ?_
    obtain ⟨a2, ha2, H⟩ := Option.bind_eq_some_iff.mp H
    rw [j_rf ha2]
    obtain ⟨N3, hN3, H⟩ := Option.bind_eq_some_iff.mp H
    obtain ⟨k4, hk4, H⟩ := Option.bind_eq_some_iff.mp H
    refine F_iald k4 hw hG d_Ref_goAw_110 (gA_some hN3) (ix_some hk4) ?_
    refine J_icmp_ge (tgt := 139) d_Ref_goAw_111 (by decide) ?_ ?_
    · intro c10
      rw [if_pos c10] at H
      refine J.drop [false, false, false, false, false, false] rfl ?_
      exact p_Ref_goAw_L139 hw hG  H
    · intro c10
      rw [if_neg c10] at H
      refine J_aload_n d_Ref_goAw_114 rfl ?_
      refine F_getR (ci := 12) (k := 86) hG (cf_Ref hw) (fl_Ref_238 hw) (by decide) (by decide) rfl d_Ref_goAw_115 g1 ?_
      refine J_iload_n d_Ref_goAw_118 rfl ?_
      obtain ⟨a5, ha5, H⟩ := Option.bind_eq_some_iff.mp H
      rw [j_rf ha5]
      obtain ⟨N6, hN6, H⟩ := Option.bind_eq_some_iff.mp H
      obtain ⟨k7, hk7, H⟩ := Option.bind_eq_some_iff.mp H
      refine F_iald k7 hw hG d_Ref_goAw_119 (gA_some hN6) (ix_some hk7) ?_
      refine J_if_ne (tgt := 139) d_Ref_goAw_120 (by decide) ?_ ?_
      · intro c9
        rw [if_neg c9] at H
        refine J.drop [false, false, false, false, false, false] rfl ?_
        exact p_Ref_goAw_L139 hw hG  H
      · intro c9
        rw [if_pos c9] at H
        refine J_aload_n d_Ref_goAw_123 rfl ?_
        refine J_iload_n d_Ref_goAw_124 rfl ?_
        refine J_iload d_Ref_goAw_125 rfl ?_
        refine J_iload d_Ref_goAw_127 rfl ?_
        refine J_iconst (v := 0) d_Ref_goAw_129 (by decide) ?_
        obtain ⟨q8, hq8, H⟩ := Option.bind_eq_some_iff.mp H
        refine J_callV (kc := 0) (ks := 0) (kc' := 0) (ks' := 0) (a := x0) (ci := 12) (as := [.int x1, .int x4, .int x5, .int (0 : Int32)]) (st := []) (mf_Ref_checkBeat hw) (mv_Ref_437 hw) d_Ref_goAw_130 ln_Ref_checkBeat (by decide) (by first | exact Nat.le_of_ble_eq_true rfl | (simp only [List.map_cons, List.map_nil, List.sum_cons, List.sum_nil, va_rf_cat]; exact Nat.le_of_ble_eq_true rfl)) rfl ((hG _).1 _ g1 (by decide)).1 ((hG _).1 _ g1 (by decide)).2 (by unfold pic; rw [g1]; rfl) (jcl_at hw rfl) rfl (p_Ref_checkBeat hw hG hq8) ?_ (fun E h' n' x' e1 => by cases e1.1)
        intro v9 h9 n9 x9 e9
        obtain ⟨e91, e92, e93⟩ := e9
        cases e91
        subst e92
        subst e93
        clear x
        rename Bool => x
        show J _ _ _ _ [] _ _ _ _ _ _
        refine J_iinc (v := x5 + 1) d_Ref_goAw_133 rfl (by rw [show Int32.ofInt 1 = (1 : Int32) from by decide]) ?_
        refine J_goto (tgt := 102) d_Ref_goAw_136 (by decide) ?_
        refine J.drop [true, true, false, false, true, true] rfl ?_
        exact ih H
def f_Ref_goAw_L74 (Γ : gm_T)  (φ : ph_T) (x0 : Nat) (x1 : Int32) (x2 : Int64) (y0 : Int32) : Option (Unit × ph_T) :=
  if y0 = (-1 : Int32) then
    some ((), φ)
  else
    @ite _ (Γ x0 = .inr 12) _ (
    Option.bind (φ.2.2 x0 91) fun a12 =>
    Option.bind (gA Γ a12 2) fun N13 =>
    Option.bind (ix y0 N13) fun k14 =>
    @ite _ ((1 : Int32) = 0 ∨ (1 : Int32) = 1) _ (
    Option.bind ((uI φ a12 k14 (1 : Int32)).2.2 x0 92) fun a16 =>
    Option.bind (gA Γ a16 1) fun N17 =>
    Option.bind (ix y0 N17) fun k18 =>
    f_Ref_goAw_L102 Γ  jF (uL (uI φ a12 k14 (1 : Int32)) a16 k18 x2) x0 x1 y0 (0 : Int32)
    ) none
    ) none
set_option maxRecDepth 100000 in
set_option maxHeartbeats 4000000 in
theorem p_Ref_goAw_L74 {w : jw_T} (hw : jok w) {Γ : gm_T} {n : Nat} (hG : gd w Γ n)  {x : Bool} {φ : ph_T} {x0 : Nat} {x1 : Int32} {x2 : Int64} {y0 : Int32} {q : Unit × ph_T} (H : f_Ref_goAw_L74 Γ  φ x0 x1 x2 y0 = some q) : J w M_Ref_goAw 74 [some (.ref x0), some (.int x1), some (.long x2), none, none, none] [.int y0] (pic Γ φ) n x 0 0 (fq Γ n (.inl none) q.2) := by
  unfold f_Ref_goAw_L74 at H
  refine J_istore d_Ref_goAw_74 (Nat.le_of_ble_eq_true rfl) ?_
  refine J_iload d_Ref_goAw_76 rfl ?_
  refine J_iconst (v := -1) d_Ref_goAw_78 (by decide) ?_
  refine J_icmp_ne (tgt := 83) d_Ref_goAw_79 (by decide) ?_ ?_
  · intro c19
    rw [if_neg c19] at H
    refine J_aload_n d_Ref_goAw_83 rfl ?_
    have g11 : Γ x0 = .inr 12 := by
      apply Classical.byContradiction
      intro q9
      rw [if_neg q9] at H
      cases H
    rw [if_pos g11] at H
    refine F_getR (ci := 12) (k := 91) hG (cf_Ref hw) (fl_Ref_253 hw) (by decide) (by decide) rfl d_Ref_goAw_84 g11 ?_
    refine J_iload d_Ref_goAw_87 rfl ?_
    refine J_iconst (v := 1) d_Ref_goAw_89 (by decide) ?_
    obtain ⟨a12, ha12, H⟩ := Option.bind_eq_some_iff.mp H
    rw [j_rf ha12]
    obtain ⟨N13, hN13, H⟩ := Option.bind_eq_some_iff.mp H
    obtain ⟨k14, hk14, H⟩ := Option.bind_eq_some_iff.mp H
    have z15 : (1 : Int32) = 0 ∨ (1 : Int32) = 1 := by
      apply Classical.byContradiction
      intro q9
      rw [if_neg q9] at H
      cases H
    rw [if_pos z15] at H
    refine F_zast k14 hw hG d_Ref_goAw_90 (gA_some hN13) (ix_some hk14) z15 ?_
    refine J_aload_n d_Ref_goAw_91 rfl ?_
    refine F_getR (ci := 12) (k := 92) hG (cf_Ref hw) (fl_Ref_256 hw) (by decide) (by decide) rfl d_Ref_goAw_92 g11 ?_
    refine J_iload d_Ref_goAw_95 rfl ?_
    refine J_lload_n d_Ref_goAw_97 rfl ?_
    obtain ⟨a16, ha16, H⟩ := Option.bind_eq_some_iff.mp H
    rw [j_rf ha16]
    obtain ⟨N17, hN17, H⟩ := Option.bind_eq_some_iff.mp H
    obtain ⟨k18, hk18, H⟩ := Option.bind_eq_some_iff.mp H
    refine F_last k18 hw hG d_Ref_goAw_98 (gA_some hN17) (ix_some hk18) ?_
    refine J_iconst (v := 0) d_Ref_goAw_99 (by decide) ?_
    refine J_istore d_Ref_goAw_100 (Nat.le_of_ble_eq_true rfl) ?_
    refine J.drop [true, true, false, false, true, true] rfl ?_
    exact p_Ref_goAw_L102 hw hG  _ H
  · intro c19
    rw [if_pos c19] at H
    cases H
    exact J_vret (st := []) d_Ref_goAw_82 rfl ⟨rfl, rfl, rfl⟩
def f_Ref_goAw_L57 (Γ : gm_T)  (φ : ph_T) (x0 : Nat) (x1 : Int32) (x2 : Int64) (x4 : Int32) : Option (Unit × ph_T) :=
  if x4 = (-1 : Int32) then
    @ite _ (Γ x0 = .inr 12) _ (
    Option.bind (f_Ref_newWrite Γ φ x0 x1 (0 : Int32)) fun q21 =>
    f_Ref_goAw_L74 Γ  q21.2 x0 x1 x2 q21.1
    ) none
  else
    f_Ref_goAw_L74 Γ  φ x0 x1 x2 x4
set_option maxRecDepth 100000 in
set_option maxHeartbeats 4000000 in
theorem p_Ref_goAw_L57 {w : jw_T} (hw : jok w) {Γ : gm_T} {n : Nat} (hG : gd w Γ n)  {x : Bool} {φ : ph_T} {x0 : Nat} {x1 : Int32} {x2 : Int64} {x4 : Int32} {q : Unit × ph_T} (H : f_Ref_goAw_L57 Γ  φ x0 x1 x2 x4 = some q) : J w M_Ref_goAw 57 [some (.ref x0), some (.int x1), some (.long x2), none, some (.int x4), none] [] (pic Γ φ) n x 0 0 (fq Γ n (.inl none) q.2) := by
  unfold f_Ref_goAw_L57 at H
  refine J_iload d_Ref_goAw_57 rfl ?_
  refine J_iconst (v := -1) d_Ref_goAw_59 (by decide) ?_
  refine J_icmp_ne (tgt := 72) d_Ref_goAw_60 (by decide) ?_ ?_
  · intro c22
    rw [if_neg c22] at H
    refine J_iload d_Ref_goAw_72 rfl ?_
    refine J.drop [true, true, true, false, false, false] rfl ?_
    exact p_Ref_goAw_L74 hw hG  H
  · intro c22
    rw [if_pos c22] at H
    refine J_aload_n d_Ref_goAw_63 rfl ?_
    refine J_iload_n d_Ref_goAw_64 rfl ?_
    refine J_iconst (v := 0) d_Ref_goAw_65 (by decide) ?_
    have g20 : Γ x0 = .inr 12 := by
      apply Classical.byContradiction
      intro q9
      rw [if_neg q9] at H
      cases H
    rw [if_pos g20] at H
    obtain ⟨q21, hq21, H⟩ := Option.bind_eq_some_iff.mp H
    refine J_callV (kc := 0) (ks := 0) (kc' := 0) (ks' := 0) (a := x0) (ci := 12) (as := [.int x1, .int (0 : Int32)]) (st := []) (mf_Ref_newWrite hw) (mv_Ref_434 hw) d_Ref_goAw_66 ln_Ref_newWrite (by decide) (by first | exact Nat.le_of_ble_eq_true rfl | (simp only [List.map_cons, List.map_nil, List.sum_cons, List.sum_nil, va_rf_cat]; exact Nat.le_of_ble_eq_true rfl)) rfl ((hG _).1 _ g20 (by decide)).1 ((hG _).1 _ g20 (by decide)).2 (by unfold pic; rw [g20]; rfl) (jcl_at hw rfl) rfl (p_Ref_newWrite hw hG hq21) ?_ (fun E h' n' x' e1 => by cases e1.1)
    intro v9 h9 n9 x9 e9
    obtain ⟨e91, e92, e93⟩ := e9
    cases e91
    subst e92
    subst e93
    clear x
    rename Bool => x
    show J _ _ _ _ (_ :: _) _ _ _ _ _ _
    refine J_goto (tgt := 74) d_Ref_goAw_69 (by decide) ?_
    refine J.drop [true, true, true, false, false, false] rfl ?_
    exact p_Ref_goAw_L74 hw hG  H
def f_Ref_goAw_L49 (Γ : gm_T) (Kc6 : ph_T → Nat → Int32 → Int64 → Int32 → Int32 → Option (Unit × ph_T)) (φ : ph_T) (x0 : Nat) (x1 : Int32) (x2 : Int64) (x5 : Int32) (y0 : Int32) : Option (Unit × ph_T) :=
  Kc6 φ x0 x1 x2 y0 (x5 + (1 : Int32))
set_option maxRecDepth 100000 in
set_option maxHeartbeats 4000000 in
theorem p_Ref_goAw_L49 {w : jw_T} (hw : jok w) {Γ : gm_T} {n : Nat} (hG : gd w Γ n) {Kc6 : ph_T → Nat → Int32 → Int64 → Int32 → Int32 → Option (Unit × ph_T)} (hKc6 : ∀ {x : Bool} {φ : ph_T} {x0 : Nat} {x1 : Int32} {x2 : Int64} {x4 : Int32} {x5 : Int32} {q : Unit × ph_T}, Kc6 φ x0 x1 x2 x4 x5 = some q → J w M_Ref_goAw 6 [some (.ref x0), some (.int x1), some (.long x2), none, some (.int x4), some (.int x5)] [] (pic Γ φ) n x 0 0 (fq Γ n (.inl none) q.2)) {x : Bool} {φ : ph_T} {x0 : Nat} {x1 : Int32} {x2 : Int64} {x5 : Int32} {y0 : Int32} {q : Unit × ph_T} (H : f_Ref_goAw_L49 Γ Kc6 φ x0 x1 x2 x5 y0 = some q) : J w M_Ref_goAw 49 [some (.ref x0), some (.int x1), some (.long x2), none, none, some (.int x5)] [.int y0] (pic Γ φ) n x 0 0 (fq Γ n (.inl none) q.2) := by
  unfold f_Ref_goAw_L49 at H
  refine J_istore d_Ref_goAw_49 (Nat.le_of_ble_eq_true rfl) ?_
  refine J_iinc (v := x5 + 1) d_Ref_goAw_51 rfl (by rw [show Int32.ofInt 1 = (1 : Int32) from by decide]) ?_
  refine J_goto (tgt := 6) d_Ref_goAw_54 (by decide) ?_
  refine J.drop [true, true, true, false, true, true] rfl ?_
  exact hKc6 H
def f_Ref_goAw_L6 (Γ : gm_T)  : Nat → ph_T → Nat → Int32 → Int64 → Int32 → Int32 → Option (Unit × ph_T)
  | 0, _, _, _, _, _, _ => none
  | fu + 1, φ, x0, x1, x2, x4, x5 =>
    @ite _ (Γ x0 = .inr 12) _ (
    Option.bind (φ.2.2 x0 89) fun a24 =>
    Option.bind (gA Γ a24 0) fun N25 =>
    Option.bind (ix x1 N25) fun k26 =>
    if (φ.1 a24 k26) ≤ x5 then
      f_Ref_goAw_L57 Γ  φ x0 x1 x2 x4
    else
      if x4 = (-1 : Int32) then
        Option.bind (φ.2.2 x0 91) fun a27 =>
        Option.bind (gA Γ a27 2) fun N28 =>
        Option.bind (ix (((16 : Int32) * x1) + x5) N28) fun k29 =>
        if (φ.1 a27 k29) = 0 then
          f_Ref_goAw_L49 Γ (f_Ref_goAw_L6 Γ  fu) φ x0 x1 x2 x5 (((16 : Int32) * x1) + x5)
        else
          f_Ref_goAw_L49 Γ (f_Ref_goAw_L6 Γ  fu) φ x0 x1 x2 x5 (-1 : Int32)
      else
        f_Ref_goAw_L57 Γ  φ x0 x1 x2 x4
    ) none
set_option maxRecDepth 100000 in
set_option maxHeartbeats 4000000 in
theorem p_Ref_goAw_L6 {w : jw_T} (hw : jok w) {Γ : gm_T} {n : Nat} (hG : gd w Γ n)  : ∀ (fu : Nat) {x : Bool} {φ : ph_T} {x0 : Nat} {x1 : Int32} {x2 : Int64} {x4 : Int32} {x5 : Int32} {q : Unit × ph_T}, f_Ref_goAw_L6 Γ  fu φ x0 x1 x2 x4 x5 = some q → J w M_Ref_goAw 6 [some (.ref x0), some (.int x1), some (.long x2), none, some (.int x4), some (.int x5)] [] (pic Γ φ) n x 0 0 (fq Γ n (.inl none) q.2) := by
  intro fu
  induction fu with
  | zero =>
    intro x φ x0 x1 x2 x4 x5 q H
    cases H
  | succ fu ih =>
    intro x φ x0 x1 x2 x4 x5 q H
    unfold f_Ref_goAw_L6 at H
    refine J_iload d_Ref_goAw_6 rfl ?_
    refine J_aload_n d_Ref_goAw_8 rfl ?_
    have g23 : Γ x0 = .inr 12 := by
      apply Classical.byContradiction
      intro q9
      rw [if_neg q9] at H
      cases H
    rw [if_pos g23] at H
    refine F_getR (ci := 12) (k := 89) hG (cf_Ref hw) (fl_Ref_247 hw) (by decide) (by decide) rfl d_Ref_goAw_9 g23 ?_
    refine J_iload_n d_Ref_goAw_12 rfl ?_
    obtain ⟨a24, ha24, H⟩ := Option.bind_eq_some_iff.mp H
    rw [j_rf ha24]
    obtain ⟨N25, hN25, H⟩ := Option.bind_eq_some_iff.mp H
    obtain ⟨k26, hk26, H⟩ := Option.bind_eq_some_iff.mp H
    refine F_iald k26 hw hG d_Ref_goAw_13 (gA_some hN25) (ix_some hk26) ?_
    refine J_icmp_ge (tgt := 57) d_Ref_goAw_14 (by decide) ?_ ?_
    · intro c32
      rw [if_pos c32] at H
      refine J.drop [true, true, true, false, true, false] rfl ?_
      exact p_Ref_goAw_L57 hw hG  H
    · intro c32
      rw [if_neg c32] at H
      refine J_iload d_Ref_goAw_17 rfl ?_
      refine J_iconst (v := -1) d_Ref_goAw_19 (by decide) ?_
      refine J_icmp_ne (tgt := 57) d_Ref_goAw_20 (by decide) ?_ ?_
      · intro c31
        rw [if_neg c31] at H
        refine J.drop [true, true, true, false, true, false] rfl ?_
        exact p_Ref_goAw_L57 hw hG  H
      · intro c31
        rw [if_pos c31] at H
        refine J_aload_n d_Ref_goAw_23 rfl ?_
        refine F_getR (ci := 12) (k := 91) hG (cf_Ref hw) (fl_Ref_253 hw) (by decide) (by decide) rfl d_Ref_goAw_24 g23 ?_
        refine J_bipush (v := 16) d_Ref_goAw_27 (by decide) ?_
        refine J_iload_n d_Ref_goAw_29 rfl ?_
        refine J_imul d_Ref_goAw_30 ?_
        refine J_iload d_Ref_goAw_31 rfl ?_
        refine J_iadd d_Ref_goAw_33 ?_
        obtain ⟨a27, ha27, H⟩ := Option.bind_eq_some_iff.mp H
        rw [j_rf ha27]
        obtain ⟨N28, hN28, H⟩ := Option.bind_eq_some_iff.mp H
        obtain ⟨k29, hk29, H⟩ := Option.bind_eq_some_iff.mp H
        refine F_zald k29 hw hG d_Ref_goAw_34 (gA_some hN28) (ix_some hk29) ?_
        refine J_if_eq (tgt := 42) d_Ref_goAw_35 (by decide) ?_ ?_
        · intro c30
          rw [if_pos c30] at H
          refine J_bipush (v := 16) d_Ref_goAw_42 (by decide) ?_
          refine J_iload_n d_Ref_goAw_44 rfl ?_
          refine J_imul d_Ref_goAw_45 ?_
          refine J_iload d_Ref_goAw_46 rfl ?_
          refine J_iadd d_Ref_goAw_48 ?_
          refine J.drop [true, true, true, false, false, true] rfl ?_
          exact p_Ref_goAw_L49 hw hG ih H
        · intro c30
          rw [if_neg c30] at H
          refine J_iconst (v := -1) d_Ref_goAw_38 (by decide) ?_
          refine J_goto (tgt := 49) d_Ref_goAw_39 (by decide) ?_
          refine J.drop [true, true, true, false, false, true] rfl ?_
          exact p_Ref_goAw_L49 hw hG ih H
def f_Ref_goAw (Γ : gm_T) (φ : ph_T) (this : Nat) (p0 : Int32) (p1 : Int64) : Option (Unit × ph_T) :=
  f_Ref_goAw_L6 Γ  jF φ this p0 p1 (-1 : Int32) (0 : Int32)
set_option maxRecDepth 100000 in
set_option maxHeartbeats 4000000 in
theorem p_Ref_goAw {w : jw_T} (hw : jok w) {Γ : gm_T} {n : Nat} (hG : gd w Γ n) {x : Bool} {φ : ph_T} {this : Nat} {p0 : Int32} {p1 : Int64} {q : Unit × ph_T} (H : f_Ref_goAw Γ φ this p0 p1 = some q) : jc w M_Ref_goAw [.ref this, .int p0, .long p1] (pic Γ φ) n x 0 0 (fq Γ n (.inl none) q.2) := by
  refine jc.of (by simp only [jent_r, jent_i, jent_l, jent_a, jent_0]; exact Nat.le_of_ble_eq_true rfl) ?_
  have hls : jents [.ref this, .int p0, .long p1] (jm_nL M_Ref_goAw) = [some (.ref this), some (.int p0), some (.long p1), none, none, none] := by simp only [jents, jent_r, jent_i, jent_l, jent_a, jent_0]; rfl
  rw [hls]
  clear hls
  unfold f_Ref_goAw at H
  refine J_iconst (v := -1) d_Ref_goAw_0 (by decide) ?_
  refine J_istore d_Ref_goAw_1 (Nat.le_of_ble_eq_true rfl) ?_
  refine J_iconst (v := 0) d_Ref_goAw_3 (by decide) ?_
  refine J_istore d_Ref_goAw_4 (Nat.le_of_ble_eq_true rfl) ?_
  refine J.drop [true, true, true, false, true, true] rfl ?_
  exact p_Ref_goAw_L6 hw hG  _ H
