theorem ln_Ref_goes : (parseMethodDescriptor y_Ref_goes.desc).map (fun q => q.parameters.length) = some 2 := by decide +kernel
def f_Ref_goes_L53 (Γ : gm_T)  (φ : ph_T) (y0 : Int32) : Option (Int32 × ph_T) :=
  @ite _ (y0 = 0 ∨ y0 = 1) _ (
  some (y0, φ)
  ) none
set_option maxRecDepth 100000 in
set_option maxHeartbeats 4000000 in
theorem p_Ref_goes_L53 {w : jw_T} (hw : jok w) {Γ : gm_T} {n : Nat} (hG : gd w Γ n)  {x : Bool} {φ : ph_T} {y0 : Int32} {q : Int32 × ph_T} (H : f_Ref_goes_L53 Γ  φ y0 = some q) : J w M_Ref_goes 53 [none, none, none] [.int y0] (pic Γ φ) n x 0 0 (fq Γ n (.inl (some (.int q.1))) q.2) := by
  unfold f_Ref_goes_L53 at H
  have z1 : y0 = 0 ∨ y0 = 1 := by
    apply Classical.byContradiction
    intro q9
    rw [if_neg q9] at H
    cases H
  rw [if_pos z1] at H
  have H := Option.some.inj H
  subst H
  exact J_iret (st := []) d_Ref_goes_53 rfl (narrow_z z1).1 ⟨rfl, rfl, rfl⟩
def f_Ref_goes_L52 (Γ : gm_T)  (φ : ph_T) : Option (Int32 × ph_T) :=
  f_Ref_goes_L53 Γ  φ (0 : Int32)
set_option maxRecDepth 100000 in
set_option maxHeartbeats 4000000 in
theorem p_Ref_goes_L52 {w : jw_T} (hw : jok w) {Γ : gm_T} {n : Nat} (hG : gd w Γ n)  {x : Bool} {φ : ph_T} {q : Int32 × ph_T} (H : f_Ref_goes_L52 Γ  φ  = some q) : J w M_Ref_goes 52 [none, none, none] [] (pic Γ φ) n x 0 0 (fq Γ n (.inl (some (.int q.1))) q.2) := by
  unfold f_Ref_goes_L52 at H
  refine J_iconst (v := 0) d_Ref_goes_52 (by decide) ?_
  refine J.drop [false, false, false] rfl ?_
  exact p_Ref_goes_L53 hw hG  H
def f_Ref_goes_L26 (Γ : gm_T)  (φ : ph_T) : Option (Int32 × ph_T) :=
  f_Ref_goes_L53 Γ  φ (0 : Int32)
set_option maxRecDepth 100000 in
set_option maxHeartbeats 4000000 in
theorem p_Ref_goes_L26 {w : jw_T} (hw : jok w) {Γ : gm_T} {n : Nat} (hG : gd w Γ n)  {x : Bool} {φ : ph_T} {q : Int32 × ph_T} (H : f_Ref_goes_L26 Γ  φ  = some q) : J w M_Ref_goes 26 [none, none, none] [] (pic Γ φ) n x 0 0 (fq Γ n (.inl (some (.int q.1))) q.2) := by
  unfold f_Ref_goes_L26 at H
  refine J_iconst (v := 0) d_Ref_goes_26 (by decide) ?_
  refine J_goto (tgt := 53) d_Ref_goes_27 (by decide) ?_
  refine J.drop [false, false, false] rfl ?_
  exact p_Ref_goes_L53 hw hG  H
def f_Ref_goes (Γ : gm_T) (φ : ph_T) (this : Nat) (p0 : Int32) (p1 : Int32) : Option (Int32 × ph_T) :=
  if p1 = 0 then
    @ite _ (Γ this = .inr 12) _ (
    Option.bind (φ.2.2 this 33) fun a3 =>
    Option.bind (gA Γ a3 2) fun N4 =>
    Option.bind (ix p0 N4) fun k5 =>
    if (φ.1 a3 k5) = 0 then
      f_Ref_goes_L52 Γ  φ 
    else
      Option.bind (φ.2.2 this 34) fun a6 =>
      Option.bind (gA Γ a6 2) fun N7 =>
      Option.bind (ix p0 N7) fun k8 =>
      if (φ.1 a6 k8) = 0 then
        f_Ref_goes_L52 Γ  φ 
      else
        f_Ref_goes_L53 Γ  φ (1 : Int32)
    ) none
  else
    @ite _ (Γ this = .inr 12) _ (
    Option.bind (φ.2.2 this 98) fun a12 =>
    Option.bind (gA Γ a12 2) fun N13 =>
    Option.bind (ix p0 N13) fun k14 =>
    if (φ.1 a12 k14) = 0 then
      f_Ref_goes_L26 Γ  φ 
    else
      Option.bind (φ.2.2 this 99) fun a15 =>
      Option.bind (gA Γ a15 2) fun N16 =>
      Option.bind (ix p0 N16) fun k17 =>
      if (φ.1 a15 k17) = 0 then
        f_Ref_goes_L26 Γ  φ 
      else
        f_Ref_goes_L53 Γ  φ (1 : Int32)
    ) none
set_option maxRecDepth 100000 in
set_option maxHeartbeats 4000000 in
theorem p_Ref_goes {w : jw_T} (hw : jok w) {Γ : gm_T} {n : Nat} (hG : gd w Γ n) {x : Bool} {φ : ph_T} {this : Nat} {p0 : Int32} {p1 : Int32} {q : Int32 × ph_T} (H : f_Ref_goes Γ φ this p0 p1 = some q) : jc w M_Ref_goes [.ref this, .int p0, .int p1] (pic Γ φ) n x 0 0 (fq Γ n (.inl (some (.int q.1))) q.2) := by
  refine jc.of (by simp only [jent_r, jent_i, jent_l, jent_a, jent_0]; exact Nat.le_of_ble_eq_true rfl) ?_
  have hls : jents [.ref this, .int p0, .int p1] (jm_nL M_Ref_goes) = [some (.ref this), some (.int p0), some (.int p1)] := by simp only [jents, jent_r, jent_i, jent_l, jent_a, jent_0]; rfl
  rw [hls]
  clear hls
  unfold f_Ref_goes at H
  refine J_iload_n d_Ref_goes_0 rfl ?_
  refine J_if_eq (tgt := 30) d_Ref_goes_1 (by decide) ?_ ?_
  · intro c20
    rw [if_pos c20] at H
    refine J_aload_n d_Ref_goes_30 rfl ?_
    have g2 : Γ this = .inr 12 := by
      apply Classical.byContradiction
      intro q9
      rw [if_neg q9] at H
      cases H
    rw [if_pos g2] at H
    refine F_getR (ci := 12) (k := 33) hG (cf_Ref hw) (fl_Ref_88 hw) (by decide) (by decide) rfl d_Ref_goes_31 g2 ?_
    refine J_iload_n d_Ref_goes_34 rfl ?_
    obtain ⟨a3, ha3, H⟩ := Option.bind_eq_some_iff.mp H
    rw [j_rf ha3]
    obtain ⟨N4, hN4, H⟩ := Option.bind_eq_some_iff.mp H
    obtain ⟨k5, hk5, H⟩ := Option.bind_eq_some_iff.mp H
    refine F_zald k5 hw hG d_Ref_goes_35 (gA_some hN4) (ix_some hk5) ?_
    refine J_if_eq (tgt := 52) d_Ref_goes_36 (by decide) ?_ ?_
    · intro c10
      rw [if_pos c10] at H
      refine J.drop [false, false, false] rfl ?_
      exact p_Ref_goes_L52 hw hG  H
    · intro c10
      rw [if_neg c10] at H
      refine J_aload_n d_Ref_goes_39 rfl ?_
      refine F_getR (ci := 12) (k := 34) hG (cf_Ref hw) (fl_Ref_91 hw) (by decide) (by decide) rfl d_Ref_goes_40 g2 ?_
      refine J_iload_n d_Ref_goes_43 rfl ?_
      obtain ⟨a6, ha6, H⟩ := Option.bind_eq_some_iff.mp H
      rw [j_rf ha6]
      obtain ⟨N7, hN7, H⟩ := Option.bind_eq_some_iff.mp H
      obtain ⟨k8, hk8, H⟩ := Option.bind_eq_some_iff.mp H
      refine F_zald k8 hw hG d_Ref_goes_44 (gA_some hN7) (ix_some hk8) ?_
      refine J_if_eq (tgt := 52) d_Ref_goes_45 (by decide) ?_ ?_
      · intro c9
        rw [if_pos c9] at H
        refine J.drop [false, false, false] rfl ?_
        exact p_Ref_goes_L52 hw hG  H
      · intro c9
        rw [if_neg c9] at H
        refine J_iconst (v := 1) d_Ref_goes_48 (by decide) ?_
        refine J_goto (tgt := 53) d_Ref_goes_49 (by decide) ?_
        refine J.drop [false, false, false] rfl ?_
        exact p_Ref_goes_L53 hw hG  H
  · intro c20
    rw [if_neg c20] at H
    refine J_aload_n d_Ref_goes_4 rfl ?_
    have g11 : Γ this = .inr 12 := by
      apply Classical.byContradiction
      intro q9
      rw [if_neg q9] at H
      cases H
    rw [if_pos g11] at H
    refine F_getR (ci := 12) (k := 98) hG (cf_Ref hw) (fl_Ref_274 hw) (by decide) (by decide) rfl d_Ref_goes_5 g11 ?_
    refine J_iload_n d_Ref_goes_8 rfl ?_
    obtain ⟨a12, ha12, H⟩ := Option.bind_eq_some_iff.mp H
    rw [j_rf ha12]
    obtain ⟨N13, hN13, H⟩ := Option.bind_eq_some_iff.mp H
    obtain ⟨k14, hk14, H⟩ := Option.bind_eq_some_iff.mp H
    refine F_zald k14 hw hG d_Ref_goes_9 (gA_some hN13) (ix_some hk14) ?_
    refine J_if_eq (tgt := 26) d_Ref_goes_10 (by decide) ?_ ?_
    · intro c19
      rw [if_pos c19] at H
      refine J.drop [false, false, false] rfl ?_
      exact p_Ref_goes_L26 hw hG  H
    · intro c19
      rw [if_neg c19] at H
      refine J_aload_n d_Ref_goes_13 rfl ?_
      refine F_getR (ci := 12) (k := 99) hG (cf_Ref hw) (fl_Ref_277 hw) (by decide) (by decide) rfl d_Ref_goes_14 g11 ?_
      refine J_iload_n d_Ref_goes_17 rfl ?_
      obtain ⟨a15, ha15, H⟩ := Option.bind_eq_some_iff.mp H
      rw [j_rf ha15]
      obtain ⟨N16, hN16, H⟩ := Option.bind_eq_some_iff.mp H
      obtain ⟨k17, hk17, H⟩ := Option.bind_eq_some_iff.mp H
      refine F_zald k17 hw hG d_Ref_goes_18 (gA_some hN16) (ix_some hk17) ?_
      refine J_if_eq (tgt := 26) d_Ref_goes_19 (by decide) ?_ ?_
      · intro c18
        rw [if_pos c18] at H
        refine J.drop [false, false, false] rfl ?_
        exact p_Ref_goes_L26 hw hG  H
      · intro c18
        rw [if_neg c18] at H
        refine J_iconst (v := 1) d_Ref_goes_22 (by decide) ?_
        refine J_goto (tgt := 53) d_Ref_goes_23 (by decide) ?_
        refine J.drop [false, false, false] rfl ?_
        exact p_Ref_goes_L53 hw hG  H
theorem ln_Ref_dropWrite : (parseMethodDescriptor y_Ref_dropWrite.desc).map (fun q => q.parameters.length) = some 2 := by decide +kernel
def f_Ref_dropWrite_L86 (Γ : gm_T) (Kc12 : ph_T → Nat → Int32 → Int32 → Option (Unit × ph_T)) : Nat → ph_T → Nat → Int32 → Int32 → Int32 → Option (Unit × ph_T)
  | 0, _, _, _, _, _ => none
  | fu + 1, φ, x0, x1, x3, x4 =>
    if (16 : Int32) ≤ x4 then
      Kc12 φ x0 x1 (x3 + (1 : Int32))
    else
      @ite _ (Γ x0 = .inr 12) _ (
      Option.bind (φ.2.2 x0 95) fun a2 =>
      Option.bind (gA Γ a2 0) fun N3 =>
      Option.bind (ix ((((16 : Int32) * x3) + (16 : Int32)) + x4) N3) fun k4 =>
      Option.bind (gA Γ a2 0) fun N5 =>
      Option.bind (ix (((16 : Int32) * x3) + x4) N5) fun k6 =>
      (f_Ref_dropWrite_L86 Γ Kc12 fu) (uI φ a2 k6 (φ.1 a2 k4)) x0 x1 x3 (x4 + (1 : Int32))
      ) none
set_option maxRecDepth 100000 in
set_option maxHeartbeats 4000000 in
theorem p_Ref_dropWrite_L86 {w : jw_T} (hw : jok w) {Γ : gm_T} {n : Nat} (hG : gd w Γ n) {Kc12 : ph_T → Nat → Int32 → Int32 → Option (Unit × ph_T)} (hKc12 : ∀ {x : Bool} {φ : ph_T} {x0 : Nat} {x1 : Int32} {x3 : Int32} {q : Unit × ph_T}, Kc12 φ x0 x1 x3 = some q → J w M_Ref_dropWrite 12 [some (.ref x0), some (.int x1), none, some (.int x3), none] [] (pic Γ φ) n x 0 0 (fq Γ n (.inl none) q.2)) : ∀ (fu : Nat) {x : Bool} {φ : ph_T} {x0 : Nat} {x1 : Int32} {x3 : Int32} {x4 : Int32} {q : Unit × ph_T}, f_Ref_dropWrite_L86 Γ Kc12 fu φ x0 x1 x3 x4 = some q → J w M_Ref_dropWrite 86 [some (.ref x0), some (.int x1), none, some (.int x3), some (.int x4)] [] (pic Γ φ) n x 0 0 (fq Γ n (.inl none) q.2) := by
  intro fu
  induction fu with
  | zero =>
    intro x φ x0 x1 x3 x4 q H
    cases H
  | succ fu ih =>
    intro x φ x0 x1 x3 x4 q H
    unfold f_Ref_dropWrite_L86 at H
    refine J_iload d_Ref_dropWrite_86 rfl ?_
    refine J_bipush (v := 16) d_Ref_dropWrite_88 (by decide) ?_
    refine J_icmp_ge (tgt := 126) d_Ref_dropWrite_90 (by decide) ?_ ?_
    · intro c7
      rw [if_pos c7] at H
      refine J_iinc (v := x3 + 1) d_Ref_dropWrite_126 rfl (by rw [show Int32.ofInt 1 = (1 : Int32) from by decide]) ?_
      refine J.ls (ls' := [some (.ref x0), some (.int x1), none, some (.int (x3 + (1 : Int32))), some (.int x4)]) rfl ?_
      refine J_goto (tgt := 12) d_Ref_dropWrite_129 (by decide) ?_
      refine J.drop [true, true, false, true, false] rfl ?_
      exact hKc12 H
    · intro c7
      rw [if_neg c7] at H
      refine J_aload_n d_Ref_dropWrite_93 rfl ?_
      have g1 : Γ x0 = .inr 12 := by
        apply Classical.byContradiction
        intro q9
        rw [if_neg q9] at H
        cases H
      rw [if_pos g1] at H
      refine F_getR (ci := 12) (k := 95) hG (cf_Ref hw) (fl_Ref_265 hw) (by decide) (by decide) rfl d_Ref_dropWrite_94 g1 ?_
      refine J_bipush (v := 16) d_Ref_dropWrite_97 (by decide) ?_
      refine J_iload_n d_Ref_dropWrite_99 rfl ?_
      refine J_imul d_Ref_dropWrite_100 ?_
      refine J_iload d_Ref_dropWrite_101 rfl ?_
      refine J_iadd d_Ref_dropWrite_103 ?_
      refine J_aload_n d_Ref_dropWrite_104 rfl ?_
      refine F_getR (ci := 12) (k := 95) hG (cf_Ref hw) (fl_Ref_265 hw) (by decide) (by decide) rfl d_Ref_dropWrite_105 g1 ?_
      refine J_bipush (v := 16) d_Ref_dropWrite_108 (by decide) ?_
      refine J_iload_n d_Ref_dropWrite_110 rfl ?_
      refine J_imul d_Ref_dropWrite_111 ?_
      refine J_bipush (v := 16) d_Ref_dropWrite_112 (by decide) ?_
      refine J_iadd d_Ref_dropWrite_114 ?_
      refine J_iload d_Ref_dropWrite_115 rfl ?_
      refine J_iadd d_Ref_dropWrite_117 ?_
      obtain ⟨a2, ha2, H⟩ := Option.bind_eq_some_iff.mp H
      rw [j_rf ha2]
      obtain ⟨N3, hN3, H⟩ := Option.bind_eq_some_iff.mp H
      obtain ⟨k4, hk4, H⟩ := Option.bind_eq_some_iff.mp H
      refine F_iald k4 hw hG d_Ref_dropWrite_118 (gA_some hN3) (ix_some hk4) ?_
      obtain ⟨N5, hN5, H⟩ := Option.bind_eq_some_iff.mp H
      obtain ⟨k6, hk6, H⟩ := Option.bind_eq_some_iff.mp H
      refine F_iast k6 hw hG d_Ref_dropWrite_119 (gA_some hN5) (ix_some hk6) ?_
      refine J_iinc (v := x4 + 1) d_Ref_dropWrite_120 rfl (by rw [show Int32.ofInt 1 = (1 : Int32) from by decide]) ?_
      refine J.ls (ls' := [some (.ref x0), some (.int x1), none, some (.int x3), some (.int (x4 + (1 : Int32)))]) rfl ?_
      refine J_goto (tgt := 86) d_Ref_dropWrite_123 (by decide) ?_
      refine J.drop [true, true, false, true, true] rfl ?_
      exact ih H
def f_Ref_dropWrite_L12 (Γ : gm_T)  : Nat → ph_T → Nat → Int32 → Int32 → Option (Unit × ph_T)
  | 0, _, _, _, _ => none
  | fu + 1, φ, x0, x1, x3 =>
    @ite _ (Γ x0 = .inr 12) _ (
    Option.bind (φ.2.2 x0 89) fun a9 =>
    Option.bind (gA Γ a9 0) fun N10 =>
    Option.bind (ix x1 N10) fun k11 =>
    if (((16 : Int32) * x1) + (φ.1 a9 k11)) ≤ x3 then
      some ((), φ)
    else
      Option.bind (φ.2.2 x0 91) fun a12 =>
      Option.bind (gA Γ a12 2) fun N13 =>
      Option.bind (ix (x3 + (1 : Int32)) N13) fun k14 =>
      Option.bind (gA Γ a12 2) fun N15 =>
      Option.bind (ix x3 N15) fun k16 =>
      @ite _ ((φ.1 a12 k14) = 0 ∨ (φ.1 a12 k14) = 1) _ (
      Option.bind (φ.2.2 x0 92) fun a18 =>
      Option.bind (gA Γ a18 1) fun N19 =>
      Option.bind (ix (x3 + (1 : Int32)) N19) fun k20 =>
      Option.bind (gA Γ a18 1) fun N21 =>
      Option.bind (ix x3 N21) fun k22 =>
      Option.bind (φ.2.2 x0 93) fun a23 =>
      Option.bind (gA Γ a23 0) fun N24 =>
      Option.bind (ix (x3 + (1 : Int32)) N24) fun k25 =>
      Option.bind (gA Γ a23 0) fun N26 =>
      Option.bind (ix x3 N26) fun k27 =>
      Option.bind (φ.2.2 x0 94) fun a28 =>
      Option.bind (gA Γ a28 2) fun N29 =>
      Option.bind (ix (x3 + (1 : Int32)) N29) fun k30 =>
      Option.bind (gA Γ a28 2) fun N31 =>
      Option.bind (ix x3 N31) fun k32 =>
      @ite _ (((uI (uL (uI φ a12 k16 (φ.1 a12 k14)) a18 k22 (φ.2.1 a18 k20)) a23 k27 ((uI φ a12 k16 (φ.1 a12 k14)).1 a23 k25)).1 a28 k30) = 0 ∨ ((uI (uL (uI φ a12 k16 (φ.1 a12 k14)) a18 k22 (φ.2.1 a18 k20)) a23 k27 ((uI φ a12 k16 (φ.1 a12 k14)).1 a23 k25)).1 a28 k30) = 1) _ (
      f_Ref_dropWrite_L86 Γ (f_Ref_dropWrite_L12 Γ  fu) jF (uI (uI (uL (uI φ a12 k16 (φ.1 a12 k14)) a18 k22 (φ.2.1 a18 k20)) a23 k27 ((uI φ a12 k16 (φ.1 a12 k14)).1 a23 k25)) a28 k32 ((uI (uL (uI φ a12 k16 (φ.1 a12 k14)) a18 k22 (φ.2.1 a18 k20)) a23 k27 ((uI φ a12 k16 (φ.1 a12 k14)).1 a23 k25)).1 a28 k30)) x0 x1 x3 (0 : Int32)
      ) none
      ) none
    ) none
set_option maxRecDepth 100000 in
set_option maxHeartbeats 4000000 in
theorem p_Ref_dropWrite_L12 {w : jw_T} (hw : jok w) {Γ : gm_T} {n : Nat} (hG : gd w Γ n)  : ∀ (fu : Nat) {x : Bool} {φ : ph_T} {x0 : Nat} {x1 : Int32} {x3 : Int32} {q : Unit × ph_T}, f_Ref_dropWrite_L12 Γ  fu φ x0 x1 x3 = some q → J w M_Ref_dropWrite 12 [some (.ref x0), some (.int x1), none, some (.int x3), none] [] (pic Γ φ) n x 0 0 (fq Γ n (.inl none) q.2) := by
  intro fu
  induction fu with
  | zero =>
    intro x φ x0 x1 x3 q H
    cases H
  | succ fu ih =>
    intro x φ x0 x1 x3 q H
    unfold f_Ref_dropWrite_L12 at H
    refine J_iload_n d_Ref_dropWrite_12 rfl ?_
    refine J_bipush (v := 16) d_Ref_dropWrite_13 (by decide) ?_
    refine J_iload_n d_Ref_dropWrite_15 rfl ?_
    refine J_imul d_Ref_dropWrite_16 ?_
    refine J_aload_n d_Ref_dropWrite_17 rfl ?_
    have g8 : Γ x0 = .inr 12 := by
      apply Classical.byContradiction
      intro q9
      rw [if_neg q9] at H
      cases H
    rw [if_pos g8] at H
    refine F_getR (ci := 12) (k := 89) hG (cf_Ref hw) (fl_Ref_247 hw) (by decide) (by decide) rfl d_Ref_dropWrite_18 g8 ?_
    refine J_iload_n d_Ref_dropWrite_21 rfl ?_
    obtain ⟨a9, ha9, H⟩ := Option.bind_eq_some_iff.mp H
    rw [j_rf ha9]
    obtain ⟨N10, hN10, H⟩ := Option.bind_eq_some_iff.mp H
    obtain ⟨k11, hk11, H⟩ := Option.bind_eq_some_iff.mp H
    refine F_iald k11 hw hG d_Ref_dropWrite_22 (gA_some hN10) (ix_some hk11) ?_
    refine J_iadd d_Ref_dropWrite_23 ?_
    refine J_icmp_ge (tgt := 132) d_Ref_dropWrite_24 (by decide) ?_ ?_
    · intro c34
      rw [if_pos c34] at H
      have H := Option.some.inj H
      subst H
      exact J_vret (st := []) d_Ref_dropWrite_132 rfl ⟨rfl, rfl, rfl⟩
    · intro c34
      rw [if_neg c34] at H
      refine J_aload_n d_Ref_dropWrite_27 rfl ?_
      refine F_getR (ci := 12) (k := 91) hG (cf_Ref hw) (fl_Ref_253 hw) (by decide) (by decide) rfl d_Ref_dropWrite_28 g8 ?_
      refine J_iload_n d_Ref_dropWrite_31 rfl ?_
      refine J_aload_n d_Ref_dropWrite_32 rfl ?_
      refine F_getR (ci := 12) (k := 91) hG (cf_Ref hw) (fl_Ref_253 hw) (by decide) (by decide) rfl d_Ref_dropWrite_33 g8 ?_
      refine J_iload_n d_Ref_dropWrite_36 rfl ?_
      refine J_iconst (v := 1) d_Ref_dropWrite_37 (by decide) ?_
      refine J_iadd d_Ref_dropWrite_38 ?_
      obtain ⟨a12, ha12, H⟩ := Option.bind_eq_some_iff.mp H
      rw [j_rf ha12]
      obtain ⟨N13, hN13, H⟩ := Option.bind_eq_some_iff.mp H
      obtain ⟨k14, hk14, H⟩ := Option.bind_eq_some_iff.mp H
      refine F_zald k14 hw hG d_Ref_dropWrite_39 (gA_some hN13) (ix_some hk14) ?_
      obtain ⟨N15, hN15, H⟩ := Option.bind_eq_some_iff.mp H
      obtain ⟨k16, hk16, H⟩ := Option.bind_eq_some_iff.mp H
      have z17 : (φ.1 a12 k14) = 0 ∨ (φ.1 a12 k14) = 1 := by
        apply Classical.byContradiction
        intro q9
        rw [if_neg q9] at H
        cases H
      rw [if_pos z17] at H
      refine F_zast k16 hw hG d_Ref_dropWrite_40 (gA_some hN15) (ix_some hk16) z17 ?_
      refine J_aload_n d_Ref_dropWrite_41 rfl ?_
      refine F_getR (ci := 12) (k := 92) hG (cf_Ref hw) (fl_Ref_256 hw) (by decide) (by decide) rfl d_Ref_dropWrite_42 g8 ?_
      show J _ _ _ _ (va_rf (φ.2.2 x0 92) :: _) _ _ _ _ _ _
      refine J_iload_n d_Ref_dropWrite_45 rfl ?_
      refine J_aload_n d_Ref_dropWrite_46 rfl ?_
      refine F_getR (ci := 12) (k := 92) hG (cf_Ref hw) (fl_Ref_256 hw) (by decide) (by decide) rfl d_Ref_dropWrite_47 g8 ?_
      show J _ _ _ _ (va_rf (φ.2.2 x0 92) :: _) _ _ _ _ _ _
      refine J_iload_n d_Ref_dropWrite_50 rfl ?_
      refine J_iconst (v := 1) d_Ref_dropWrite_51 (by decide) ?_
      refine J_iadd d_Ref_dropWrite_52 ?_
      obtain ⟨a18, ha18, H⟩ := Option.bind_eq_some_iff.mp H
      rw [j_rf ha18]
      obtain ⟨N19, hN19, H⟩ := Option.bind_eq_some_iff.mp H
      obtain ⟨k20, hk20, H⟩ := Option.bind_eq_some_iff.mp H
      refine F_lald k20 hw hG d_Ref_dropWrite_53 (gA_some hN19) (ix_some hk20) ?_
      show J _ _ _ _ (.long (φ.2.1 a18 k20) :: _) _ _ _ _ _ _
      obtain ⟨N21, hN21, H⟩ := Option.bind_eq_some_iff.mp H
      obtain ⟨k22, hk22, H⟩ := Option.bind_eq_some_iff.mp H
      refine F_last k22 hw hG d_Ref_dropWrite_54 (gA_some hN21) (ix_some hk22) ?_
      refine J_aload_n d_Ref_dropWrite_55 rfl ?_
      refine F_getR (ci := 12) (k := 93) hG (cf_Ref hw) (fl_Ref_259 hw) (by decide) (by decide) rfl d_Ref_dropWrite_56 g8 ?_
      show J _ _ _ _ (va_rf (φ.2.2 x0 93) :: _) _ _ _ _ _ _
      refine J_iload_n d_Ref_dropWrite_59 rfl ?_
      refine J_aload_n d_Ref_dropWrite_60 rfl ?_
      refine F_getR (ci := 12) (k := 93) hG (cf_Ref hw) (fl_Ref_259 hw) (by decide) (by decide) rfl d_Ref_dropWrite_61 g8 ?_
      show J _ _ _ _ (va_rf (φ.2.2 x0 93) :: _) _ _ _ _ _ _
      refine J_iload_n d_Ref_dropWrite_64 rfl ?_
      refine J_iconst (v := 1) d_Ref_dropWrite_65 (by decide) ?_
      refine J_iadd d_Ref_dropWrite_66 ?_
      obtain ⟨a23, ha23, H⟩ := Option.bind_eq_some_iff.mp H
      rw [j_rf ha23]
      obtain ⟨N24, hN24, H⟩ := Option.bind_eq_some_iff.mp H
      obtain ⟨k25, hk25, H⟩ := Option.bind_eq_some_iff.mp H
      refine F_iald k25 hw hG d_Ref_dropWrite_67 (gA_some hN24) (ix_some hk25) ?_
      show J _ _ _ _ (.int ((uI φ a12 k16 (φ.1 a12 k14)).1 a23 k25) :: _) _ _ _ _ _ _
      obtain ⟨N26, hN26, H⟩ := Option.bind_eq_some_iff.mp H
      obtain ⟨k27, hk27, H⟩ := Option.bind_eq_some_iff.mp H
      refine F_iast k27 hw hG d_Ref_dropWrite_68 (gA_some hN26) (ix_some hk27) ?_
      refine J_aload_n d_Ref_dropWrite_69 rfl ?_
      refine F_getR (ci := 12) (k := 94) hG (cf_Ref hw) (fl_Ref_262 hw) (by decide) (by decide) rfl d_Ref_dropWrite_70 g8 ?_
      show J _ _ _ _ (va_rf (φ.2.2 x0 94) :: _) _ _ _ _ _ _
      refine J_iload_n d_Ref_dropWrite_73 rfl ?_
      refine J_aload_n d_Ref_dropWrite_74 rfl ?_
      refine F_getR (ci := 12) (k := 94) hG (cf_Ref hw) (fl_Ref_262 hw) (by decide) (by decide) rfl d_Ref_dropWrite_75 g8 ?_
      show J _ _ _ _ (va_rf (φ.2.2 x0 94) :: _) _ _ _ _ _ _
      refine J_iload_n d_Ref_dropWrite_78 rfl ?_
      refine J_iconst (v := 1) d_Ref_dropWrite_79 (by decide) ?_
      refine J_iadd d_Ref_dropWrite_80 ?_
      obtain ⟨a28, ha28, H⟩ := Option.bind_eq_some_iff.mp H
      rw [j_rf ha28]
      obtain ⟨N29, hN29, H⟩ := Option.bind_eq_some_iff.mp H
      obtain ⟨k30, hk30, H⟩ := Option.bind_eq_some_iff.mp H
      refine F_zald k30 hw hG d_Ref_dropWrite_81 (gA_some hN29) (ix_some hk30) ?_
      obtain ⟨N31, hN31, H⟩ := Option.bind_eq_some_iff.mp H
      obtain ⟨k32, hk32, H⟩ := Option.bind_eq_some_iff.mp H
      have z33 : ((uI (uL (uI φ a12 k16 (φ.1 a12 k14)) a18 k22 (φ.2.1 a18 k20)) a23 k27 ((uI φ a12 k16 (φ.1 a12 k14)).1 a23 k25)).1 a28 k30) = 0 ∨ ((uI (uL (uI φ a12 k16 (φ.1 a12 k14)) a18 k22 (φ.2.1 a18 k20)) a23 k27 ((uI φ a12 k16 (φ.1 a12 k14)).1 a23 k25)).1 a28 k30) = 1 := by
        apply Classical.byContradiction
        intro q9
        rw [if_neg q9] at H
        cases H
      rw [if_pos z33] at H
      refine F_zast k32 hw hG d_Ref_dropWrite_82 (gA_some hN31) (ix_some hk32) z33 ?_
      refine J_iconst (v := 0) d_Ref_dropWrite_83 (by decide) ?_
      refine J_istore d_Ref_dropWrite_84 (Nat.le_of_ble_eq_true rfl) ?_
      refine J.ls (ls' := [some (.ref x0), some (.int x1), none, some (.int x3), some (.int (0 : Int32))]) rfl ?_
      refine J.drop [true, true, false, true, true] rfl ?_
      exact p_Ref_dropWrite_L86 hw hG ih _ H
def f_Ref_dropWrite (Γ : gm_T) (φ : ph_T) (this : Nat) (p0 : Int32) (p1 : Int32) : Option (Unit × ph_T) :=
  @ite _ (Γ this = .inr 12) _ (
  Option.bind (φ.2.2 this 89) fun a36 =>
  Option.bind (gA Γ a36 0) fun N37 =>
  Option.bind (ix p0 N37) fun k38 =>
  Option.bind (gA Γ a36 0) fun N39 =>
  Option.bind (ix p0 N39) fun k40 =>
  f_Ref_dropWrite_L12 Γ  jF (uI φ a36 k40 ((φ.1 a36 k38) - (1 : Int32))) this p0 p1
  ) none
set_option maxRecDepth 100000 in
set_option maxHeartbeats 4000000 in
theorem p_Ref_dropWrite {w : jw_T} (hw : jok w) {Γ : gm_T} {n : Nat} (hG : gd w Γ n) {x : Bool} {φ : ph_T} {this : Nat} {p0 : Int32} {p1 : Int32} {q : Unit × ph_T} (H : f_Ref_dropWrite Γ φ this p0 p1 = some q) : jc w M_Ref_dropWrite [.ref this, .int p0, .int p1] (pic Γ φ) n x 0 0 (fq Γ n (.inl none) q.2) := by
  refine jc.of (by simp only [jent_r, jent_i, jent_l, jent_a, jent_0]; exact Nat.le_of_ble_eq_true rfl) ?_
  have hls : jents [.ref this, .int p0, .int p1] (jm_nL M_Ref_dropWrite) = [some (.ref this), some (.int p0), some (.int p1), none, none] := by simp only [jents, jent_r, jent_i, jent_l, jent_a, jent_0]; rfl
  rw [hls]
  clear hls
  unfold f_Ref_dropWrite at H
  refine J_aload_n d_Ref_dropWrite_0 rfl ?_
  have g35 : Γ this = .inr 12 := by
    apply Classical.byContradiction
    intro q9
    rw [if_neg q9] at H
    cases H
  rw [if_pos g35] at H
  refine F_getR (ci := 12) (k := 89) hG (cf_Ref hw) (fl_Ref_247 hw) (by decide) (by decide) rfl d_Ref_dropWrite_1 g35 ?_
  refine J_iload_n d_Ref_dropWrite_4 rfl ?_
  refine J_dup2 d_Ref_dropWrite_5 rfl (va_rf_cat _) ?_
  obtain ⟨a36, ha36, H⟩ := Option.bind_eq_some_iff.mp H
  rw [j_rf ha36]
  obtain ⟨N37, hN37, H⟩ := Option.bind_eq_some_iff.mp H
  obtain ⟨k38, hk38, H⟩ := Option.bind_eq_some_iff.mp H
  refine F_iald k38 hw hG d_Ref_dropWrite_6 (gA_some hN37) (ix_some hk38) ?_
  refine J_iconst (v := 1) d_Ref_dropWrite_7 (by decide) ?_
  refine J_isub d_Ref_dropWrite_8 ?_
  obtain ⟨N39, hN39, H⟩ := Option.bind_eq_some_iff.mp H
  obtain ⟨k40, hk40, H⟩ := Option.bind_eq_some_iff.mp H
  refine F_iast k40 hw hG d_Ref_dropWrite_9 (gA_some hN39) (ix_some hk40) ?_
  refine J_iload_n d_Ref_dropWrite_10 rfl ?_
  refine J_istore_n d_Ref_dropWrite_11 (Nat.le_of_ble_eq_true rfl) ?_
  refine J.ls (ls' := [some (.ref this), some (.int p0), some (.int p1), some (.int p1), none]) rfl ?_
  refine J.drop [true, true, false, true, false] rfl ?_
  exact p_Ref_dropWrite_L12 hw hG  _ H
theorem ln_Ref_goB : (parseMethodDescriptor y_Ref_goB.desc).map (fun q => q.parameters.length) = some 2 := by decide +kernel
def f_Ref_goB_L18 (Γ : gm_T)  (φ : ph_T) : Option (Unit × ph_T) :=
  some ((), φ)
set_option maxRecDepth 100000 in
set_option maxHeartbeats 4000000 in
theorem p_Ref_goB_L18 {w : jw_T} (hw : jok w) {Γ : gm_T} {n : Nat} (hG : gd w Γ n)  {x : Bool} {φ : ph_T} {q : Unit × ph_T} (H : f_Ref_goB_L18 Γ  φ  = some q) : J w M_Ref_goB 18 [none, none, none, none] [] (pic Γ φ) n x 0 0 (fq Γ n (.inl none) q.2) := by
  unfold f_Ref_goB_L18 at H
  have H := Option.some.inj H
  subst H
  exact J_vret (st := []) d_Ref_goB_18 rfl ⟨rfl, rfl, rfl⟩
def f_Ref_goB (Γ : gm_T) (φ : ph_T) (this : Nat) (p0 : Int32) (p1 : Int32) : Option (Unit × ph_T) :=
  @ite _ (Γ this = .inr 12) _ (
  Option.bind (f_Ref_monitoredWrite Γ φ this p0 p1) fun q2 =>
  if q2.1 = (-1 : Int32) then
    f_Ref_goB_L18 Γ  q2.2 
  else
    Option.bind (f_Ref_dropWrite Γ q2.2 this p0 q2.1) fun q3 =>
    f_Ref_goB_L18 Γ  q3.2 
  ) none
set_option maxRecDepth 100000 in
set_option maxHeartbeats 4000000 in
theorem p_Ref_goB {w : jw_T} (hw : jok w) {Γ : gm_T} {n : Nat} (hG : gd w Γ n) {x : Bool} {φ : ph_T} {this : Nat} {p0 : Int32} {p1 : Int32} {q : Unit × ph_T} (H : f_Ref_goB Γ φ this p0 p1 = some q) : jc w M_Ref_goB [.ref this, .int p0, .int p1] (pic Γ φ) n x 0 0 (fq Γ n (.inl none) q.2) := by
  refine jc.of (by simp only [jent_r, jent_i, jent_l, jent_a, jent_0]; exact Nat.le_of_ble_eq_true rfl) ?_
  have hls : jents [.ref this, .int p0, .int p1] (jm_nL M_Ref_goB) = [some (.ref this), some (.int p0), some (.int p1), none] := by simp only [jents, jent_r, jent_i, jent_l, jent_a, jent_0]; rfl
  rw [hls]
  clear hls
  unfold f_Ref_goB at H
  refine J_aload_n d_Ref_goB_0 rfl ?_
  refine J_iload_n d_Ref_goB_1 rfl ?_
  refine J_iload_n d_Ref_goB_2 rfl ?_
  have g1 : Γ this = .inr 12 := by
    apply Classical.byContradiction
    intro q9
    rw [if_neg q9] at H
    cases H
  rw [if_pos g1] at H
  obtain ⟨q2, hq2, H⟩ := Option.bind_eq_some_iff.mp H
  refine J_callV (kc := 0) (ks := 0) (kc' := 0) (ks' := 0) (a := this) (ci := 12) (as := [.int p0, .int p1]) (st := []) (mf_Ref_monitoredWrite hw) (mv_Ref_422 hw) d_Ref_goB_3 ln_Ref_monitoredWrite (by decide) (by first | exact Nat.le_of_ble_eq_true rfl | (simp only [List.map_cons, List.map_nil, List.sum_cons, List.sum_nil, va_rf_cat]; exact Nat.le_of_ble_eq_true rfl)) rfl ((hG _).1 _ g1 (by decide)).1 ((hG _).1 _ g1 (by decide)).2 (by unfold pic; rw [g1]; rfl) (jcl_at hw rfl) rfl (p_Ref_monitoredWrite hw hG hq2) ?_ (fun E h' n' x' e1 => by cases e1.1)
  intro v9 h9 n9 x9 e9
  obtain ⟨e91, e92, e93⟩ := e9
  cases e91
  subst e92
  subst e93
  clear x
  rename Bool => x
  show J _ _ _ _ (_ :: _) _ _ _ _ _ _
  refine J_istore_n d_Ref_goB_6 (Nat.le_of_ble_eq_true rfl) ?_
  refine J.ls (ls' := [some (.ref this), some (.int p0), some (.int p1), some (.int q2.1)]) rfl ?_
  refine J_iload_n d_Ref_goB_7 rfl ?_
  refine J_iconst (v := -1) d_Ref_goB_8 (by decide) ?_
  refine J_icmp_eq (tgt := 18) d_Ref_goB_9 (by decide) ?_ ?_
  · intro c4
    rw [if_pos c4] at H
    refine J.drop [false, false, false, false] rfl ?_
    exact p_Ref_goB_L18 hw hG  H
  · intro c4
    rw [if_neg c4] at H
    refine J_aload_n d_Ref_goB_12 rfl ?_
    refine J_iload_n d_Ref_goB_13 rfl ?_
    refine J_iload_n d_Ref_goB_14 rfl ?_
    obtain ⟨q3, hq3, H⟩ := Option.bind_eq_some_iff.mp H
    refine J_callV (kc := 0) (ks := 0) (kc' := 0) (ks' := 0) (a := this) (ci := 12) (as := [.int p0, .int q2.1]) (st := []) (mf_Ref_dropWrite hw) (mv_Ref_428 hw) d_Ref_goB_15 ln_Ref_dropWrite (by decide) (by first | exact Nat.le_of_ble_eq_true rfl | (simp only [List.map_cons, List.map_nil, List.sum_cons, List.sum_nil, va_rf_cat]; exact Nat.le_of_ble_eq_true rfl)) rfl ((hG _).1 _ g1 (by decide)).1 ((hG _).1 _ g1 (by decide)).2 (by unfold pic; rw [g1]; rfl) (jcl_at hw rfl) rfl (p_Ref_dropWrite hw hG hq3) ?_ (fun E h' n' x' e1 => by cases e1.1)
    intro v9 h9 n9 x9 e9
    obtain ⟨e91, e92, e93⟩ := e9
    cases e91
    subst e92
    subst e93
    clear x
    rename Bool => x
    show J _ _ _ _ [] _ _ _ _ _ _
    refine J.drop [false, false, false, false] rfl ?_
    exact p_Ref_goB_L18 hw hG  H
theorem ln_Ref_dropRead : (parseMethodDescriptor y_Ref_dropRead.desc).map (fun q => q.parameters.length) = some 2 := by decide +kernel
def f_Ref_dropRead_L12 (Γ : gm_T)  : Nat → ph_T → Nat → Int32 → Int32 → Option (Unit × ph_T)
  | 0, _, _, _, _ => none
  | fu + 1, φ, x0, x1, x3 =>
    @ite _ (Γ x0 = .inr 12) _ (
    Option.bind (φ.2.2 x0 90) fun a2 =>
    Option.bind (gA Γ a2 0) fun N3 =>
    Option.bind (ix x1 N3) fun k4 =>
    if (((16 : Int32) * x1) + (φ.1 a2 k4)) ≤ x3 then
      some ((), φ)
    else
      Option.bind (φ.2.2 x0 96) fun a5 =>
      Option.bind (gA Γ a5 1) fun N6 =>
      Option.bind (ix (x3 + (1 : Int32)) N6) fun k7 =>
      Option.bind (gA Γ a5 1) fun N8 =>
      Option.bind (ix x3 N8) fun k9 =>
      Option.bind (φ.2.2 x0 97) fun a10 =>
      Option.bind (gA Γ a10 0) fun N11 =>
      Option.bind (ix (x3 + (1 : Int32)) N11) fun k12 =>
      Option.bind (gA Γ a10 0) fun N13 =>
      Option.bind (ix x3 N13) fun k14 =>
      (f_Ref_dropRead_L12 Γ  fu) (uI (uL φ a5 k9 (φ.2.1 a5 k7)) a10 k14 (φ.1 a10 k12)) x0 x1 (x3 + (1 : Int32))
    ) none
set_option maxRecDepth 100000 in
set_option maxHeartbeats 4000000 in
theorem p_Ref_dropRead_L12 {w : jw_T} (hw : jok w) {Γ : gm_T} {n : Nat} (hG : gd w Γ n)  : ∀ (fu : Nat) {x : Bool} {φ : ph_T} {x0 : Nat} {x1 : Int32} {x3 : Int32} {q : Unit × ph_T}, f_Ref_dropRead_L12 Γ  fu φ x0 x1 x3 = some q → J w M_Ref_dropRead 12 [some (.ref x0), some (.int x1), none, some (.int x3)] [] (pic Γ φ) n x 0 0 (fq Γ n (.inl none) q.2) := by
  intro fu
  induction fu with
  | zero =>
    intro x φ x0 x1 x3 q H
    cases H
  | succ fu ih =>
    intro x φ x0 x1 x3 q H
    unfold f_Ref_dropRead_L12 at H
    refine J_iload_n d_Ref_dropRead_12 rfl ?_
    refine J_bipush (v := 16) d_Ref_dropRead_13 (by decide) ?_
    refine J_iload_n d_Ref_dropRead_15 rfl ?_
    refine J_imul d_Ref_dropRead_16 ?_
    refine J_aload_n d_Ref_dropRead_17 rfl ?_
    have g1 : Γ x0 = .inr 12 := by
      apply Classical.byContradiction
      intro q9
      rw [if_neg q9] at H
      cases H
    rw [if_pos g1] at H
    refine F_getR (ci := 12) (k := 90) hG (cf_Ref hw) (fl_Ref_250 hw) (by decide) (by decide) rfl d_Ref_dropRead_18 g1 ?_
    refine J_iload_n d_Ref_dropRead_21 rfl ?_
    obtain ⟨a2, ha2, H⟩ := Option.bind_eq_some_iff.mp H
    rw [j_rf ha2]
    obtain ⟨N3, hN3, H⟩ := Option.bind_eq_some_iff.mp H
    obtain ⟨k4, hk4, H⟩ := Option.bind_eq_some_iff.mp H
    refine F_iald k4 hw hG d_Ref_dropRead_22 (gA_some hN3) (ix_some hk4) ?_
    refine J_iadd d_Ref_dropRead_23 ?_
    refine J_icmp_ge (tgt := 61) d_Ref_dropRead_24 (by decide) ?_ ?_
    · intro c15
      rw [if_pos c15] at H
      have H := Option.some.inj H
      subst H
      exact J_vret (st := []) d_Ref_dropRead_61 rfl ⟨rfl, rfl, rfl⟩
    · intro c15
      rw [if_neg c15] at H
      refine J_aload_n d_Ref_dropRead_27 rfl ?_
      refine F_getR (ci := 12) (k := 96) hG (cf_Ref hw) (fl_Ref_268 hw) (by decide) (by decide) rfl d_Ref_dropRead_28 g1 ?_
      refine J_iload_n d_Ref_dropRead_31 rfl ?_
      refine J_aload_n d_Ref_dropRead_32 rfl ?_
      refine F_getR (ci := 12) (k := 96) hG (cf_Ref hw) (fl_Ref_268 hw) (by decide) (by decide) rfl d_Ref_dropRead_33 g1 ?_
      refine J_iload_n d_Ref_dropRead_36 rfl ?_
      refine J_iconst (v := 1) d_Ref_dropRead_37 (by decide) ?_
      refine J_iadd d_Ref_dropRead_38 ?_
      obtain ⟨a5, ha5, H⟩ := Option.bind_eq_some_iff.mp H
      rw [j_rf ha5]
      obtain ⟨N6, hN6, H⟩ := Option.bind_eq_some_iff.mp H
      obtain ⟨k7, hk7, H⟩ := Option.bind_eq_some_iff.mp H
      refine F_lald k7 hw hG d_Ref_dropRead_39 (gA_some hN6) (ix_some hk7) ?_
      obtain ⟨N8, hN8, H⟩ := Option.bind_eq_some_iff.mp H
      obtain ⟨k9, hk9, H⟩ := Option.bind_eq_some_iff.mp H
      refine F_last k9 hw hG d_Ref_dropRead_40 (gA_some hN8) (ix_some hk9) ?_
      refine J_aload_n d_Ref_dropRead_41 rfl ?_
      refine F_getR (ci := 12) (k := 97) hG (cf_Ref hw) (fl_Ref_271 hw) (by decide) (by decide) rfl d_Ref_dropRead_42 g1 ?_
      show J _ _ _ _ (va_rf (φ.2.2 x0 97) :: _) _ _ _ _ _ _
      refine J_iload_n d_Ref_dropRead_45 rfl ?_
      refine J_aload_n d_Ref_dropRead_46 rfl ?_
      refine F_getR (ci := 12) (k := 97) hG (cf_Ref hw) (fl_Ref_271 hw) (by decide) (by decide) rfl d_Ref_dropRead_47 g1 ?_
      show J _ _ _ _ (va_rf (φ.2.2 x0 97) :: _) _ _ _ _ _ _
      refine J_iload_n d_Ref_dropRead_50 rfl ?_
      refine J_iconst (v := 1) d_Ref_dropRead_51 (by decide) ?_
      refine J_iadd d_Ref_dropRead_52 ?_
      obtain ⟨a10, ha10, H⟩ := Option.bind_eq_some_iff.mp H
      rw [j_rf ha10]
      obtain ⟨N11, hN11, H⟩ := Option.bind_eq_some_iff.mp H
      obtain ⟨k12, hk12, H⟩ := Option.bind_eq_some_iff.mp H
      refine F_iald k12 hw hG d_Ref_dropRead_53 (gA_some hN11) (ix_some hk12) ?_
      show J _ _ _ _ (.int (φ.1 a10 k12) :: _) _ _ _ _ _ _
      obtain ⟨N13, hN13, H⟩ := Option.bind_eq_some_iff.mp H
      obtain ⟨k14, hk14, H⟩ := Option.bind_eq_some_iff.mp H
      refine F_iast k14 hw hG d_Ref_dropRead_54 (gA_some hN13) (ix_some hk14) ?_
      refine J_iinc (v := x3 + 1) d_Ref_dropRead_55 rfl (by rw [show Int32.ofInt 1 = (1 : Int32) from by decide]) ?_
      refine J.ls (ls' := [some (.ref x0), some (.int x1), none, some (.int (x3 + (1 : Int32)))]) rfl ?_
      refine J_goto (tgt := 12) d_Ref_dropRead_58 (by decide) ?_
      refine J.drop [true, true, false, true] rfl ?_
      exact ih H
def f_Ref_dropRead (Γ : gm_T) (φ : ph_T) (this : Nat) (p0 : Int32) (p1 : Int32) : Option (Unit × ph_T) :=
  @ite _ (Γ this = .inr 12) _ (
  Option.bind (φ.2.2 this 90) fun a17 =>
  Option.bind (gA Γ a17 0) fun N18 =>
  Option.bind (ix p0 N18) fun k19 =>
  Option.bind (gA Γ a17 0) fun N20 =>
  Option.bind (ix p0 N20) fun k21 =>
  f_Ref_dropRead_L12 Γ  jF (uI φ a17 k21 ((φ.1 a17 k19) - (1 : Int32))) this p0 p1
  ) none
set_option maxRecDepth 100000 in
set_option maxHeartbeats 4000000 in
theorem p_Ref_dropRead {w : jw_T} (hw : jok w) {Γ : gm_T} {n : Nat} (hG : gd w Γ n) {x : Bool} {φ : ph_T} {this : Nat} {p0 : Int32} {p1 : Int32} {q : Unit × ph_T} (H : f_Ref_dropRead Γ φ this p0 p1 = some q) : jc w M_Ref_dropRead [.ref this, .int p0, .int p1] (pic Γ φ) n x 0 0 (fq Γ n (.inl none) q.2) := by
  refine jc.of (by simp only [jent_r, jent_i, jent_l, jent_a, jent_0]; exact Nat.le_of_ble_eq_true rfl) ?_
  have hls : jents [.ref this, .int p0, .int p1] (jm_nL M_Ref_dropRead) = [some (.ref this), some (.int p0), some (.int p1), none] := by simp only [jents, jent_r, jent_i, jent_l, jent_a, jent_0]; rfl
  rw [hls]
  clear hls
  unfold f_Ref_dropRead at H
  refine J_aload_n d_Ref_dropRead_0 rfl ?_
  have g16 : Γ this = .inr 12 := by
    apply Classical.byContradiction
    intro q9
    rw [if_neg q9] at H
    cases H
  rw [if_pos g16] at H
  refine F_getR (ci := 12) (k := 90) hG (cf_Ref hw) (fl_Ref_250 hw) (by decide) (by decide) rfl d_Ref_dropRead_1 g16 ?_
  refine J_iload_n d_Ref_dropRead_4 rfl ?_
  refine J_dup2 d_Ref_dropRead_5 rfl (va_rf_cat _) ?_
  obtain ⟨a17, ha17, H⟩ := Option.bind_eq_some_iff.mp H
  rw [j_rf ha17]
  obtain ⟨N18, hN18, H⟩ := Option.bind_eq_some_iff.mp H
  obtain ⟨k19, hk19, H⟩ := Option.bind_eq_some_iff.mp H
  refine F_iald k19 hw hG d_Ref_dropRead_6 (gA_some hN18) (ix_some hk19) ?_
  refine J_iconst (v := 1) d_Ref_dropRead_7 (by decide) ?_
  refine J_isub d_Ref_dropRead_8 ?_
  obtain ⟨N20, hN20, H⟩ := Option.bind_eq_some_iff.mp H
  obtain ⟨k21, hk21, H⟩ := Option.bind_eq_some_iff.mp H
  refine F_iast k21 hw hG d_Ref_dropRead_9 (gA_some hN20) (ix_some hk21) ?_
  refine J_iload_n d_Ref_dropRead_10 rfl ?_
  refine J_istore_n d_Ref_dropRead_11 (Nat.le_of_ble_eq_true rfl) ?_
  refine J.ls (ls' := [some (.ref this), some (.int p0), some (.int p1), some (.int p1)]) rfl ?_
  refine J.drop [true, true, false, true] rfl ?_
  exact p_Ref_dropRead_L12 hw hG  _ H
