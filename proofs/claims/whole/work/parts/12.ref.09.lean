theorem ln_Ref_isReadRipe : (parseMethodDescriptor y_Ref_isReadRipe.desc).map (fun q => q.parameters.length) = some 2 := by decide +kernel
def f_Ref_isReadRipe_L27 (Γ : gm_T)  (φ : ph_T) (y0 : Int32) : Option (Int32 × ph_T) :=
  @ite _ (y0 = 0 ∨ y0 = 1) _ (
  some (y0, φ)
  ) none
set_option maxRecDepth 100000 in
set_option maxHeartbeats 4000000 in
theorem p_Ref_isReadRipe_L27 {w : jw_T} (hw : jok w) {Γ : gm_T} {n : Nat} (hG : gd w Γ n)  {x : Bool} {φ : ph_T} {y0 : Int32} {q : Int32 × ph_T} (H : f_Ref_isReadRipe_L27 Γ  φ y0 = some q) : J w M_Ref_isReadRipe 27 [none, none, none] [.int y0] (pic Γ φ) n x 0 0 (fq Γ n (.inl (some (.int q.1))) q.2) := by
  unfold f_Ref_isReadRipe_L27 at H
  have z1 : y0 = 0 ∨ y0 = 1 := by
    apply Classical.byContradiction
    intro q9
    rw [if_neg q9] at H
    cases H
  rw [if_pos z1] at H
  have H := Option.some.inj H
  subst H
  exact J_iret (st := []) d_Ref_isReadRipe_27 rfl (narrow_z z1).1 ⟨rfl, rfl, rfl⟩
def f_Ref_isReadRipe (Γ : gm_T) (φ : ph_T) (this : Nat) (p0 : Int32) (p1 : Int32) : Option (Int32 × ph_T) :=
  @ite _ (Γ this = .inr 12) _ (
  Option.bind (φ.2.2 this 72) fun a3 =>
  Option.bind (gA Γ a3 0) fun N4 =>
  Option.bind (ix p0 N4) fun k5 =>
  Option.bind (φ.2.2 this 11) fun a6 =>
  Option.bind (gA Γ a6 0) fun N7 =>
  Option.bind (ix p1 N7) fun k8 =>
  if (φ.1 this 6) < (((φ.1 a3 k5) + (φ.1 a6 k8)) + (1 : Int32)) then
    f_Ref_isReadRipe_L27 Γ  φ (0 : Int32)
  else
    f_Ref_isReadRipe_L27 Γ  φ (1 : Int32)
  ) none
set_option maxRecDepth 100000 in
set_option maxHeartbeats 4000000 in
theorem p_Ref_isReadRipe {w : jw_T} (hw : jok w) {Γ : gm_T} {n : Nat} (hG : gd w Γ n) {x : Bool} {φ : ph_T} {this : Nat} {p0 : Int32} {p1 : Int32} {q : Int32 × ph_T} (H : f_Ref_isReadRipe Γ φ this p0 p1 = some q) : jc w M_Ref_isReadRipe [.ref this, .int p0, .int p1] (pic Γ φ) n x 0 0 (fq Γ n (.inl (some (.int q.1))) q.2) := by
  refine jc.of (by simp only [jent_r, jent_i, jent_l, jent_a, jent_0]; exact Nat.le_of_ble_eq_true rfl) ?_
  have hls : jents [.ref this, .int p0, .int p1] (jm_nL M_Ref_isReadRipe) = [some (.ref this), some (.int p0), some (.int p1)] := by simp only [jents, jent_r, jent_i, jent_l, jent_a, jent_0]; rfl
  rw [hls]
  clear hls
  unfold f_Ref_isReadRipe at H
  refine J_aload_n d_Ref_isReadRipe_0 rfl ?_
  have g2 : Γ this = .inr 12 := by
    apply Classical.byContradiction
    intro q9
    rw [if_neg q9] at H
    cases H
  rw [if_pos g2] at H
  refine F_getI (ci := 12) (k := 6) hG (cf_Ref hw) (fl_Ref_348 hw) (by decide) (by decide) rfl d_Ref_isReadRipe_1 g2 ?_
  refine J_aload_n d_Ref_isReadRipe_4 rfl ?_
  refine F_getR (ci := 12) (k := 72) hG (cf_Ref hw) (fl_Ref_196 hw) (by decide) (by decide) rfl d_Ref_isReadRipe_5 g2 ?_
  refine J_iload_n d_Ref_isReadRipe_8 rfl ?_
  obtain ⟨a3, ha3, H⟩ := Option.bind_eq_some_iff.mp H
  rw [j_rf ha3]
  obtain ⟨N4, hN4, H⟩ := Option.bind_eq_some_iff.mp H
  obtain ⟨k5, hk5, H⟩ := Option.bind_eq_some_iff.mp H
  refine F_iald k5 hw hG d_Ref_isReadRipe_9 (gA_some hN4) (ix_some hk5) ?_
  refine J_aload_n d_Ref_isReadRipe_10 rfl ?_
  refine F_getR (ci := 12) (k := 11) hG (cf_Ref hw) (fl_Ref_23 hw) (by decide) (by decide) rfl d_Ref_isReadRipe_11 g2 ?_
  refine J_iload_n d_Ref_isReadRipe_14 rfl ?_
  obtain ⟨a6, ha6, H⟩ := Option.bind_eq_some_iff.mp H
  rw [j_rf ha6]
  obtain ⟨N7, hN7, H⟩ := Option.bind_eq_some_iff.mp H
  obtain ⟨k8, hk8, H⟩ := Option.bind_eq_some_iff.mp H
  refine F_iald k8 hw hG d_Ref_isReadRipe_15 (gA_some hN7) (ix_some hk8) ?_
  refine J_iadd d_Ref_isReadRipe_16 ?_
  refine J_iconst (v := 1) d_Ref_isReadRipe_17 (by decide) ?_
  refine J_iadd d_Ref_isReadRipe_18 ?_
  refine J_icmp_lt (tgt := 26) d_Ref_isReadRipe_19 (by decide) ?_ ?_
  · intro c9
    rw [if_pos c9] at H
    refine J_iconst (v := 0) d_Ref_isReadRipe_26 (by decide) ?_
    refine J.drop [false, false, false] rfl ?_
    exact p_Ref_isReadRipe_L27 hw hG  H
  · intro c9
    rw [if_neg c9] at H
    refine J_iconst (v := 1) d_Ref_isReadRipe_22 (by decide) ?_
    refine J_goto (tgt := 27) d_Ref_isReadRipe_23 (by decide) ?_
    refine J.drop [false, false, false] rfl ?_
    exact p_Ref_isReadRipe_L27 hw hG  H
theorem ln_Ref_chooseRead : (parseMethodDescriptor y_Ref_chooseRead.desc).map (fun q => q.parameters.length) = some 1 := by decide +kernel
def f_Ref_chooseRead_L210 (Γ : gm_T)  (φ : ph_T) (y0 : Int32) : Option (Int32 × ph_T) :=
  some (y0, φ)
set_option maxRecDepth 100000 in
set_option maxHeartbeats 4000000 in
theorem p_Ref_chooseRead_L210 {w : jw_T} (hw : jok w) {Γ : gm_T} {n : Nat} (hG : gd w Γ n)  {x : Bool} {φ : ph_T} {y0 : Int32} {q : Int32 × ph_T} (H : f_Ref_chooseRead_L210 Γ  φ y0 = some q) : J w M_Ref_chooseRead 210 [none, none, none, none, none, none, none, none, none] [.int y0] (pic Γ φ) n x 0 0 (fq Γ n (.inl (some (.int q.1))) q.2) := by
  unfold f_Ref_chooseRead_L210 at H
  have H := Option.some.inj H
  subst H
  exact J_iret (st := []) d_Ref_chooseRead_210 rfl rfl ⟨rfl, rfl, rfl⟩
def f_Ref_chooseRead_L209 (Γ : gm_T)  (φ : ph_T) (x2 : Int32) : Option (Int32 × ph_T) :=
  f_Ref_chooseRead_L210 Γ  φ x2
set_option maxRecDepth 100000 in
set_option maxHeartbeats 4000000 in
theorem p_Ref_chooseRead_L209 {w : jw_T} (hw : jok w) {Γ : gm_T} {n : Nat} (hG : gd w Γ n)  {x : Bool} {φ : ph_T} {x2 : Int32} {q : Int32 × ph_T} (H : f_Ref_chooseRead_L209 Γ  φ x2 = some q) : J w M_Ref_chooseRead 209 [none, none, some (.int x2), none, none, none, none, none, none] [] (pic Γ φ) n x 0 0 (fq Γ n (.inl (some (.int q.1))) q.2) := by
  unfold f_Ref_chooseRead_L209 at H
  refine J_iload_n d_Ref_chooseRead_209 rfl ?_
  refine J.drop [false, false, false, false, false, false, false, false, false] rfl ?_
  exact p_Ref_chooseRead_L210 hw hG  H
def f_Ref_chooseRead_L158 (Γ : gm_T) (Kc13 : ph_T → Nat → Int32 → Int32 → Int32 → Int32 → Int32 → Int32 → Option (Int32 × ph_T)) (φ : ph_T) (x0 : Nat) (x1 : Int32) (x2 : Int32) (x3 : Int32) (x4 : Int32) (x5 : Int32) (x6 : Int32) : Option (Int32 × ph_T) :=
  Kc13 φ x0 x1 x2 x3 x4 x5 (x6 + (1 : Int32))
set_option maxRecDepth 100000 in
set_option maxHeartbeats 4000000 in
theorem p_Ref_chooseRead_L158 {w : jw_T} (hw : jok w) {Γ : gm_T} {n : Nat} (hG : gd w Γ n) {Kc13 : ph_T → Nat → Int32 → Int32 → Int32 → Int32 → Int32 → Int32 → Option (Int32 × ph_T)} (hKc13 : ∀ {x : Bool} {φ : ph_T} {x0 : Nat} {x1 : Int32} {x2 : Int32} {x3 : Int32} {x4 : Int32} {x5 : Int32} {x6 : Int32} {q : Int32 × ph_T}, Kc13 φ x0 x1 x2 x3 x4 x5 x6 = some q → J w M_Ref_chooseRead 13 [some (.ref x0), some (.int x1), some (.int x2), some (.int x3), some (.int x4), some (.int x5), some (.int x6), none, none] [] (pic Γ φ) n x 0 0 (fq Γ n (.inl (some (.int q.1))) q.2)) {x : Bool} {φ : ph_T} {x0 : Nat} {x1 : Int32} {x2 : Int32} {x3 : Int32} {x4 : Int32} {x5 : Int32} {x6 : Int32} {q : Int32 × ph_T} (H : f_Ref_chooseRead_L158 Γ Kc13 φ x0 x1 x2 x3 x4 x5 x6 = some q) : J w M_Ref_chooseRead 158 [some (.ref x0), some (.int x1), some (.int x2), some (.int x3), some (.int x4), some (.int x5), some (.int x6), none, none] [] (pic Γ φ) n x 0 0 (fq Γ n (.inl (some (.int q.1))) q.2) := by
  unfold f_Ref_chooseRead_L158 at H
  refine J_iinc (v := x6 + 1) d_Ref_chooseRead_158 rfl (by rw [show Int32.ofInt 1 = (1 : Int32) from by decide]) ?_
  refine J.ls (ls' := [some (.ref x0), some (.int x1), some (.int x2), some (.int x3), some (.int x4), some (.int x5), some (.int (x6 + (1 : Int32))), none, none]) rfl ?_
  refine J_goto (tgt := 13) d_Ref_chooseRead_161 (by decide) ?_
  refine J.drop [true, true, true, true, true, true, true, false, false] rfl ?_
  exact hKc13 H
def f_Ref_chooseRead_L156 (Γ : gm_T) (Kc13 : ph_T → Nat → Int32 → Int32 → Int32 → Int32 → Int32 → Int32 → Option (Int32 × ph_T)) (φ : ph_T) (x0 : Nat) (x1 : Int32) (x2 : Int32) (x3 : Int32) (x4 : Int32) (x6 : Int32) (y0 : Int32) : Option (Int32 × ph_T) :=
  f_Ref_chooseRead_L158 Γ Kc13 φ x0 x1 x2 x3 x4 y0 x6
set_option maxRecDepth 100000 in
set_option maxHeartbeats 4000000 in
theorem p_Ref_chooseRead_L156 {w : jw_T} (hw : jok w) {Γ : gm_T} {n : Nat} (hG : gd w Γ n) {Kc13 : ph_T → Nat → Int32 → Int32 → Int32 → Int32 → Int32 → Int32 → Option (Int32 × ph_T)} (hKc13 : ∀ {x : Bool} {φ : ph_T} {x0 : Nat} {x1 : Int32} {x2 : Int32} {x3 : Int32} {x4 : Int32} {x5 : Int32} {x6 : Int32} {q : Int32 × ph_T}, Kc13 φ x0 x1 x2 x3 x4 x5 x6 = some q → J w M_Ref_chooseRead 13 [some (.ref x0), some (.int x1), some (.int x2), some (.int x3), some (.int x4), some (.int x5), some (.int x6), none, none] [] (pic Γ φ) n x 0 0 (fq Γ n (.inl (some (.int q.1))) q.2)) {x : Bool} {φ : ph_T} {x0 : Nat} {x1 : Int32} {x2 : Int32} {x3 : Int32} {x4 : Int32} {x6 : Int32} {y0 : Int32} {q : Int32 × ph_T} (H : f_Ref_chooseRead_L156 Γ Kc13 φ x0 x1 x2 x3 x4 x6 y0 = some q) : J w M_Ref_chooseRead 156 [some (.ref x0), some (.int x1), some (.int x2), some (.int x3), some (.int x4), none, some (.int x6), none, none] [.int y0] (pic Γ φ) n x 0 0 (fq Γ n (.inl (some (.int q.1))) q.2) := by
  unfold f_Ref_chooseRead_L156 at H
  refine J_istore d_Ref_chooseRead_156 (Nat.le_of_ble_eq_true rfl) ?_
  refine J.ls (ls' := [some (.ref x0), some (.int x1), some (.int x2), some (.int x3), some (.int x4), some (.int y0), some (.int x6), none, none]) rfl ?_
  refine J.drop [true, true, true, true, true, true, true, false, false] rfl ?_
  exact p_Ref_chooseRead_L158 hw hG hKc13 H
def f_Ref_chooseRead_L154 (Γ : gm_T) (Kc13 : ph_T → Nat → Int32 → Int32 → Int32 → Int32 → Int32 → Int32 → Option (Int32 × ph_T)) (φ : ph_T) (x0 : Nat) (x1 : Int32) (x2 : Int32) (x3 : Int32) (x4 : Int32) (x5 : Int32) (x6 : Int32) : Option (Int32 × ph_T) :=
  f_Ref_chooseRead_L156 Γ Kc13 φ x0 x1 x2 x3 x4 x6 x5
set_option maxRecDepth 100000 in
set_option maxHeartbeats 4000000 in
theorem p_Ref_chooseRead_L154 {w : jw_T} (hw : jok w) {Γ : gm_T} {n : Nat} (hG : gd w Γ n) {Kc13 : ph_T → Nat → Int32 → Int32 → Int32 → Int32 → Int32 → Int32 → Option (Int32 × ph_T)} (hKc13 : ∀ {x : Bool} {φ : ph_T} {x0 : Nat} {x1 : Int32} {x2 : Int32} {x3 : Int32} {x4 : Int32} {x5 : Int32} {x6 : Int32} {q : Int32 × ph_T}, Kc13 φ x0 x1 x2 x3 x4 x5 x6 = some q → J w M_Ref_chooseRead 13 [some (.ref x0), some (.int x1), some (.int x2), some (.int x3), some (.int x4), some (.int x5), some (.int x6), none, none] [] (pic Γ φ) n x 0 0 (fq Γ n (.inl (some (.int q.1))) q.2)) {x : Bool} {φ : ph_T} {x0 : Nat} {x1 : Int32} {x2 : Int32} {x3 : Int32} {x4 : Int32} {x5 : Int32} {x6 : Int32} {q : Int32 × ph_T} (H : f_Ref_chooseRead_L154 Γ Kc13 φ x0 x1 x2 x3 x4 x5 x6 = some q) : J w M_Ref_chooseRead 154 [some (.ref x0), some (.int x1), some (.int x2), some (.int x3), some (.int x4), some (.int x5), some (.int x6), none, none] [] (pic Γ φ) n x 0 0 (fq Γ n (.inl (some (.int q.1))) q.2) := by
  unfold f_Ref_chooseRead_L154 at H
  refine J_iload d_Ref_chooseRead_154 rfl ?_
  refine J.drop [true, true, true, true, true, false, true, false, false] rfl ?_
  exact p_Ref_chooseRead_L156 hw hG hKc13 H
def f_Ref_chooseRead_L126 (Γ : gm_T) (Kc13 : ph_T → Nat → Int32 → Int32 → Int32 → Int32 → Int32 → Int32 → Option (Int32 × ph_T)) (φ : ph_T) (x0 : Nat) (x1 : Int32) (x2 : Int32) (x4 : Int32) (x5 : Int32) (x6 : Int32) (x7 : Int32) (y0 : Int32) : Option (Int32 × ph_T) :=
  if x5 = (-1 : Int32) then
    @ite _ (Γ x0 = .inr 12) _ (
    Option.bind (φ.2.2 x0 73) fun a2 =>
    Option.bind (gA Γ a2 0) fun N3 =>
    Option.bind (ix x7 N3) fun k4 =>
    Option.bind (φ.2.2 x0 77) fun a5 =>
    Option.bind (gA Γ a5 0) fun N6 =>
    Option.bind (ix x1 N6) fun k7 =>
    if (φ.1 a2 k4) ≤ (φ.1 a5 k7) then
      f_Ref_chooseRead_L154 Γ Kc13 φ x0 x1 x2 y0 x4 x5 x6
    else
      f_Ref_chooseRead_L156 Γ Kc13 φ x0 x1 x2 y0 x4 x6 x7
    ) none
  else
    f_Ref_chooseRead_L154 Γ Kc13 φ x0 x1 x2 y0 x4 x5 x6
set_option maxRecDepth 100000 in
set_option maxHeartbeats 4000000 in
theorem p_Ref_chooseRead_L126 {w : jw_T} (hw : jok w) {Γ : gm_T} {n : Nat} (hG : gd w Γ n) {Kc13 : ph_T → Nat → Int32 → Int32 → Int32 → Int32 → Int32 → Int32 → Option (Int32 × ph_T)} (hKc13 : ∀ {x : Bool} {φ : ph_T} {x0 : Nat} {x1 : Int32} {x2 : Int32} {x3 : Int32} {x4 : Int32} {x5 : Int32} {x6 : Int32} {q : Int32 × ph_T}, Kc13 φ x0 x1 x2 x3 x4 x5 x6 = some q → J w M_Ref_chooseRead 13 [some (.ref x0), some (.int x1), some (.int x2), some (.int x3), some (.int x4), some (.int x5), some (.int x6), none, none] [] (pic Γ φ) n x 0 0 (fq Γ n (.inl (some (.int q.1))) q.2)) {x : Bool} {φ : ph_T} {x0 : Nat} {x1 : Int32} {x2 : Int32} {x4 : Int32} {x5 : Int32} {x6 : Int32} {x7 : Int32} {y0 : Int32} {q : Int32 × ph_T} (H : f_Ref_chooseRead_L126 Γ Kc13 φ x0 x1 x2 x4 x5 x6 x7 y0 = some q) : J w M_Ref_chooseRead 126 [some (.ref x0), some (.int x1), some (.int x2), none, some (.int x4), some (.int x5), some (.int x6), some (.int x7), none] [.int y0] (pic Γ φ) n x 0 0 (fq Γ n (.inl (some (.int q.1))) q.2) := by
  unfold f_Ref_chooseRead_L126 at H
  refine J_istore_n d_Ref_chooseRead_126 (Nat.le_of_ble_eq_true rfl) ?_
  refine J.ls (ls' := [some (.ref x0), some (.int x1), some (.int x2), some (.int y0), some (.int x4), some (.int x5), some (.int x6), some (.int x7), none]) rfl ?_
  refine J_iload d_Ref_chooseRead_127 rfl ?_
  refine J_iconst (v := -1) d_Ref_chooseRead_129 (by decide) ?_
  refine J_icmp_ne (tgt := 154) d_Ref_chooseRead_130 (by decide) ?_ ?_
  · intro c9
    rw [if_neg c9] at H
    refine J.drop [true, true, true, true, true, true, true, false, false] rfl ?_
    exact p_Ref_chooseRead_L154 hw hG hKc13 H
  · intro c9
    rw [if_pos c9] at H
    refine J_aload_n d_Ref_chooseRead_133 rfl ?_
    have g1 : Γ x0 = .inr 12 := by
      apply Classical.byContradiction
      intro q9
      rw [if_neg q9] at H
      cases H
    rw [if_pos g1] at H
    refine F_getR (ci := 12) (k := 73) hG (cf_Ref hw) (fl_Ref_199 hw) (by decide) (by decide) rfl d_Ref_chooseRead_134 g1 ?_
    refine J_iload d_Ref_chooseRead_137 rfl ?_
    obtain ⟨a2, ha2, H⟩ := Option.bind_eq_some_iff.mp H
    rw [j_rf ha2]
    obtain ⟨N3, hN3, H⟩ := Option.bind_eq_some_iff.mp H
    obtain ⟨k4, hk4, H⟩ := Option.bind_eq_some_iff.mp H
    refine F_iald k4 hw hG d_Ref_chooseRead_139 (gA_some hN3) (ix_some hk4) ?_
    refine J_aload_n d_Ref_chooseRead_140 rfl ?_
    refine F_getR (ci := 12) (k := 77) hG (cf_Ref hw) (fl_Ref_211 hw) (by decide) (by decide) rfl d_Ref_chooseRead_141 g1 ?_
    refine J_iload_n d_Ref_chooseRead_144 rfl ?_
    obtain ⟨a5, ha5, H⟩ := Option.bind_eq_some_iff.mp H
    rw [j_rf ha5]
    obtain ⟨N6, hN6, H⟩ := Option.bind_eq_some_iff.mp H
    obtain ⟨k7, hk7, H⟩ := Option.bind_eq_some_iff.mp H
    refine F_iald k7 hw hG d_Ref_chooseRead_145 (gA_some hN6) (ix_some hk7) ?_
    refine J_icmp_le (tgt := 154) d_Ref_chooseRead_146 (by decide) ?_ ?_
    · intro c8
      rw [if_pos c8] at H
      refine J.drop [true, true, true, true, true, true, true, false, false] rfl ?_
      exact p_Ref_chooseRead_L154 hw hG hKc13 H
    · intro c8
      rw [if_neg c8] at H
      refine J_iload d_Ref_chooseRead_149 rfl ?_
      refine J_goto (tgt := 156) d_Ref_chooseRead_151 (by decide) ?_
      refine J.drop [true, true, true, true, true, false, true, false, false] rfl ?_
      exact p_Ref_chooseRead_L156 hw hG hKc13 H
def f_Ref_chooseRead_L125 (Γ : gm_T) (Kc13 : ph_T → Nat → Int32 → Int32 → Int32 → Int32 → Int32 → Int32 → Option (Int32 × ph_T)) (φ : ph_T) (x0 : Nat) (x1 : Int32) (x2 : Int32) (x3 : Int32) (x4 : Int32) (x5 : Int32) (x6 : Int32) (x7 : Int32) : Option (Int32 × ph_T) :=
  f_Ref_chooseRead_L126 Γ Kc13 φ x0 x1 x2 x4 x5 x6 x7 x3
set_option maxRecDepth 100000 in
set_option maxHeartbeats 4000000 in
theorem p_Ref_chooseRead_L125 {w : jw_T} (hw : jok w) {Γ : gm_T} {n : Nat} (hG : gd w Γ n) {Kc13 : ph_T → Nat → Int32 → Int32 → Int32 → Int32 → Int32 → Int32 → Option (Int32 × ph_T)} (hKc13 : ∀ {x : Bool} {φ : ph_T} {x0 : Nat} {x1 : Int32} {x2 : Int32} {x3 : Int32} {x4 : Int32} {x5 : Int32} {x6 : Int32} {q : Int32 × ph_T}, Kc13 φ x0 x1 x2 x3 x4 x5 x6 = some q → J w M_Ref_chooseRead 13 [some (.ref x0), some (.int x1), some (.int x2), some (.int x3), some (.int x4), some (.int x5), some (.int x6), none, none] [] (pic Γ φ) n x 0 0 (fq Γ n (.inl (some (.int q.1))) q.2)) {x : Bool} {φ : ph_T} {x0 : Nat} {x1 : Int32} {x2 : Int32} {x3 : Int32} {x4 : Int32} {x5 : Int32} {x6 : Int32} {x7 : Int32} {q : Int32 × ph_T} (H : f_Ref_chooseRead_L125 Γ Kc13 φ x0 x1 x2 x3 x4 x5 x6 x7 = some q) : J w M_Ref_chooseRead 125 [some (.ref x0), some (.int x1), some (.int x2), some (.int x3), some (.int x4), some (.int x5), some (.int x6), some (.int x7), none] [] (pic Γ φ) n x 0 0 (fq Γ n (.inl (some (.int q.1))) q.2) := by
  unfold f_Ref_chooseRead_L125 at H
  refine J_iload_n d_Ref_chooseRead_125 rfl ?_
  refine J.drop [true, true, true, false, true, true, true, true, false] rfl ?_
  exact p_Ref_chooseRead_L126 hw hG hKc13 H
def f_Ref_chooseRead_L103 (Γ : gm_T) (Kc13 : ph_T → Nat → Int32 → Int32 → Int32 → Int32 → Int32 → Int32 → Option (Int32 × ph_T)) (φ : ph_T) (x0 : Nat) (x1 : Int32) (x2 : Int32) (x3 : Int32) (x5 : Int32) (x6 : Int32) (x7 : Int32) (y0 : Int32) : Option (Int32 × ph_T) :=
  if x3 = (-1 : Int32) then
    @ite _ (Γ x0 = .inr 12) _ (
    Option.bind (φ.2.2 x0 71) fun a11 =>
    Option.bind (gA Γ a11 0) fun N12 =>
    Option.bind (ix x7 N12) fun k13 =>
    if (φ.1 a11 k13) ≤ 0 then
      f_Ref_chooseRead_L125 Γ Kc13 φ x0 x1 x2 x3 y0 x5 x6 x7
    else
      f_Ref_chooseRead_L126 Γ Kc13 φ x0 x1 x2 y0 x5 x6 x7 x7
    ) none
  else
    f_Ref_chooseRead_L125 Γ Kc13 φ x0 x1 x2 x3 y0 x5 x6 x7
set_option maxRecDepth 100000 in
set_option maxHeartbeats 4000000 in
theorem p_Ref_chooseRead_L103 {w : jw_T} (hw : jok w) {Γ : gm_T} {n : Nat} (hG : gd w Γ n) {Kc13 : ph_T → Nat → Int32 → Int32 → Int32 → Int32 → Int32 → Int32 → Option (Int32 × ph_T)} (hKc13 : ∀ {x : Bool} {φ : ph_T} {x0 : Nat} {x1 : Int32} {x2 : Int32} {x3 : Int32} {x4 : Int32} {x5 : Int32} {x6 : Int32} {q : Int32 × ph_T}, Kc13 φ x0 x1 x2 x3 x4 x5 x6 = some q → J w M_Ref_chooseRead 13 [some (.ref x0), some (.int x1), some (.int x2), some (.int x3), some (.int x4), some (.int x5), some (.int x6), none, none] [] (pic Γ φ) n x 0 0 (fq Γ n (.inl (some (.int q.1))) q.2)) {x : Bool} {φ : ph_T} {x0 : Nat} {x1 : Int32} {x2 : Int32} {x3 : Int32} {x5 : Int32} {x6 : Int32} {x7 : Int32} {y0 : Int32} {q : Int32 × ph_T} (H : f_Ref_chooseRead_L103 Γ Kc13 φ x0 x1 x2 x3 x5 x6 x7 y0 = some q) : J w M_Ref_chooseRead 103 [some (.ref x0), some (.int x1), some (.int x2), some (.int x3), none, some (.int x5), some (.int x6), some (.int x7), none] [.int y0] (pic Γ φ) n x 0 0 (fq Γ n (.inl (some (.int q.1))) q.2) := by
  unfold f_Ref_chooseRead_L103 at H
  refine J_istore d_Ref_chooseRead_103 (Nat.le_of_ble_eq_true rfl) ?_
  refine J.ls (ls' := [some (.ref x0), some (.int x1), some (.int x2), some (.int x3), some (.int y0), some (.int x5), some (.int x6), some (.int x7), none]) rfl ?_
  refine J_iload_n d_Ref_chooseRead_105 rfl ?_
  refine J_iconst (v := -1) d_Ref_chooseRead_106 (by decide) ?_
  refine J_icmp_ne (tgt := 125) d_Ref_chooseRead_107 (by decide) ?_ ?_
  · intro c15
    rw [if_neg c15] at H
    refine J.drop [true, true, true, true, true, true, true, true, false] rfl ?_
    exact p_Ref_chooseRead_L125 hw hG hKc13 H
  · intro c15
    rw [if_pos c15] at H
    refine J_aload_n d_Ref_chooseRead_110 rfl ?_
    have g10 : Γ x0 = .inr 12 := by
      apply Classical.byContradiction
      intro q9
      rw [if_neg q9] at H
      cases H
    rw [if_pos g10] at H
    refine F_getR (ci := 12) (k := 71) hG (cf_Ref hw) (fl_Ref_193 hw) (by decide) (by decide) rfl d_Ref_chooseRead_111 g10 ?_
    refine J_iload d_Ref_chooseRead_114 rfl ?_
    obtain ⟨a11, ha11, H⟩ := Option.bind_eq_some_iff.mp H
    rw [j_rf ha11]
    obtain ⟨N12, hN12, H⟩ := Option.bind_eq_some_iff.mp H
    obtain ⟨k13, hk13, H⟩ := Option.bind_eq_some_iff.mp H
    refine F_iald k13 hw hG d_Ref_chooseRead_116 (gA_some hN12) (ix_some hk13) ?_
    refine J_if_le (tgt := 125) d_Ref_chooseRead_117 (by decide) ?_ ?_
    · intro c14
      rw [if_pos c14] at H
      refine J.drop [true, true, true, true, true, true, true, true, false] rfl ?_
      exact p_Ref_chooseRead_L125 hw hG hKc13 H
    · intro c14
      rw [if_neg c14] at H
      refine J_iload d_Ref_chooseRead_120 rfl ?_
      refine J_goto (tgt := 126) d_Ref_chooseRead_122 (by decide) ?_
      refine J.drop [true, true, true, false, true, true, true, true, false] rfl ?_
      exact p_Ref_chooseRead_L126 hw hG hKc13 H
def f_Ref_chooseRead_L80 (Γ : gm_T) (Kc13 : ph_T → Nat → Int32 → Int32 → Int32 → Int32 → Int32 → Int32 → Option (Int32 × ph_T)) (φ : ph_T) (x0 : Nat) (x1 : Int32) (x2 : Int32) (x3 : Int32) (x4 : Int32) (x5 : Int32) (x6 : Int32) (x7 : Int32) (y0 : Int32) : Option (Int32 × ph_T) :=
  if y0 = 0 then
    f_Ref_chooseRead_L158 Γ Kc13 φ x0 x1 x2 x3 x4 x5 x6
  else
    if x4 = (-1 : Int32) then
      f_Ref_chooseRead_L103 Γ Kc13 φ x0 x1 x7 x3 x5 x6 x7 x7
    else
      f_Ref_chooseRead_L103 Γ Kc13 φ x0 x1 x7 x3 x5 x6 x7 x4
set_option maxRecDepth 100000 in
set_option maxHeartbeats 4000000 in
theorem p_Ref_chooseRead_L80 {w : jw_T} (hw : jok w) {Γ : gm_T} {n : Nat} (hG : gd w Γ n) {Kc13 : ph_T → Nat → Int32 → Int32 → Int32 → Int32 → Int32 → Int32 → Option (Int32 × ph_T)} (hKc13 : ∀ {x : Bool} {φ : ph_T} {x0 : Nat} {x1 : Int32} {x2 : Int32} {x3 : Int32} {x4 : Int32} {x5 : Int32} {x6 : Int32} {q : Int32 × ph_T}, Kc13 φ x0 x1 x2 x3 x4 x5 x6 = some q → J w M_Ref_chooseRead 13 [some (.ref x0), some (.int x1), some (.int x2), some (.int x3), some (.int x4), some (.int x5), some (.int x6), none, none] [] (pic Γ φ) n x 0 0 (fq Γ n (.inl (some (.int q.1))) q.2)) {x : Bool} {φ : ph_T} {x0 : Nat} {x1 : Int32} {x2 : Int32} {x3 : Int32} {x4 : Int32} {x5 : Int32} {x6 : Int32} {x7 : Int32} {y0 : Int32} {q : Int32 × ph_T} (H : f_Ref_chooseRead_L80 Γ Kc13 φ x0 x1 x2 x3 x4 x5 x6 x7 y0 = some q) : J w M_Ref_chooseRead 80 [some (.ref x0), some (.int x1), some (.int x2), some (.int x3), some (.int x4), some (.int x5), some (.int x6), some (.int x7), none] [.int y0] (pic Γ φ) n x 0 0 (fq Γ n (.inl (some (.int q.1))) q.2) := by
  unfold f_Ref_chooseRead_L80 at H
  refine J_istore d_Ref_chooseRead_80 (Nat.le_of_ble_eq_true rfl) ?_
  refine J.ls (ls' := [some (.ref x0), some (.int x1), some (.int x2), some (.int x3), some (.int x4), some (.int x5), some (.int x6), some (.int x7), some (.int y0)]) rfl ?_
  refine J_iload d_Ref_chooseRead_82 rfl ?_
  refine J_if_eq (tgt := 158) d_Ref_chooseRead_84 (by decide) ?_ ?_
  · intro c17
    rw [if_pos c17] at H
    refine J.drop [true, true, true, true, true, true, true, false, false] rfl ?_
    exact p_Ref_chooseRead_L158 hw hG hKc13 H
  · intro c17
    rw [if_neg c17] at H
    refine J_iload d_Ref_chooseRead_87 rfl ?_
    refine J_istore_n d_Ref_chooseRead_89 (Nat.le_of_ble_eq_true rfl) ?_
    refine J.ls (ls' := [some (.ref x0), some (.int x1), some (.int x7), some (.int x3), some (.int x4), some (.int x5), some (.int x6), some (.int x7), some (.int y0)]) rfl ?_
    refine J_iload d_Ref_chooseRead_90 rfl ?_
    refine J_iconst (v := -1) d_Ref_chooseRead_92 (by decide) ?_
    refine J_icmp_ne (tgt := 101) d_Ref_chooseRead_93 (by decide) ?_ ?_
    · intro c16
      rw [if_neg c16] at H
      refine J_iload d_Ref_chooseRead_101 rfl ?_
      refine J.drop [true, true, true, true, false, true, true, true, false] rfl ?_
      exact p_Ref_chooseRead_L103 hw hG hKc13 H
    · intro c16
      rw [if_pos c16] at H
      refine J_iload d_Ref_chooseRead_96 rfl ?_
      refine J_goto (tgt := 103) d_Ref_chooseRead_98 (by decide) ?_
      refine J.drop [true, true, true, true, false, true, true, true, false] rfl ?_
      exact p_Ref_chooseRead_L103 hw hG hKc13 H
def f_Ref_chooseRead_L79 (Γ : gm_T) (Kc13 : ph_T → Nat → Int32 → Int32 → Int32 → Int32 → Int32 → Int32 → Option (Int32 × ph_T)) (φ : ph_T) (x0 : Nat) (x1 : Int32) (x2 : Int32) (x3 : Int32) (x4 : Int32) (x5 : Int32) (x6 : Int32) (x7 : Int32) : Option (Int32 × ph_T) :=
  f_Ref_chooseRead_L80 Γ Kc13 φ x0 x1 x2 x3 x4 x5 x6 x7 (0 : Int32)
set_option maxRecDepth 100000 in
set_option maxHeartbeats 4000000 in
theorem p_Ref_chooseRead_L79 {w : jw_T} (hw : jok w) {Γ : gm_T} {n : Nat} (hG : gd w Γ n) {Kc13 : ph_T → Nat → Int32 → Int32 → Int32 → Int32 → Int32 → Int32 → Option (Int32 × ph_T)} (hKc13 : ∀ {x : Bool} {φ : ph_T} {x0 : Nat} {x1 : Int32} {x2 : Int32} {x3 : Int32} {x4 : Int32} {x5 : Int32} {x6 : Int32} {q : Int32 × ph_T}, Kc13 φ x0 x1 x2 x3 x4 x5 x6 = some q → J w M_Ref_chooseRead 13 [some (.ref x0), some (.int x1), some (.int x2), some (.int x3), some (.int x4), some (.int x5), some (.int x6), none, none] [] (pic Γ φ) n x 0 0 (fq Γ n (.inl (some (.int q.1))) q.2)) {x : Bool} {φ : ph_T} {x0 : Nat} {x1 : Int32} {x2 : Int32} {x3 : Int32} {x4 : Int32} {x5 : Int32} {x6 : Int32} {x7 : Int32} {q : Int32 × ph_T} (H : f_Ref_chooseRead_L79 Γ Kc13 φ x0 x1 x2 x3 x4 x5 x6 x7 = some q) : J w M_Ref_chooseRead 79 [some (.ref x0), some (.int x1), some (.int x2), some (.int x3), some (.int x4), some (.int x5), some (.int x6), some (.int x7), none] [] (pic Γ φ) n x 0 0 (fq Γ n (.inl (some (.int q.1))) q.2) := by
  unfold f_Ref_chooseRead_L79 at H
  refine J_iconst (v := 0) d_Ref_chooseRead_79 (by decide) ?_
  refine J.drop [true, true, true, true, true, true, true, true, false] rfl ?_
  exact p_Ref_chooseRead_L80 hw hG hKc13 H
def f_Ref_chooseRead_L75 (Γ : gm_T) (Kc13 : ph_T → Nat → Int32 → Int32 → Int32 → Int32 → Int32 → Int32 → Option (Int32 × ph_T)) (φ : ph_T) (x0 : Nat) (x1 : Int32) (x2 : Int32) (x3 : Int32) (x4 : Int32) (x5 : Int32) (x6 : Int32) (x7 : Int32) : Option (Int32 × ph_T) :=
  f_Ref_chooseRead_L80 Γ Kc13 φ x0 x1 x2 x3 x4 x5 x6 x7 (1 : Int32)
set_option maxRecDepth 100000 in
set_option maxHeartbeats 4000000 in
theorem p_Ref_chooseRead_L75 {w : jw_T} (hw : jok w) {Γ : gm_T} {n : Nat} (hG : gd w Γ n) {Kc13 : ph_T → Nat → Int32 → Int32 → Int32 → Int32 → Int32 → Int32 → Option (Int32 × ph_T)} (hKc13 : ∀ {x : Bool} {φ : ph_T} {x0 : Nat} {x1 : Int32} {x2 : Int32} {x3 : Int32} {x4 : Int32} {x5 : Int32} {x6 : Int32} {q : Int32 × ph_T}, Kc13 φ x0 x1 x2 x3 x4 x5 x6 = some q → J w M_Ref_chooseRead 13 [some (.ref x0), some (.int x1), some (.int x2), some (.int x3), some (.int x4), some (.int x5), some (.int x6), none, none] [] (pic Γ φ) n x 0 0 (fq Γ n (.inl (some (.int q.1))) q.2)) {x : Bool} {φ : ph_T} {x0 : Nat} {x1 : Int32} {x2 : Int32} {x3 : Int32} {x4 : Int32} {x5 : Int32} {x6 : Int32} {x7 : Int32} {q : Int32 × ph_T} (H : f_Ref_chooseRead_L75 Γ Kc13 φ x0 x1 x2 x3 x4 x5 x6 x7 = some q) : J w M_Ref_chooseRead 75 [some (.ref x0), some (.int x1), some (.int x2), some (.int x3), some (.int x4), some (.int x5), some (.int x6), some (.int x7), none] [] (pic Γ φ) n x 0 0 (fq Γ n (.inl (some (.int q.1))) q.2) := by
  unfold f_Ref_chooseRead_L75 at H
  refine J_iconst (v := 1) d_Ref_chooseRead_75 (by decide) ?_
  refine J_goto (tgt := 80) d_Ref_chooseRead_76 (by decide) ?_
  refine J.drop [true, true, true, true, true, true, true, true, false] rfl ?_
  exact p_Ref_chooseRead_L80 hw hG hKc13 H
def f_Ref_chooseRead_L13 (Γ : gm_T)  : Nat → ph_T → Nat → Int32 → Int32 → Int32 → Int32 → Int32 → Int32 → Option (Int32 × ph_T)
  | 0, _, _, _, _, _, _, _, _ => none
  | fu + 1, φ, x0, x1, x2, x3, x4, x5, x6 =>
    @ite _ (Γ x0 = .inr 12) _ (
    Option.bind (φ.2.2 x0 67) fun a19 =>
    Option.bind (gA Γ a19 0) fun N20 =>
    Option.bind (ix x1 N20) fun k21 =>
    if (φ.1 a19 k21) ≤ x6 then
      Option.bind (φ.2.2 x0 12) fun a22 =>
      Option.bind (gA Γ a22 0) fun N23 =>
      Option.bind (ix x1 N23) fun k24 =>
      if (φ.1 a22 k24) = (2 : Int32) then
        if x5 = (-1 : Int32) then
          f_Ref_chooseRead_L210 Γ  φ x4
        else
          f_Ref_chooseRead_L210 Γ  φ x5
      else
        Option.bind (gA Γ a22 0) fun N25 =>
        Option.bind (ix x1 N25) fun k26 =>
        if (φ.1 a22 k26) = (1 : Int32) then
          if x3 = (-1 : Int32) then
            f_Ref_chooseRead_L209 Γ  φ x2
          else
            f_Ref_chooseRead_L210 Γ  φ x3
        else
          f_Ref_chooseRead_L209 Γ  φ x2
    else
      Option.bind (φ.2.2 x0 68) fun a31 =>
      Option.bind (gA Γ a31 0) fun N32 =>
      Option.bind (ix (((4 : Int32) * x1) + x6) N32) fun k33 =>
      Option.bind (f_Ref_isReadRipe Γ φ x0 (φ.1 a31 k33) x1) fun q34 =>
      if q34.1 = 0 then
        f_Ref_chooseRead_L79 Γ (f_Ref_chooseRead_L13 Γ  fu) q34.2 x0 x1 x2 x3 x4 x5 x6 (φ.1 a31 k33)
      else
        Option.bind (q34.2.2.2 x0 12) fun a35 =>
        Option.bind (gA Γ a35 0) fun N36 =>
        Option.bind (ix x1 N36) fun k37 =>
        if (q34.2.1 a35 k37) = 0 then
          if x6 = 0 then
            f_Ref_chooseRead_L75 Γ (f_Ref_chooseRead_L13 Γ  fu) q34.2 x0 x1 x2 x3 x4 x5 x6 (φ.1 a31 k33)
          else
            f_Ref_chooseRead_L79 Γ (f_Ref_chooseRead_L13 Γ  fu) q34.2 x0 x1 x2 x3 x4 x5 x6 (φ.1 a31 k33)
        else
          Option.bind (f_Ref_isFirstWithId Γ q34.2 x0 x1 x6 (0 : Int32)) fun q38 =>
          if q38.1 = 0 then
            f_Ref_chooseRead_L79 Γ (f_Ref_chooseRead_L13 Γ  fu) q38.2 x0 x1 x2 x3 x4 x5 x6 (φ.1 a31 k33)
          else
            f_Ref_chooseRead_L75 Γ (f_Ref_chooseRead_L13 Γ  fu) q38.2 x0 x1 x2 x3 x4 x5 x6 (φ.1 a31 k33)
    ) none
set_option maxRecDepth 100000 in
set_option maxHeartbeats 4000000 in
theorem p_Ref_chooseRead_L13 {w : jw_T} (hw : jok w) {Γ : gm_T} {n : Nat} (hG : gd w Γ n)  : ∀ (fu : Nat) {x : Bool} {φ : ph_T} {x0 : Nat} {x1 : Int32} {x2 : Int32} {x3 : Int32} {x4 : Int32} {x5 : Int32} {x6 : Int32} {q : Int32 × ph_T}, f_Ref_chooseRead_L13 Γ  fu φ x0 x1 x2 x3 x4 x5 x6 = some q → J w M_Ref_chooseRead 13 [some (.ref x0), some (.int x1), some (.int x2), some (.int x3), some (.int x4), some (.int x5), some (.int x6), none, none] [] (pic Γ φ) n x 0 0 (fq Γ n (.inl (some (.int q.1))) q.2) := by
  intro fu
  induction fu with
  | zero =>
    intro x φ x0 x1 x2 x3 x4 x5 x6 q H
    cases H
  | succ fu ih =>
    intro x φ x0 x1 x2 x3 x4 x5 x6 q H
    unfold f_Ref_chooseRead_L13 at H
    refine J_iload d_Ref_chooseRead_13 rfl ?_
    refine J_aload_n d_Ref_chooseRead_15 rfl ?_
    have g18 : Γ x0 = .inr 12 := by
      apply Classical.byContradiction
      intro q9
      rw [if_neg q9] at H
      cases H
    rw [if_pos g18] at H
    refine F_getR (ci := 12) (k := 67) hG (cf_Ref hw) (fl_Ref_181 hw) (by decide) (by decide) rfl d_Ref_chooseRead_16 g18 ?_
    refine J_iload_n d_Ref_chooseRead_19 rfl ?_
    obtain ⟨a19, ha19, H⟩ := Option.bind_eq_some_iff.mp H
    rw [j_rf ha19]
    obtain ⟨N20, hN20, H⟩ := Option.bind_eq_some_iff.mp H
    obtain ⟨k21, hk21, H⟩ := Option.bind_eq_some_iff.mp H
    refine F_iald k21 hw hG d_Ref_chooseRead_20 (gA_some hN20) (ix_some hk21) ?_
    refine J_icmp_ge (tgt := 164) d_Ref_chooseRead_21 (by decide) ?_ ?_
    · intro c43
      rw [if_pos c43] at H
      refine J_aload_n d_Ref_chooseRead_164 rfl ?_
      refine F_getR (ci := 12) (k := 12) hG (cf_Ref hw) (fl_Ref_26 hw) (by decide) (by decide) rfl d_Ref_chooseRead_165 g18 ?_
      refine J_iload_n d_Ref_chooseRead_168 rfl ?_
      obtain ⟨a22, ha22, H⟩ := Option.bind_eq_some_iff.mp H
      rw [j_rf ha22]
      obtain ⟨N23, hN23, H⟩ := Option.bind_eq_some_iff.mp H
      obtain ⟨k24, hk24, H⟩ := Option.bind_eq_some_iff.mp H
      refine F_iald k24 hw hG d_Ref_chooseRead_169 (gA_some hN23) (ix_some hk24) ?_
      refine J_iconst (v := 2) d_Ref_chooseRead_170 (by decide) ?_
      refine J_icmp_ne (tgt := 190) d_Ref_chooseRead_171 (by decide) ?_ ?_
      · intro c30
        rw [if_neg c30] at H
        refine J_aload_n d_Ref_chooseRead_190 rfl ?_
        refine F_getR (ci := 12) (k := 12) hG (cf_Ref hw) (fl_Ref_26 hw) (by decide) (by decide) rfl d_Ref_chooseRead_191 g18 ?_
        refine J_iload_n d_Ref_chooseRead_194 rfl ?_
        try rw [j_rf ha22]
        obtain ⟨N25, hN25, H⟩ := Option.bind_eq_some_iff.mp H
        obtain ⟨k26, hk26, H⟩ := Option.bind_eq_some_iff.mp H
        refine F_iald k26 hw hG d_Ref_chooseRead_195 (gA_some hN25) (ix_some hk26) ?_
        refine J_iconst (v := 1) d_Ref_chooseRead_196 (by decide) ?_
        refine J_icmp_ne (tgt := 209) d_Ref_chooseRead_197 (by decide) ?_ ?_
        · intro c28
          rw [if_neg c28] at H
          refine J.drop [false, false, true, false, false, false, false, false, false] rfl ?_
          exact p_Ref_chooseRead_L209 hw hG  H
        · intro c28
          rw [if_pos c28] at H
          refine J_iload_n d_Ref_chooseRead_200 rfl ?_
          refine J_iconst (v := -1) d_Ref_chooseRead_201 (by decide) ?_
          refine J_icmp_eq (tgt := 209) d_Ref_chooseRead_202 (by decide) ?_ ?_
          · intro c27
            rw [if_pos c27] at H
            refine J.drop [false, false, true, false, false, false, false, false, false] rfl ?_
            exact p_Ref_chooseRead_L209 hw hG  H
          · intro c27
            rw [if_neg c27] at H
            refine J_iload_n d_Ref_chooseRead_205 rfl ?_
            refine J_goto (tgt := 210) d_Ref_chooseRead_206 (by decide) ?_
            refine J.drop [false, false, false, false, false, false, false, false, false] rfl ?_
            exact p_Ref_chooseRead_L210 hw hG  H
      · intro c30
        rw [if_pos c30] at H
        refine J_iload d_Ref_chooseRead_174 rfl ?_
        refine J_iconst (v := -1) d_Ref_chooseRead_176 (by decide) ?_
        refine J_icmp_eq (tgt := 185) d_Ref_chooseRead_177 (by decide) ?_ ?_
        · intro c29
          rw [if_pos c29] at H
          refine J_iload d_Ref_chooseRead_185 rfl ?_
          refine J_goto (tgt := 210) d_Ref_chooseRead_187 (by decide) ?_
          refine J.drop [false, false, false, false, false, false, false, false, false] rfl ?_
          exact p_Ref_chooseRead_L210 hw hG  H
        · intro c29
          rw [if_neg c29] at H
          refine J_iload d_Ref_chooseRead_180 rfl ?_
          refine J_goto (tgt := 210) d_Ref_chooseRead_182 (by decide) ?_
          refine J.drop [false, false, false, false, false, false, false, false, false] rfl ?_
          exact p_Ref_chooseRead_L210 hw hG  H
    · intro c43
      rw [if_neg c43] at H
      refine J_aload_n d_Ref_chooseRead_24 rfl ?_
      refine F_getR (ci := 12) (k := 68) hG (cf_Ref hw) (fl_Ref_184 hw) (by decide) (by decide) rfl d_Ref_chooseRead_25 g18 ?_
      refine J_iconst (v := 4) d_Ref_chooseRead_28 (by decide) ?_
      refine J_iload_n d_Ref_chooseRead_29 rfl ?_
      refine J_imul d_Ref_chooseRead_30 ?_
      refine J_iload d_Ref_chooseRead_31 rfl ?_
      refine J_iadd d_Ref_chooseRead_33 ?_
      obtain ⟨a31, ha31, H⟩ := Option.bind_eq_some_iff.mp H
      rw [j_rf ha31]
      obtain ⟨N32, hN32, H⟩ := Option.bind_eq_some_iff.mp H
      obtain ⟨k33, hk33, H⟩ := Option.bind_eq_some_iff.mp H
      refine F_iald k33 hw hG d_Ref_chooseRead_34 (gA_some hN32) (ix_some hk33) ?_
      refine J_istore d_Ref_chooseRead_35 (Nat.le_of_ble_eq_true rfl) ?_
      refine J.ls (ls' := [some (.ref x0), some (.int x1), some (.int x2), some (.int x3), some (.int x4), some (.int x5), some (.int x6), some (.int (φ.1 a31 k33)), none]) rfl ?_
      refine J_aload_n d_Ref_chooseRead_37 rfl ?_
      refine J_iload d_Ref_chooseRead_38 rfl ?_
      refine J_iload_n d_Ref_chooseRead_40 rfl ?_
      obtain ⟨q34, hq34, H⟩ := Option.bind_eq_some_iff.mp H
      refine J_callV (kc := 0) (ks := 0) (kc' := 0) (ks' := 0) (a := x0) (ci := 12) (as := [.int (φ.1 a31 k33), .int x1]) (st := []) (mf_Ref_isReadRipe hw) (mv_Ref_406 hw) d_Ref_chooseRead_41 ln_Ref_isReadRipe (by decide) (by first | exact Nat.le_of_ble_eq_true rfl | (simp only [List.map_cons, List.map_nil, List.sum_cons, List.sum_nil, va_rf_cat]; exact Nat.le_of_ble_eq_true rfl)) rfl ((hG _).1 _ g18 (by decide)).1 ((hG _).1 _ g18 (by decide)).2 (by unfold pic; rw [g18]; rfl) (jcl_at hw rfl) rfl (p_Ref_isReadRipe hw hG hq34) ?_ (fun E h' n' x' e1 => by cases e1.1)
      intro v9 h9 n9 x9 e9
      obtain ⟨e91, e92, e93⟩ := e9
      cases e91
      subst e92
      subst e93
      clear x
      rename Bool => x
      show J _ _ _ _ (_ :: _) _ _ _ _ _ _
      refine J_if_eq (tgt := 79) d_Ref_chooseRead_44 (by decide) ?_ ?_
      · intro c42
        rw [if_pos c42] at H
        refine J.drop [true, true, true, true, true, true, true, true, false] rfl ?_
        exact p_Ref_chooseRead_L79 hw hG ih H
      · intro c42
        rw [if_neg c42] at H
        refine J_aload_n d_Ref_chooseRead_47 rfl ?_
        refine F_getR (ci := 12) (k := 12) hG (cf_Ref hw) (fl_Ref_26 hw) (by decide) (by decide) rfl d_Ref_chooseRead_48 g18 ?_
        refine J_iload_n d_Ref_chooseRead_51 rfl ?_
        obtain ⟨a35, ha35, H⟩ := Option.bind_eq_some_iff.mp H
        rw [j_rf ha35]
        obtain ⟨N36, hN36, H⟩ := Option.bind_eq_some_iff.mp H
        obtain ⟨k37, hk37, H⟩ := Option.bind_eq_some_iff.mp H
        refine F_iald k37 hw hG d_Ref_chooseRead_52 (gA_some hN36) (ix_some hk37) ?_
        refine J_if_ne (tgt := 64) d_Ref_chooseRead_53 (by decide) ?_ ?_
        · intro c41
          rw [if_neg c41] at H
          refine J_aload_n d_Ref_chooseRead_64 rfl ?_
          refine J_iload_n d_Ref_chooseRead_65 rfl ?_
          refine J_iload d_Ref_chooseRead_66 rfl ?_
          refine J_iconst (v := 0) d_Ref_chooseRead_68 (by decide) ?_
          obtain ⟨q38, hq38, H⟩ := Option.bind_eq_some_iff.mp H
          refine J_callV (kc := 0) (ks := 0) (kc' := 0) (ks' := 0) (a := x0) (ci := 12) (as := [.int x1, .int x6, .int (0 : Int32)]) (st := []) (mf_Ref_isFirstWithId hw) (mv_Ref_402 hw) d_Ref_chooseRead_69 ln_Ref_isFirstWithId (by decide) (by first | exact Nat.le_of_ble_eq_true rfl | (simp only [List.map_cons, List.map_nil, List.sum_cons, List.sum_nil, va_rf_cat]; exact Nat.le_of_ble_eq_true rfl)) rfl ((hG _).1 _ g18 (by decide)).1 ((hG _).1 _ g18 (by decide)).2 (by unfold pic; rw [g18]; rfl) (jcl_at hw rfl) rfl (p_Ref_isFirstWithId hw hG hq38) ?_ (fun E h' n' x' e1 => by cases e1.1)
          intro v9 h9 n9 x9 e9
          obtain ⟨e91, e92, e93⟩ := e9
          cases e91
          subst e92
          subst e93
          clear x
          rename Bool => x
          show J _ _ _ _ (_ :: _) _ _ _ _ _ _
          refine J_if_eq (tgt := 79) d_Ref_chooseRead_72 (by decide) ?_ ?_
          · intro c39
            rw [if_pos c39] at H
            refine J.drop [true, true, true, true, true, true, true, true, false] rfl ?_
            exact p_Ref_chooseRead_L79 hw hG ih H
          · intro c39
            rw [if_neg c39] at H
            refine J.drop [true, true, true, true, true, true, true, true, false] rfl ?_
            exact p_Ref_chooseRead_L75 hw hG ih H
        · intro c41
          rw [if_pos c41] at H
          refine J_iload d_Ref_chooseRead_56 rfl ?_
          refine J_if_ne (tgt := 79) d_Ref_chooseRead_58 (by decide) ?_ ?_
          · intro c40
            rw [if_neg c40] at H
            refine J.drop [true, true, true, true, true, true, true, true, false] rfl ?_
            exact p_Ref_chooseRead_L79 hw hG ih H
          · intro c40
            rw [if_pos c40] at H
            refine J_goto (tgt := 75) d_Ref_chooseRead_61 (by decide) ?_
            refine J.drop [true, true, true, true, true, true, true, true, false] rfl ?_
            exact p_Ref_chooseRead_L75 hw hG ih H
def f_Ref_chooseRead (Γ : gm_T) (φ : ph_T) (this : Nat) (p0 : Int32) : Option (Int32 × ph_T) :=
  f_Ref_chooseRead_L13 Γ  jF φ this p0 (-1 : Int32) (-1 : Int32) (-1 : Int32) (-1 : Int32) (0 : Int32)
set_option maxRecDepth 100000 in
set_option maxHeartbeats 4000000 in
theorem p_Ref_chooseRead {w : jw_T} (hw : jok w) {Γ : gm_T} {n : Nat} (hG : gd w Γ n) {x : Bool} {φ : ph_T} {this : Nat} {p0 : Int32} {q : Int32 × ph_T} (H : f_Ref_chooseRead Γ φ this p0 = some q) : jc w M_Ref_chooseRead [.ref this, .int p0] (pic Γ φ) n x 0 0 (fq Γ n (.inl (some (.int q.1))) q.2) := by
  refine jc.of (by simp only [jent_r, jent_i, jent_l, jent_a, jent_0]; exact Nat.le_of_ble_eq_true rfl) ?_
  have hls : jents [.ref this, .int p0] (jm_nL M_Ref_chooseRead) = [some (.ref this), some (.int p0), none, none, none, none, none, none, none] := by simp only [jents, jent_r, jent_i, jent_l, jent_a, jent_0]; rfl
  rw [hls]
  clear hls
  unfold f_Ref_chooseRead at H
  refine J_iconst (v := -1) d_Ref_chooseRead_0 (by decide) ?_
  refine J_istore_n d_Ref_chooseRead_1 (Nat.le_of_ble_eq_true rfl) ?_
  refine J.ls (ls' := [some (.ref this), some (.int p0), some (.int (-1 : Int32)), none, none, none, none, none, none]) rfl ?_
  refine J_iconst (v := -1) d_Ref_chooseRead_2 (by decide) ?_
  refine J_istore_n d_Ref_chooseRead_3 (Nat.le_of_ble_eq_true rfl) ?_
  refine J.ls (ls' := [some (.ref this), some (.int p0), some (.int (-1 : Int32)), some (.int (-1 : Int32)), none, none, none, none, none]) rfl ?_
  refine J_iconst (v := -1) d_Ref_chooseRead_4 (by decide) ?_
  refine J_istore d_Ref_chooseRead_5 (Nat.le_of_ble_eq_true rfl) ?_
  refine J.ls (ls' := [some (.ref this), some (.int p0), some (.int (-1 : Int32)), some (.int (-1 : Int32)), some (.int (-1 : Int32)), none, none, none, none]) rfl ?_
  refine J_iconst (v := -1) d_Ref_chooseRead_7 (by decide) ?_
  refine J_istore d_Ref_chooseRead_8 (Nat.le_of_ble_eq_true rfl) ?_
  refine J.ls (ls' := [some (.ref this), some (.int p0), some (.int (-1 : Int32)), some (.int (-1 : Int32)), some (.int (-1 : Int32)), some (.int (-1 : Int32)), none, none, none]) rfl ?_
  refine J_iconst (v := 0) d_Ref_chooseRead_10 (by decide) ?_
  refine J_istore d_Ref_chooseRead_11 (Nat.le_of_ble_eq_true rfl) ?_
  refine J.ls (ls' := [some (.ref this), some (.int p0), some (.int (-1 : Int32)), some (.int (-1 : Int32)), some (.int (-1 : Int32)), some (.int (-1 : Int32)), some (.int (0 : Int32)), none, none]) rfl ?_
  refine J.drop [true, true, true, true, true, true, true, false, false] rfl ?_
  exact p_Ref_chooseRead_L13 hw hG  _ H
