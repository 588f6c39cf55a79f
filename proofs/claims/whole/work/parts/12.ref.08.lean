theorem ln_Ref_isWriteRipe : (parseMethodDescriptor y_Ref_isWriteRipe.desc).map (fun q => q.parameters.length) = some 2 := by decide +kernel
def f_Ref_isWriteRipe_L37 (Γ : gm_T)  (φ : ph_T) (y0 : Int32) : Option (Int32 × ph_T) :=
  @ite _ (y0 = 0 ∨ y0 = 1) _ (
  some (y0, φ)
  ) none
set_option maxRecDepth 100000 in
set_option maxHeartbeats 4000000 in
theorem p_Ref_isWriteRipe_L37 {w : jw_T} (hw : jok w) {Γ : gm_T} {n : Nat} (hG : gd w Γ n)  {x : Bool} {φ : ph_T} {y0 : Int32} {q : Int32 × ph_T} (H : f_Ref_isWriteRipe_L37 Γ  φ y0 = some q) : J w M_Ref_isWriteRipe 37 [none, none, none] [.int y0] (pic Γ φ) n x 0 0 (fq Γ n (.inl (some (.int q.1))) q.2) := by
  unfold f_Ref_isWriteRipe_L37 at H
  have z1 : y0 = 0 ∨ y0 = 1 := by
    apply Classical.byContradiction
    intro q9
    rw [if_neg q9] at H
    cases H
  rw [if_pos z1] at H
  have H := Option.some.inj H
  subst H
  exact J_iret (st := []) d_Ref_isWriteRipe_37 rfl (narrow_z z1).1 ⟨rfl, rfl, rfl⟩
def f_Ref_isWriteRipe_L36 (Γ : gm_T)  (φ : ph_T) : Option (Int32 × ph_T) :=
  f_Ref_isWriteRipe_L37 Γ  φ (0 : Int32)
set_option maxRecDepth 100000 in
set_option maxHeartbeats 4000000 in
theorem p_Ref_isWriteRipe_L36 {w : jw_T} (hw : jok w) {Γ : gm_T} {n : Nat} (hG : gd w Γ n)  {x : Bool} {φ : ph_T} {q : Int32 × ph_T} (H : f_Ref_isWriteRipe_L36 Γ  φ  = some q) : J w M_Ref_isWriteRipe 36 [none, none, none] [] (pic Γ φ) n x 0 0 (fq Γ n (.inl (some (.int q.1))) q.2) := by
  unfold f_Ref_isWriteRipe_L36 at H
  refine J_iconst (v := 0) d_Ref_isWriteRipe_36 (by decide) ?_
  refine J.drop [false, false, false] rfl ?_
  exact p_Ref_isWriteRipe_L37 hw hG  H
def f_Ref_isWriteRipe (Γ : gm_T) (φ : ph_T) (this : Nat) (p0 : Int32) (p1 : Int32) : Option (Int32 × ph_T) :=
  @ite _ (Γ this = .inr 12) _ (
  Option.bind (φ.2.2 this 63) fun a3 =>
  Option.bind (gA Γ a3 0) fun N4 =>
  Option.bind (ix p0 N4) fun k5 =>
  if (φ.1 a3 k5) = (-1 : Int32) then
    f_Ref_isWriteRipe_L36 Γ  φ 
  else
    Option.bind (gA Γ a3 0) fun N6 =>
    Option.bind (ix p0 N6) fun k7 =>
    Option.bind (φ.2.2 this 11) fun a8 =>
    Option.bind (gA Γ a8 0) fun N9 =>
    Option.bind (ix p1 N9) fun k10 =>
    if (φ.1 this 6) < (((φ.1 a3 k7) + (φ.1 a8 k10)) + (1 : Int32)) then
      f_Ref_isWriteRipe_L36 Γ  φ 
    else
      f_Ref_isWriteRipe_L37 Γ  φ (1 : Int32)
  ) none
set_option maxRecDepth 100000 in
set_option maxHeartbeats 4000000 in
theorem p_Ref_isWriteRipe {w : jw_T} (hw : jok w) {Γ : gm_T} {n : Nat} (hG : gd w Γ n) {x : Bool} {φ : ph_T} {this : Nat} {p0 : Int32} {p1 : Int32} {q : Int32 × ph_T} (H : f_Ref_isWriteRipe Γ φ this p0 p1 = some q) : jc w M_Ref_isWriteRipe [.ref this, .int p0, .int p1] (pic Γ φ) n x 0 0 (fq Γ n (.inl (some (.int q.1))) q.2) := by
  refine jc.of (by simp only [jent_r, jent_i, jent_l, jent_a, jent_0]; exact Nat.le_of_ble_eq_true rfl) ?_
  have hls : jents [.ref this, .int p0, .int p1] (jm_nL M_Ref_isWriteRipe) = [some (.ref this), some (.int p0), some (.int p1)] := by simp only [jents, jent_r, jent_i, jent_l, jent_a, jent_0]; rfl
  rw [hls]
  clear hls
  unfold f_Ref_isWriteRipe at H
  refine J_aload_n d_Ref_isWriteRipe_0 rfl ?_
  have g2 : Γ this = .inr 12 := by
    apply Classical.byContradiction
    intro q9
    rw [if_neg q9] at H
    cases H
  rw [if_pos g2] at H
  refine F_getR (ci := 12) (k := 63) hG (cf_Ref hw) (fl_Ref_169 hw) (by decide) (by decide) rfl d_Ref_isWriteRipe_1 g2 ?_
  refine J_iload_n d_Ref_isWriteRipe_4 rfl ?_
  obtain ⟨a3, ha3, H⟩ := Option.bind_eq_some_iff.mp H
  rw [j_rf ha3]
  obtain ⟨N4, hN4, H⟩ := Option.bind_eq_some_iff.mp H
  obtain ⟨k5, hk5, H⟩ := Option.bind_eq_some_iff.mp H
  refine F_iald k5 hw hG d_Ref_isWriteRipe_5 (gA_some hN4) (ix_some hk5) ?_
  refine J_iconst (v := -1) d_Ref_isWriteRipe_6 (by decide) ?_
  refine J_icmp_eq (tgt := 36) d_Ref_isWriteRipe_7 (by decide) ?_ ?_
  · intro c12
    rw [if_pos c12] at H
    refine J.drop [false, false, false] rfl ?_
    exact p_Ref_isWriteRipe_L36 hw hG  H
  · intro c12
    rw [if_neg c12] at H
    refine J_aload_n d_Ref_isWriteRipe_10 rfl ?_
    refine F_getI (ci := 12) (k := 6) hG (cf_Ref hw) (fl_Ref_348 hw) (by decide) (by decide) rfl d_Ref_isWriteRipe_11 g2 ?_
    refine J_aload_n d_Ref_isWriteRipe_14 rfl ?_
    refine F_getR (ci := 12) (k := 63) hG (cf_Ref hw) (fl_Ref_169 hw) (by decide) (by decide) rfl d_Ref_isWriteRipe_15 g2 ?_
    refine J_iload_n d_Ref_isWriteRipe_18 rfl ?_
    try rw [j_rf ha3]
    obtain ⟨N6, hN6, H⟩ := Option.bind_eq_some_iff.mp H
    obtain ⟨k7, hk7, H⟩ := Option.bind_eq_some_iff.mp H
    refine F_iald k7 hw hG d_Ref_isWriteRipe_19 (gA_some hN6) (ix_some hk7) ?_
    refine J_aload_n d_Ref_isWriteRipe_20 rfl ?_
    refine F_getR (ci := 12) (k := 11) hG (cf_Ref hw) (fl_Ref_23 hw) (by decide) (by decide) rfl d_Ref_isWriteRipe_21 g2 ?_
    refine J_iload_n d_Ref_isWriteRipe_24 rfl ?_
    obtain ⟨a8, ha8, H⟩ := Option.bind_eq_some_iff.mp H
    rw [j_rf ha8]
    obtain ⟨N9, hN9, H⟩ := Option.bind_eq_some_iff.mp H
    obtain ⟨k10, hk10, H⟩ := Option.bind_eq_some_iff.mp H
    refine F_iald k10 hw hG d_Ref_isWriteRipe_25 (gA_some hN9) (ix_some hk10) ?_
    refine J_iadd d_Ref_isWriteRipe_26 ?_
    refine J_iconst (v := 1) d_Ref_isWriteRipe_27 (by decide) ?_
    refine J_iadd d_Ref_isWriteRipe_28 ?_
    refine J_icmp_lt (tgt := 36) d_Ref_isWriteRipe_29 (by decide) ?_ ?_
    · intro c11
      rw [if_pos c11] at H
      refine J.drop [false, false, false] rfl ?_
      exact p_Ref_isWriteRipe_L36 hw hG  H
    · intro c11
      rw [if_neg c11] at H
      refine J_iconst (v := 1) d_Ref_isWriteRipe_32 (by decide) ?_
      refine J_goto (tgt := 37) d_Ref_isWriteRipe_33 (by decide) ?_
      refine J.drop [false, false, false] rfl ?_
      exact p_Ref_isWriteRipe_L37 hw hG  H
theorem ln_Ref_idOf : (parseMethodDescriptor y_Ref_idOf.desc).map (fun q => q.parameters.length) = some 1 := by decide +kernel
def f_Ref_idOf (Γ : gm_T) (φ : ph_T) (p0 : Int64) : Option (Int32 × ph_T) :=
  some ((Int64.toInt32 (p0 &&& (63 : Int64))), φ)
set_option maxRecDepth 100000 in
set_option maxHeartbeats 4000000 in
theorem p_Ref_idOf {w : jw_T} (hw : jok w) {Γ : gm_T} {n : Nat} (hG : gd w Γ n) {x : Bool} {φ : ph_T} {p0 : Int64} {q : Int32 × ph_T} (H : f_Ref_idOf Γ φ p0 = some q) : jc w M_Ref_idOf [.long p0] (pic Γ φ) n x 0 0 (fq Γ n (.inl (some (.int q.1))) q.2) := by
  refine jc.of (by simp only [jent_r, jent_i, jent_l, jent_a, jent_0]; exact Nat.le_of_ble_eq_true rfl) ?_
  have hls : jents [.long p0] (jm_nL M_Ref_idOf) = [some (.long p0), none] := by simp only [jents, jent_r, jent_i, jent_l, jent_a, jent_0]; rfl
  rw [hls]
  clear hls
  unfold f_Ref_idOf at H
  refine J_lload_n d_Ref_idOf_0 rfl ?_
  refine J_ldc2 (v := 63) d_Ref_idOf_1 (kn_Ref_306 hw) ?_
  refine J_land d_Ref_idOf_4 ?_
  refine J_l2i d_Ref_idOf_5 ?_
  have H := Option.some.inj H
  subst H
  exact J_iret (st := []) d_Ref_idOf_6 rfl rfl ⟨rfl, rfl, rfl⟩
theorem ln_Ref_isFirstWithId : (parseMethodDescriptor y_Ref_isFirstWithId.desc).map (fun q => q.parameters.length) = some 3 := by decide +kernel
def f_Ref_isFirstWithId_L115 (Γ : gm_T) (Kc6 : ph_T → Nat → Int32 → Int32 → Int32 → Int32 → Int32 → Option (Int32 × ph_T)) (φ : ph_T) (x0 : Nat) (x1 : Int32) (x2 : Int32) (x3 : Int32) (x5 : Int32) (y0 : Int32) : Option (Int32 × ph_T) :=
  Kc6 φ x0 x1 x2 x3 y0 (x5 + (1 : Int32))
set_option maxRecDepth 100000 in
set_option maxHeartbeats 4000000 in
theorem p_Ref_isFirstWithId_L115 {w : jw_T} (hw : jok w) {Γ : gm_T} {n : Nat} (hG : gd w Γ n) {Kc6 : ph_T → Nat → Int32 → Int32 → Int32 → Int32 → Int32 → Option (Int32 × ph_T)} (hKc6 : ∀ {x : Bool} {φ : ph_T} {x0 : Nat} {x1 : Int32} {x2 : Int32} {x3 : Int32} {x4 : Int32} {x5 : Int32} {q : Int32 × ph_T}, Kc6 φ x0 x1 x2 x3 x4 x5 = some q → J w M_Ref_isFirstWithId 6 [some (.ref x0), some (.int x1), some (.int x2), some (.int x3), some (.int x4), some (.int x5), none, none, none, none] [] (pic Γ φ) n x 0 0 (fq Γ n (.inl (some (.int q.1))) q.2)) {x : Bool} {φ : ph_T} {x0 : Nat} {x1 : Int32} {x2 : Int32} {x3 : Int32} {x5 : Int32} {y0 : Int32} {q : Int32 × ph_T} (H : f_Ref_isFirstWithId_L115 Γ Kc6 φ x0 x1 x2 x3 x5 y0 = some q) : J w M_Ref_isFirstWithId 115 [some (.ref x0), some (.int x1), some (.int x2), some (.int x3), none, some (.int x5), none, none, none, none] [.int y0] (pic Γ φ) n x 0 0 (fq Γ n (.inl (some (.int q.1))) q.2) := by
  unfold f_Ref_isFirstWithId_L115 at H
  refine J_istore d_Ref_isFirstWithId_115 (Nat.le_of_ble_eq_true rfl) ?_
  refine J.ls (ls' := [some (.ref x0), some (.int x1), some (.int x2), some (.int x3), some (.int y0), some (.int x5), none, none, none, none]) rfl ?_
  refine J_iinc (v := x5 + 1) d_Ref_isFirstWithId_117 rfl (by rw [show Int32.ofInt 1 = (1 : Int32) from by decide]) ?_
  refine J.ls (ls' := [some (.ref x0), some (.int x1), some (.int x2), some (.int x3), some (.int y0), some (.int (x5 + (1 : Int32))), none, none, none, none]) rfl ?_
  refine J_goto (tgt := 6) d_Ref_isFirstWithId_120 (by decide) ?_
  refine J.drop [true, true, true, true, true, true, false, false, false, false] rfl ?_
  exact hKc6 H
def f_Ref_isFirstWithId_L114 (Γ : gm_T) (Kc6 : ph_T → Nat → Int32 → Int32 → Int32 → Int32 → Int32 → Option (Int32 × ph_T)) (φ : ph_T) (x0 : Nat) (x1 : Int32) (x2 : Int32) (x3 : Int32) (x5 : Int32) : Option (Int32 × ph_T) :=
  f_Ref_isFirstWithId_L115 Γ Kc6 φ x0 x1 x2 x3 x5 (0 : Int32)
set_option maxRecDepth 100000 in
set_option maxHeartbeats 4000000 in
theorem p_Ref_isFirstWithId_L114 {w : jw_T} (hw : jok w) {Γ : gm_T} {n : Nat} (hG : gd w Γ n) {Kc6 : ph_T → Nat → Int32 → Int32 → Int32 → Int32 → Int32 → Option (Int32 × ph_T)} (hKc6 : ∀ {x : Bool} {φ : ph_T} {x0 : Nat} {x1 : Int32} {x2 : Int32} {x3 : Int32} {x4 : Int32} {x5 : Int32} {q : Int32 × ph_T}, Kc6 φ x0 x1 x2 x3 x4 x5 = some q → J w M_Ref_isFirstWithId 6 [some (.ref x0), some (.int x1), some (.int x2), some (.int x3), some (.int x4), some (.int x5), none, none, none, none] [] (pic Γ φ) n x 0 0 (fq Γ n (.inl (some (.int q.1))) q.2)) {x : Bool} {φ : ph_T} {x0 : Nat} {x1 : Int32} {x2 : Int32} {x3 : Int32} {x5 : Int32} {q : Int32 × ph_T} (H : f_Ref_isFirstWithId_L114 Γ Kc6 φ x0 x1 x2 x3 x5 = some q) : J w M_Ref_isFirstWithId 114 [some (.ref x0), some (.int x1), some (.int x2), some (.int x3), none, some (.int x5), none, none, none, none] [] (pic Γ φ) n x 0 0 (fq Γ n (.inl (some (.int q.1))) q.2) := by
  unfold f_Ref_isFirstWithId_L114 at H
  refine J_iconst (v := 0) d_Ref_isFirstWithId_114 (by decide) ?_
  refine J.drop [true, true, true, true, false, true, false, false, false, false] rfl ?_
  exact p_Ref_isFirstWithId_L115 hw hG hKc6 H
def f_Ref_isFirstWithId_L90 (Γ : gm_T) (Kc6 : ph_T → Nat → Int32 → Int32 → Int32 → Int32 → Int32 → Option (Int32 × ph_T)) (φ : ph_T) (x0 : Nat) (x1 : Int32) (x2 : Int32) (x3 : Int32) (x4 : Int32) (x5 : Int32) (x6 : Int64) (y0 : Int64) : Option (Int32 × ph_T) :=
  if x4 = 0 then
    f_Ref_isFirstWithId_L114 Γ Kc6 φ x0 x1 x2 x3 x5
  else
    Option.bind (f_Ref_idOf Γ φ x6) fun q1 =>
    Option.bind (f_Ref_idOf Γ q1.2 y0) fun q2 =>
    if q1.1 = q2.1 then
      f_Ref_isFirstWithId_L114 Γ Kc6 q2.2 x0 x1 x2 x3 x5
    else
      f_Ref_isFirstWithId_L115 Γ Kc6 q2.2 x0 x1 x2 x3 x5 (1 : Int32)
set_option maxRecDepth 100000 in
set_option maxHeartbeats 4000000 in
theorem p_Ref_isFirstWithId_L90 {w : jw_T} (hw : jok w) {Γ : gm_T} {n : Nat} (hG : gd w Γ n) {Kc6 : ph_T → Nat → Int32 → Int32 → Int32 → Int32 → Int32 → Option (Int32 × ph_T)} (hKc6 : ∀ {x : Bool} {φ : ph_T} {x0 : Nat} {x1 : Int32} {x2 : Int32} {x3 : Int32} {x4 : Int32} {x5 : Int32} {q : Int32 × ph_T}, Kc6 φ x0 x1 x2 x3 x4 x5 = some q → J w M_Ref_isFirstWithId 6 [some (.ref x0), some (.int x1), some (.int x2), some (.int x3), some (.int x4), some (.int x5), none, none, none, none] [] (pic Γ φ) n x 0 0 (fq Γ n (.inl (some (.int q.1))) q.2)) {x : Bool} {φ : ph_T} {x0 : Nat} {x1 : Int32} {x2 : Int32} {x3 : Int32} {x4 : Int32} {x5 : Int32} {x6 : Int64} {y0 : Int64} {q : Int32 × ph_T} (H : f_Ref_isFirstWithId_L90 Γ Kc6 φ x0 x1 x2 x3 x4 x5 x6 y0 = some q) : J w M_Ref_isFirstWithId 90 [some (.ref x0), some (.int x1), some (.int x2), some (.int x3), some (.int x4), some (.int x5), some (.long x6), none, none, none] [.long y0] (pic Γ φ) n x 0 0 (fq Γ n (.inl (some (.int q.1))) q.2) := by
  unfold f_Ref_isFirstWithId_L90 at H
  refine J_lstore d_Ref_isFirstWithId_90 (Nat.le_of_ble_eq_true rfl) ?_
  refine J.ls (ls' := [some (.ref x0), some (.int x1), some (.int x2), some (.int x3), some (.int x4), some (.int x5), some (.long x6), none, some (.long y0), none]) rfl ?_
  refine J_iload d_Ref_isFirstWithId_92 rfl ?_
  refine J_if_eq (tgt := 114) d_Ref_isFirstWithId_94 (by decide) ?_ ?_
  · intro c4
    rw [if_pos c4] at H
    refine J.drop [true, true, true, true, false, true, false, false, false, false] rfl ?_
    exact p_Ref_isFirstWithId_L114 hw hG hKc6 H
  · intro c4
    rw [if_neg c4] at H
    refine J_lload d_Ref_isFirstWithId_97 rfl ?_
    obtain ⟨q1, hq1, H⟩ := Option.bind_eq_some_iff.mp H
    refine J_callS (kc := 0) (ks := 0) (kc' := 0) (ks' := 0) (as := [.long x6]) (st := []) (mf_Ref_idOf hw) (ms_Ref_396 hw) d_Ref_isFirstWithId_99 ln_Ref_idOf (by decide) (by first | exact Nat.le_of_ble_eq_true rfl | (simp only [List.map_cons, List.map_nil, List.sum_cons, List.sum_nil, va_rf_cat]; exact Nat.le_of_ble_eq_true rfl)) rfl (p_Ref_idOf hw hG hq1) ?_ (fun E h' n' x' e1 => by cases e1.1)
    intro v9 h9 n9 x9 e9
    obtain ⟨e91, e92, e93⟩ := e9
    cases e91
    subst e92
    subst e93
    clear x
    rename Bool => x
    show J _ _ _ _ (_ :: _) _ _ _ _ _ _
    refine J_lload d_Ref_isFirstWithId_102 rfl ?_
    obtain ⟨q2, hq2, H⟩ := Option.bind_eq_some_iff.mp H
    refine J_callS (kc := 0) (ks := 0) (kc' := 0) (ks' := 0) (as := [.long y0]) (st := [.int q1.1]) (mf_Ref_idOf hw) (ms_Ref_396 hw) d_Ref_isFirstWithId_104 ln_Ref_idOf (by decide) (by first | exact Nat.le_of_ble_eq_true rfl | (simp only [List.map_cons, List.map_nil, List.sum_cons, List.sum_nil, va_rf_cat]; exact Nat.le_of_ble_eq_true rfl)) rfl (p_Ref_idOf hw hG hq2) ?_ (fun E h' n' x' e1 => by cases e1.1)
    intro v9 h9 n9 x9 e9
    obtain ⟨e91, e92, e93⟩ := e9
    cases e91
    subst e92
    subst e93
    clear x
    rename Bool => x
    show J _ _ _ _ (_ :: _) _ _ _ _ _ _
    refine J_icmp_eq (tgt := 114) d_Ref_isFirstWithId_107 (by decide) ?_ ?_
    · intro c3
      rw [if_pos c3] at H
      refine J.drop [true, true, true, true, false, true, false, false, false, false] rfl ?_
      exact p_Ref_isFirstWithId_L114 hw hG hKc6 H
    · intro c3
      rw [if_neg c3] at H
      refine J_iconst (v := 1) d_Ref_isFirstWithId_110 (by decide) ?_
      refine J_goto (tgt := 115) d_Ref_isFirstWithId_111 (by decide) ?_
      refine J.drop [true, true, true, true, false, true, false, false, false, false] rfl ?_
      exact p_Ref_isFirstWithId_L115 hw hG hKc6 H
def f_Ref_isFirstWithId_L51 (Γ : gm_T) (Kc6 : ph_T → Nat → Int32 → Int32 → Int32 → Int32 → Int32 → Option (Int32 × ph_T)) (φ : ph_T) (x0 : Nat) (x1 : Int32) (x2 : Int32) (x3 : Int32) (x4 : Int32) (x5 : Int32) (y0 : Int64) : Option (Int32 × ph_T) :=
  if x3 = 0 then
    @ite _ (Γ x0 = .inr 12) _ (
    Option.bind (φ.2.2 x0 68) fun a6 =>
    Option.bind (gA Γ a6 0) fun N7 =>
    Option.bind (ix (((4 : Int32) * x1) + x2) N7) fun k8 =>
    Option.bind (φ.2.2 x0 70) fun a9 =>
    Option.bind (gA Γ a9 1) fun N10 =>
    Option.bind (ix (φ.1 a6 k8) N10) fun k11 =>
    f_Ref_isFirstWithId_L90 Γ Kc6 φ x0 x1 x2 x3 x4 x5 y0 (φ.2.1 a9 k11)
    ) none
  else
    @ite _ (Γ x0 = .inr 12) _ (
    Option.bind (φ.2.2 x0 59) fun a13 =>
    Option.bind (gA Γ a13 0) fun N14 =>
    Option.bind (ix (((4 : Int32) * x1) + x2) N14) fun k15 =>
    Option.bind (φ.2.2 x0 61) fun a16 =>
    Option.bind (gA Γ a16 1) fun N17 =>
    Option.bind (ix (φ.1 a13 k15) N17) fun k18 =>
    f_Ref_isFirstWithId_L90 Γ Kc6 φ x0 x1 x2 x3 x4 x5 y0 (φ.2.1 a16 k18)
    ) none
set_option maxRecDepth 100000 in
set_option maxHeartbeats 4000000 in
theorem p_Ref_isFirstWithId_L51 {w : jw_T} (hw : jok w) {Γ : gm_T} {n : Nat} (hG : gd w Γ n) {Kc6 : ph_T → Nat → Int32 → Int32 → Int32 → Int32 → Int32 → Option (Int32 × ph_T)} (hKc6 : ∀ {x : Bool} {φ : ph_T} {x0 : Nat} {x1 : Int32} {x2 : Int32} {x3 : Int32} {x4 : Int32} {x5 : Int32} {q : Int32 × ph_T}, Kc6 φ x0 x1 x2 x3 x4 x5 = some q → J w M_Ref_isFirstWithId 6 [some (.ref x0), some (.int x1), some (.int x2), some (.int x3), some (.int x4), some (.int x5), none, none, none, none] [] (pic Γ φ) n x 0 0 (fq Γ n (.inl (some (.int q.1))) q.2)) {x : Bool} {φ : ph_T} {x0 : Nat} {x1 : Int32} {x2 : Int32} {x3 : Int32} {x4 : Int32} {x5 : Int32} {y0 : Int64} {q : Int32 × ph_T} (H : f_Ref_isFirstWithId_L51 Γ Kc6 φ x0 x1 x2 x3 x4 x5 y0 = some q) : J w M_Ref_isFirstWithId 51 [some (.ref x0), some (.int x1), some (.int x2), some (.int x3), some (.int x4), some (.int x5), none, none, none, none] [.long y0] (pic Γ φ) n x 0 0 (fq Γ n (.inl (some (.int q.1))) q.2) := by
  unfold f_Ref_isFirstWithId_L51 at H
  refine J_lstore d_Ref_isFirstWithId_51 (Nat.le_of_ble_eq_true rfl) ?_
  refine J.ls (ls' := [some (.ref x0), some (.int x1), some (.int x2), some (.int x3), some (.int x4), some (.int x5), some (.long y0), none, none, none]) rfl ?_
  refine J_iload_n d_Ref_isFirstWithId_53 rfl ?_
  refine J_if_eq (tgt := 75) d_Ref_isFirstWithId_54 (by decide) ?_ ?_
  · intro c19
    rw [if_pos c19] at H
    refine J_aload_n d_Ref_isFirstWithId_75 rfl ?_
    have g5 : Γ x0 = .inr 12 := by
      apply Classical.byContradiction
      intro q9
      rw [if_neg q9] at H
      cases H
    rw [if_pos g5] at H
    refine F_getR (ci := 12) (k := 70) hG (cf_Ref hw) (fl_Ref_190 hw) (by decide) (by decide) rfl d_Ref_isFirstWithId_76 g5 ?_
    refine J_aload_n d_Ref_isFirstWithId_79 rfl ?_
    refine F_getR (ci := 12) (k := 68) hG (cf_Ref hw) (fl_Ref_184 hw) (by decide) (by decide) rfl d_Ref_isFirstWithId_80 g5 ?_
    refine J_iconst (v := 4) d_Ref_isFirstWithId_83 (by decide) ?_
    refine J_iload_n d_Ref_isFirstWithId_84 rfl ?_
    refine J_imul d_Ref_isFirstWithId_85 ?_
    refine J_iload_n d_Ref_isFirstWithId_86 rfl ?_
    refine J_iadd d_Ref_isFirstWithId_87 ?_
    obtain ⟨a6, ha6, H⟩ := Option.bind_eq_some_iff.mp H
    rw [j_rf ha6]
    obtain ⟨N7, hN7, H⟩ := Option.bind_eq_some_iff.mp H
    obtain ⟨k8, hk8, H⟩ := Option.bind_eq_some_iff.mp H
    refine F_iald k8 hw hG d_Ref_isFirstWithId_88 (gA_some hN7) (ix_some hk8) ?_
    obtain ⟨a9, ha9, H⟩ := Option.bind_eq_some_iff.mp H
    rw [j_rf ha9]
    obtain ⟨N10, hN10, H⟩ := Option.bind_eq_some_iff.mp H
    obtain ⟨k11, hk11, H⟩ := Option.bind_eq_some_iff.mp H
    refine F_lald k11 hw hG d_Ref_isFirstWithId_89 (gA_some hN10) (ix_some hk11) ?_
    refine J.drop [true, true, true, true, true, true, true, false, false, false] rfl ?_
    exact p_Ref_isFirstWithId_L90 hw hG hKc6 H
  · intro c19
    rw [if_neg c19] at H
    refine J_aload_n d_Ref_isFirstWithId_57 rfl ?_
    have g12 : Γ x0 = .inr 12 := by
      apply Classical.byContradiction
      intro q9
      rw [if_neg q9] at H
      cases H
    rw [if_pos g12] at H
    refine F_getR (ci := 12) (k := 61) hG (cf_Ref hw) (fl_Ref_163 hw) (by decide) (by decide) rfl d_Ref_isFirstWithId_58 g12 ?_
    refine J_aload_n d_Ref_isFirstWithId_61 rfl ?_
    refine F_getR (ci := 12) (k := 59) hG (cf_Ref hw) (fl_Ref_157 hw) (by decide) (by decide) rfl d_Ref_isFirstWithId_62 g12 ?_
    refine J_iconst (v := 4) d_Ref_isFirstWithId_65 (by decide) ?_
    refine J_iload_n d_Ref_isFirstWithId_66 rfl ?_
    refine J_imul d_Ref_isFirstWithId_67 ?_
    refine J_iload_n d_Ref_isFirstWithId_68 rfl ?_
    refine J_iadd d_Ref_isFirstWithId_69 ?_
    obtain ⟨a13, ha13, H⟩ := Option.bind_eq_some_iff.mp H
    rw [j_rf ha13]
    obtain ⟨N14, hN14, H⟩ := Option.bind_eq_some_iff.mp H
    obtain ⟨k15, hk15, H⟩ := Option.bind_eq_some_iff.mp H
    refine F_iald k15 hw hG d_Ref_isFirstWithId_70 (gA_some hN14) (ix_some hk15) ?_
    obtain ⟨a16, ha16, H⟩ := Option.bind_eq_some_iff.mp H
    rw [j_rf ha16]
    obtain ⟨N17, hN17, H⟩ := Option.bind_eq_some_iff.mp H
    obtain ⟨k18, hk18, H⟩ := Option.bind_eq_some_iff.mp H
    refine F_lald k18 hw hG d_Ref_isFirstWithId_71 (gA_some hN17) (ix_some hk18) ?_
    refine J_goto (tgt := 90) d_Ref_isFirstWithId_72 (by decide) ?_
    refine J.drop [true, true, true, true, true, true, true, false, false, false] rfl ?_
    exact p_Ref_isFirstWithId_L90 hw hG hKc6 H
def f_Ref_isFirstWithId_L6 (Γ : gm_T)  : Nat → ph_T → Nat → Int32 → Int32 → Int32 → Int32 → Int32 → Option (Int32 × ph_T)
  | 0, _, _, _, _, _, _, _ => none
  | fu + 1, φ, x0, x1, x2, x3, x4, x5 =>
    if x2 ≤ x5 then
      @ite _ (x4 = 0 ∨ x4 = 1) _ (
      some (x4, φ)
      ) none
    else
      if x3 = 0 then
        @ite _ (Γ x0 = .inr 12) _ (
        Option.bind (φ.2.2 x0 68) fun a22 =>
        Option.bind (gA Γ a22 0) fun N23 =>
        Option.bind (ix (((4 : Int32) * x1) + x5) N23) fun k24 =>
        Option.bind (φ.2.2 x0 70) fun a25 =>
        Option.bind (gA Γ a25 1) fun N26 =>
        Option.bind (ix (φ.1 a22 k24) N26) fun k27 =>
        f_Ref_isFirstWithId_L51 Γ (f_Ref_isFirstWithId_L6 Γ  fu) φ x0 x1 x2 x3 x4 x5 (φ.2.1 a25 k27)
        ) none
      else
        @ite _ (Γ x0 = .inr 12) _ (
        Option.bind (φ.2.2 x0 59) fun a29 =>
        Option.bind (gA Γ a29 0) fun N30 =>
        Option.bind (ix (((4 : Int32) * x1) + x5) N30) fun k31 =>
        Option.bind (φ.2.2 x0 61) fun a32 =>
        Option.bind (gA Γ a32 1) fun N33 =>
        Option.bind (ix (φ.1 a29 k31) N33) fun k34 =>
        f_Ref_isFirstWithId_L51 Γ (f_Ref_isFirstWithId_L6 Γ  fu) φ x0 x1 x2 x3 x4 x5 (φ.2.1 a32 k34)
        ) none
set_option maxRecDepth 100000 in
set_option maxHeartbeats 4000000 in
theorem p_Ref_isFirstWithId_L6 {w : jw_T} (hw : jok w) {Γ : gm_T} {n : Nat} (hG : gd w Γ n)  : ∀ (fu : Nat) {x : Bool} {φ : ph_T} {x0 : Nat} {x1 : Int32} {x2 : Int32} {x3 : Int32} {x4 : Int32} {x5 : Int32} {q : Int32 × ph_T}, f_Ref_isFirstWithId_L6 Γ  fu φ x0 x1 x2 x3 x4 x5 = some q → J w M_Ref_isFirstWithId 6 [some (.ref x0), some (.int x1), some (.int x2), some (.int x3), some (.int x4), some (.int x5), none, none, none, none] [] (pic Γ φ) n x 0 0 (fq Γ n (.inl (some (.int q.1))) q.2) := by
  intro fu
  induction fu with
  | zero =>
    intro x φ x0 x1 x2 x3 x4 x5 q H
    cases H
  | succ fu ih =>
    intro x φ x0 x1 x2 x3 x4 x5 q H
    unfold f_Ref_isFirstWithId_L6 at H
    refine J_iload d_Ref_isFirstWithId_6 rfl ?_
    refine J_iload_n d_Ref_isFirstWithId_8 rfl ?_
    refine J_icmp_ge (tgt := 123) d_Ref_isFirstWithId_9 (by decide) ?_ ?_
    · intro c36
      rw [if_pos c36] at H
      refine J_iload d_Ref_isFirstWithId_123 rfl ?_
      have z20 : x4 = 0 ∨ x4 = 1 := by
        apply Classical.byContradiction
        intro q9
        rw [if_neg q9] at H
        cases H
      rw [if_pos z20] at H
      have H := Option.some.inj H
      subst H
      exact J_iret (st := []) d_Ref_isFirstWithId_125 rfl (narrow_z z20).1 ⟨rfl, rfl, rfl⟩
    · intro c36
      rw [if_neg c36] at H
      refine J_iload_n d_Ref_isFirstWithId_12 rfl ?_
      refine J_if_eq (tgt := 35) d_Ref_isFirstWithId_13 (by decide) ?_ ?_
      · intro c35
        rw [if_pos c35] at H
        refine J_aload_n d_Ref_isFirstWithId_35 rfl ?_
        have g21 : Γ x0 = .inr 12 := by
          apply Classical.byContradiction
          intro q9
          rw [if_neg q9] at H
          cases H
        rw [if_pos g21] at H
        refine F_getR (ci := 12) (k := 70) hG (cf_Ref hw) (fl_Ref_190 hw) (by decide) (by decide) rfl d_Ref_isFirstWithId_36 g21 ?_
        refine J_aload_n d_Ref_isFirstWithId_39 rfl ?_
        refine F_getR (ci := 12) (k := 68) hG (cf_Ref hw) (fl_Ref_184 hw) (by decide) (by decide) rfl d_Ref_isFirstWithId_40 g21 ?_
        refine J_iconst (v := 4) d_Ref_isFirstWithId_43 (by decide) ?_
        refine J_iload_n d_Ref_isFirstWithId_44 rfl ?_
        refine J_imul d_Ref_isFirstWithId_45 ?_
        refine J_iload d_Ref_isFirstWithId_46 rfl ?_
        refine J_iadd d_Ref_isFirstWithId_48 ?_
        obtain ⟨a22, ha22, H⟩ := Option.bind_eq_some_iff.mp H
        rw [j_rf ha22]
        obtain ⟨N23, hN23, H⟩ := Option.bind_eq_some_iff.mp H
        obtain ⟨k24, hk24, H⟩ := Option.bind_eq_some_iff.mp H
        refine F_iald k24 hw hG d_Ref_isFirstWithId_49 (gA_some hN23) (ix_some hk24) ?_
        obtain ⟨a25, ha25, H⟩ := Option.bind_eq_some_iff.mp H
        rw [j_rf ha25]
        obtain ⟨N26, hN26, H⟩ := Option.bind_eq_some_iff.mp H
        obtain ⟨k27, hk27, H⟩ := Option.bind_eq_some_iff.mp H
        refine F_lald k27 hw hG d_Ref_isFirstWithId_50 (gA_some hN26) (ix_some hk27) ?_
        refine J.drop [true, true, true, true, true, true, false, false, false, false] rfl ?_
        exact p_Ref_isFirstWithId_L51 hw hG ih H
      · intro c35
        rw [if_neg c35] at H
        refine J_aload_n d_Ref_isFirstWithId_16 rfl ?_
        have g28 : Γ x0 = .inr 12 := by
          apply Classical.byContradiction
          intro q9
          rw [if_neg q9] at H
          cases H
        rw [if_pos g28] at H
        refine F_getR (ci := 12) (k := 61) hG (cf_Ref hw) (fl_Ref_163 hw) (by decide) (by decide) rfl d_Ref_isFirstWithId_17 g28 ?_
        refine J_aload_n d_Ref_isFirstWithId_20 rfl ?_
        refine F_getR (ci := 12) (k := 59) hG (cf_Ref hw) (fl_Ref_157 hw) (by decide) (by decide) rfl d_Ref_isFirstWithId_21 g28 ?_
        refine J_iconst (v := 4) d_Ref_isFirstWithId_24 (by decide) ?_
        refine J_iload_n d_Ref_isFirstWithId_25 rfl ?_
        refine J_imul d_Ref_isFirstWithId_26 ?_
        refine J_iload d_Ref_isFirstWithId_27 rfl ?_
        refine J_iadd d_Ref_isFirstWithId_29 ?_
        obtain ⟨a29, ha29, H⟩ := Option.bind_eq_some_iff.mp H
        rw [j_rf ha29]
        obtain ⟨N30, hN30, H⟩ := Option.bind_eq_some_iff.mp H
        obtain ⟨k31, hk31, H⟩ := Option.bind_eq_some_iff.mp H
        refine F_iald k31 hw hG d_Ref_isFirstWithId_30 (gA_some hN30) (ix_some hk31) ?_
        obtain ⟨a32, ha32, H⟩ := Option.bind_eq_some_iff.mp H
        rw [j_rf ha32]
        obtain ⟨N33, hN33, H⟩ := Option.bind_eq_some_iff.mp H
        obtain ⟨k34, hk34, H⟩ := Option.bind_eq_some_iff.mp H
        refine F_lald k34 hw hG d_Ref_isFirstWithId_31 (gA_some hN33) (ix_some hk34) ?_
        refine J_goto (tgt := 51) d_Ref_isFirstWithId_32 (by decide) ?_
        refine J.drop [true, true, true, true, true, true, false, false, false, false] rfl ?_
        exact p_Ref_isFirstWithId_L51 hw hG ih H
def f_Ref_isFirstWithId (Γ : gm_T) (φ : ph_T) (this : Nat) (p0 : Int32) (p1 : Int32) (p2 : Int32) : Option (Int32 × ph_T) :=
  f_Ref_isFirstWithId_L6 Γ  jF φ this p0 p1 p2 (1 : Int32) (0 : Int32)
set_option maxRecDepth 100000 in
set_option maxHeartbeats 4000000 in
theorem p_Ref_isFirstWithId {w : jw_T} (hw : jok w) {Γ : gm_T} {n : Nat} (hG : gd w Γ n) {x : Bool} {φ : ph_T} {this : Nat} {p0 : Int32} {p1 : Int32} {p2 : Int32} {q : Int32 × ph_T} (H : f_Ref_isFirstWithId Γ φ this p0 p1 p2 = some q) : jc w M_Ref_isFirstWithId [.ref this, .int p0, .int p1, .int p2] (pic Γ φ) n x 0 0 (fq Γ n (.inl (some (.int q.1))) q.2) := by
  refine jc.of (by simp only [jent_r, jent_i, jent_l, jent_a, jent_0]; exact Nat.le_of_ble_eq_true rfl) ?_
  have hls : jents [.ref this, .int p0, .int p1, .int p2] (jm_nL M_Ref_isFirstWithId) = [some (.ref this), some (.int p0), some (.int p1), some (.int p2), none, none, none, none, none, none] := by simp only [jents, jent_r, jent_i, jent_l, jent_a, jent_0]; rfl
  rw [hls]
  clear hls
  unfold f_Ref_isFirstWithId at H
  refine J_iconst (v := 1) d_Ref_isFirstWithId_0 (by decide) ?_
  refine J_istore d_Ref_isFirstWithId_1 (Nat.le_of_ble_eq_true rfl) ?_
  refine J.ls (ls' := [some (.ref this), some (.int p0), some (.int p1), some (.int p2), some (.int (1 : Int32)), none, none, none, none, none]) rfl ?_
  refine J_iconst (v := 0) d_Ref_isFirstWithId_3 (by decide) ?_
  refine J_istore d_Ref_isFirstWithId_4 (Nat.le_of_ble_eq_true rfl) ?_
  refine J.ls (ls' := [some (.ref this), some (.int p0), some (.int p1), some (.int p2), some (.int (1 : Int32)), some (.int (0 : Int32)), none, none, none, none]) rfl ?_
  refine J.drop [true, true, true, true, true, true, false, false, false, false] rfl ?_
  exact p_Ref_isFirstWithId_L6 hw hG  _ H
theorem ln_Ref_chooseWrite : (parseMethodDescriptor y_Ref_chooseWrite.desc).map (fun q => q.parameters.length) = some 1 := by decide +kernel
def f_Ref_chooseWrite_L80 (Γ : gm_T) (Kc4 : ph_T → Nat → Int32 → Int32 → Int32 → Option (Int32 × ph_T)) (φ : ph_T) (x0 : Nat) (x1 : Int32) (x3 : Int32) (y0 : Int32) : Option (Int32 × ph_T) :=
  Kc4 φ x0 x1 y0 (x3 + (1 : Int32))
set_option maxRecDepth 100000 in
set_option maxHeartbeats 4000000 in
theorem p_Ref_chooseWrite_L80 {w : jw_T} (hw : jok w) {Γ : gm_T} {n : Nat} (hG : gd w Γ n) {Kc4 : ph_T → Nat → Int32 → Int32 → Int32 → Option (Int32 × ph_T)} (hKc4 : ∀ {x : Bool} {φ : ph_T} {x0 : Nat} {x1 : Int32} {x2 : Int32} {x3 : Int32} {q : Int32 × ph_T}, Kc4 φ x0 x1 x2 x3 = some q → J w M_Ref_chooseWrite 4 [some (.ref x0), some (.int x1), some (.int x2), some (.int x3), none, none] [] (pic Γ φ) n x 0 0 (fq Γ n (.inl (some (.int q.1))) q.2)) {x : Bool} {φ : ph_T} {x0 : Nat} {x1 : Int32} {x3 : Int32} {y0 : Int32} {q : Int32 × ph_T} (H : f_Ref_chooseWrite_L80 Γ Kc4 φ x0 x1 x3 y0 = some q) : J w M_Ref_chooseWrite 80 [some (.ref x0), some (.int x1), none, some (.int x3), none, none] [.int y0] (pic Γ φ) n x 0 0 (fq Γ n (.inl (some (.int q.1))) q.2) := by
  unfold f_Ref_chooseWrite_L80 at H
  refine J_istore_n d_Ref_chooseWrite_80 (Nat.le_of_ble_eq_true rfl) ?_
  refine J.ls (ls' := [some (.ref x0), some (.int x1), some (.int y0), some (.int x3), none, none]) rfl ?_
  refine J_iinc (v := x3 + 1) d_Ref_chooseWrite_81 rfl (by rw [show Int32.ofInt 1 = (1 : Int32) from by decide]) ?_
  refine J.ls (ls' := [some (.ref x0), some (.int x1), some (.int y0), some (.int (x3 + (1 : Int32))), none, none]) rfl ?_
  refine J_goto (tgt := 4) d_Ref_chooseWrite_84 (by decide) ?_
  refine J.drop [true, true, true, true, false, false] rfl ?_
  exact hKc4 H
def f_Ref_chooseWrite_L67 (Γ : gm_T) (Kc4 : ph_T → Nat → Int32 → Int32 → Int32 → Option (Int32 × ph_T)) (φ : ph_T) (x0 : Nat) (x1 : Int32) (x2 : Int32) (x3 : Int32) (x4 : Int32) (y0 : Int32) : Option (Int32 × ph_T) :=
  if y0 = 0 then
    f_Ref_chooseWrite_L80 Γ Kc4 φ x0 x1 x3 x2
  else
    f_Ref_chooseWrite_L80 Γ Kc4 φ x0 x1 x3 x4
set_option maxRecDepth 100000 in
set_option maxHeartbeats 4000000 in
theorem p_Ref_chooseWrite_L67 {w : jw_T} (hw : jok w) {Γ : gm_T} {n : Nat} (hG : gd w Γ n) {Kc4 : ph_T → Nat → Int32 → Int32 → Int32 → Option (Int32 × ph_T)} (hKc4 : ∀ {x : Bool} {φ : ph_T} {x0 : Nat} {x1 : Int32} {x2 : Int32} {x3 : Int32} {q : Int32 × ph_T}, Kc4 φ x0 x1 x2 x3 = some q → J w M_Ref_chooseWrite 4 [some (.ref x0), some (.int x1), some (.int x2), some (.int x3), none, none] [] (pic Γ φ) n x 0 0 (fq Γ n (.inl (some (.int q.1))) q.2)) {x : Bool} {φ : ph_T} {x0 : Nat} {x1 : Int32} {x2 : Int32} {x3 : Int32} {x4 : Int32} {y0 : Int32} {q : Int32 × ph_T} (H : f_Ref_chooseWrite_L67 Γ Kc4 φ x0 x1 x2 x3 x4 y0 = some q) : J w M_Ref_chooseWrite 67 [some (.ref x0), some (.int x1), some (.int x2), some (.int x3), some (.int x4), none] [.int y0] (pic Γ φ) n x 0 0 (fq Γ n (.inl (some (.int q.1))) q.2) := by
  unfold f_Ref_chooseWrite_L67 at H
  refine J_istore d_Ref_chooseWrite_67 (Nat.le_of_ble_eq_true rfl) ?_
  refine J.ls (ls' := [some (.ref x0), some (.int x1), some (.int x2), some (.int x3), some (.int x4), some (.int y0)]) rfl ?_
  refine J_iload d_Ref_chooseWrite_69 rfl ?_
  refine J_if_eq (tgt := 79) d_Ref_chooseWrite_71 (by decide) ?_ ?_
  · intro c1
    rw [if_pos c1] at H
    refine J_iload_n d_Ref_chooseWrite_79 rfl ?_
    refine J.drop [true, true, false, true, false, false] rfl ?_
    exact p_Ref_chooseWrite_L80 hw hG hKc4 H
  · intro c1
    rw [if_neg c1] at H
    refine J_iload d_Ref_chooseWrite_74 rfl ?_
    refine J_goto (tgt := 80) d_Ref_chooseWrite_76 (by decide) ?_
    refine J.drop [true, true, false, true, false, false] rfl ?_
    exact p_Ref_chooseWrite_L80 hw hG hKc4 H
def f_Ref_chooseWrite_L66 (Γ : gm_T) (Kc4 : ph_T → Nat → Int32 → Int32 → Int32 → Option (Int32 × ph_T)) (φ : ph_T) (x0 : Nat) (x1 : Int32) (x2 : Int32) (x3 : Int32) (x4 : Int32) : Option (Int32 × ph_T) :=
  f_Ref_chooseWrite_L67 Γ Kc4 φ x0 x1 x2 x3 x4 (0 : Int32)
set_option maxRecDepth 100000 in
set_option maxHeartbeats 4000000 in
theorem p_Ref_chooseWrite_L66 {w : jw_T} (hw : jok w) {Γ : gm_T} {n : Nat} (hG : gd w Γ n) {Kc4 : ph_T → Nat → Int32 → Int32 → Int32 → Option (Int32 × ph_T)} (hKc4 : ∀ {x : Bool} {φ : ph_T} {x0 : Nat} {x1 : Int32} {x2 : Int32} {x3 : Int32} {q : Int32 × ph_T}, Kc4 φ x0 x1 x2 x3 = some q → J w M_Ref_chooseWrite 4 [some (.ref x0), some (.int x1), some (.int x2), some (.int x3), none, none] [] (pic Γ φ) n x 0 0 (fq Γ n (.inl (some (.int q.1))) q.2)) {x : Bool} {φ : ph_T} {x0 : Nat} {x1 : Int32} {x2 : Int32} {x3 : Int32} {x4 : Int32} {q : Int32 × ph_T} (H : f_Ref_chooseWrite_L66 Γ Kc4 φ x0 x1 x2 x3 x4 = some q) : J w M_Ref_chooseWrite 66 [some (.ref x0), some (.int x1), some (.int x2), some (.int x3), some (.int x4), none] [] (pic Γ φ) n x 0 0 (fq Γ n (.inl (some (.int q.1))) q.2) := by
  unfold f_Ref_chooseWrite_L66 at H
  refine J_iconst (v := 0) d_Ref_chooseWrite_66 (by decide) ?_
  refine J.drop [true, true, true, true, true, false] rfl ?_
  exact p_Ref_chooseWrite_L67 hw hG hKc4 H
def f_Ref_chooseWrite_L62 (Γ : gm_T) (Kc4 : ph_T → Nat → Int32 → Int32 → Int32 → Option (Int32 × ph_T)) (φ : ph_T) (x0 : Nat) (x1 : Int32) (x2 : Int32) (x3 : Int32) (x4 : Int32) : Option (Int32 × ph_T) :=
  f_Ref_chooseWrite_L67 Γ Kc4 φ x0 x1 x2 x3 x4 (1 : Int32)
set_option maxRecDepth 100000 in
set_option maxHeartbeats 4000000 in
theorem p_Ref_chooseWrite_L62 {w : jw_T} (hw : jok w) {Γ : gm_T} {n : Nat} (hG : gd w Γ n) {Kc4 : ph_T → Nat → Int32 → Int32 → Int32 → Option (Int32 × ph_T)} (hKc4 : ∀ {x : Bool} {φ : ph_T} {x0 : Nat} {x1 : Int32} {x2 : Int32} {x3 : Int32} {q : Int32 × ph_T}, Kc4 φ x0 x1 x2 x3 = some q → J w M_Ref_chooseWrite 4 [some (.ref x0), some (.int x1), some (.int x2), some (.int x3), none, none] [] (pic Γ φ) n x 0 0 (fq Γ n (.inl (some (.int q.1))) q.2)) {x : Bool} {φ : ph_T} {x0 : Nat} {x1 : Int32} {x2 : Int32} {x3 : Int32} {x4 : Int32} {q : Int32 × ph_T} (H : f_Ref_chooseWrite_L62 Γ Kc4 φ x0 x1 x2 x3 x4 = some q) : J w M_Ref_chooseWrite 62 [some (.ref x0), some (.int x1), some (.int x2), some (.int x3), some (.int x4), none] [] (pic Γ φ) n x 0 0 (fq Γ n (.inl (some (.int q.1))) q.2) := by
  unfold f_Ref_chooseWrite_L62 at H
  refine J_iconst (v := 1) d_Ref_chooseWrite_62 (by decide) ?_
  refine J_goto (tgt := 67) d_Ref_chooseWrite_63 (by decide) ?_
  refine J.drop [true, true, true, true, true, false] rfl ?_
  exact p_Ref_chooseWrite_L67 hw hG hKc4 H
def f_Ref_chooseWrite_L4 (Γ : gm_T)  : Nat → ph_T → Nat → Int32 → Int32 → Int32 → Option (Int32 × ph_T)
  | 0, _, _, _, _, _ => none
  | fu + 1, φ, x0, x1, x2, x3 =>
    @ite _ (Γ x0 = .inr 12) _ (
    Option.bind (φ.2.2 x0 58) fun a3 =>
    Option.bind (gA Γ a3 0) fun N4 =>
    Option.bind (ix x1 N4) fun k5 =>
    if (φ.1 a3 k5) ≤ x3 then
      some (x2, φ)
    else
      Option.bind (φ.2.2 x0 59) fun a6 =>
      Option.bind (gA Γ a6 0) fun N7 =>
      Option.bind (ix (((4 : Int32) * x1) + x3) N7) fun k8 =>
      Option.bind (f_Ref_isWriteRipe Γ φ x0 (φ.1 a6 k8) x1) fun q9 =>
      if q9.1 = 0 then
        f_Ref_chooseWrite_L66 Γ (f_Ref_chooseWrite_L4 Γ  fu) q9.2 x0 x1 x2 x3 (φ.1 a6 k8)
      else
        Option.bind (q9.2.2.2 x0 12) fun a10 =>
        Option.bind (gA Γ a10 0) fun N11 =>
        Option.bind (ix x1 N11) fun k12 =>
        if (q9.2.1 a10 k12) = 0 then
          if x3 = 0 then
            f_Ref_chooseWrite_L62 Γ (f_Ref_chooseWrite_L4 Γ  fu) q9.2 x0 x1 x2 x3 (φ.1 a6 k8)
          else
            f_Ref_chooseWrite_L66 Γ (f_Ref_chooseWrite_L4 Γ  fu) q9.2 x0 x1 x2 x3 (φ.1 a6 k8)
        else
          Option.bind (f_Ref_isFirstWithId Γ q9.2 x0 x1 x3 (1 : Int32)) fun q13 =>
          if q13.1 = 0 then
            f_Ref_chooseWrite_L66 Γ (f_Ref_chooseWrite_L4 Γ  fu) q13.2 x0 x1 x2 x3 (φ.1 a6 k8)
          else
            f_Ref_chooseWrite_L62 Γ (f_Ref_chooseWrite_L4 Γ  fu) q13.2 x0 x1 x2 x3 (φ.1 a6 k8)
    ) none
set_option maxRecDepth 100000 in
set_option maxHeartbeats 4000000 in
theorem p_Ref_chooseWrite_L4 {w : jw_T} (hw : jok w) {Γ : gm_T} {n : Nat} (hG : gd w Γ n)  : ∀ (fu : Nat) {x : Bool} {φ : ph_T} {x0 : Nat} {x1 : Int32} {x2 : Int32} {x3 : Int32} {q : Int32 × ph_T}, f_Ref_chooseWrite_L4 Γ  fu φ x0 x1 x2 x3 = some q → J w M_Ref_chooseWrite 4 [some (.ref x0), some (.int x1), some (.int x2), some (.int x3), none, none] [] (pic Γ φ) n x 0 0 (fq Γ n (.inl (some (.int q.1))) q.2) := by
  intro fu
  induction fu with
  | zero =>
    intro x φ x0 x1 x2 x3 q H
    cases H
  | succ fu ih =>
    intro x φ x0 x1 x2 x3 q H
    unfold f_Ref_chooseWrite_L4 at H
    refine J_iload_n d_Ref_chooseWrite_4 rfl ?_
    refine J_aload_n d_Ref_chooseWrite_5 rfl ?_
    have g2 : Γ x0 = .inr 12 := by
      apply Classical.byContradiction
      intro q9
      rw [if_neg q9] at H
      cases H
    rw [if_pos g2] at H
    refine F_getR (ci := 12) (k := 58) hG (cf_Ref hw) (fl_Ref_154 hw) (by decide) (by decide) rfl d_Ref_chooseWrite_6 g2 ?_
    refine J_iload_n d_Ref_chooseWrite_9 rfl ?_
    obtain ⟨a3, ha3, H⟩ := Option.bind_eq_some_iff.mp H
    rw [j_rf ha3]
    obtain ⟨N4, hN4, H⟩ := Option.bind_eq_some_iff.mp H
    obtain ⟨k5, hk5, H⟩ := Option.bind_eq_some_iff.mp H
    refine F_iald k5 hw hG d_Ref_chooseWrite_10 (gA_some hN4) (ix_some hk5) ?_
    refine J_icmp_ge (tgt := 87) d_Ref_chooseWrite_11 (by decide) ?_ ?_
    · intro c18
      rw [if_pos c18] at H
      refine J_iload_n d_Ref_chooseWrite_87 rfl ?_
      have H := Option.some.inj H
      subst H
      exact J_iret (st := []) d_Ref_chooseWrite_88 rfl rfl ⟨rfl, rfl, rfl⟩
    · intro c18
      rw [if_neg c18] at H
      refine J_aload_n d_Ref_chooseWrite_14 rfl ?_
      refine F_getR (ci := 12) (k := 59) hG (cf_Ref hw) (fl_Ref_157 hw) (by decide) (by decide) rfl d_Ref_chooseWrite_15 g2 ?_
      refine J_iconst (v := 4) d_Ref_chooseWrite_18 (by decide) ?_
      refine J_iload_n d_Ref_chooseWrite_19 rfl ?_
      refine J_imul d_Ref_chooseWrite_20 ?_
      refine J_iload_n d_Ref_chooseWrite_21 rfl ?_
      refine J_iadd d_Ref_chooseWrite_22 ?_
      obtain ⟨a6, ha6, H⟩ := Option.bind_eq_some_iff.mp H
      rw [j_rf ha6]
      obtain ⟨N7, hN7, H⟩ := Option.bind_eq_some_iff.mp H
      obtain ⟨k8, hk8, H⟩ := Option.bind_eq_some_iff.mp H
      refine F_iald k8 hw hG d_Ref_chooseWrite_23 (gA_some hN7) (ix_some hk8) ?_
      refine J_istore d_Ref_chooseWrite_24 (Nat.le_of_ble_eq_true rfl) ?_
      refine J.ls (ls' := [some (.ref x0), some (.int x1), some (.int x2), some (.int x3), some (.int (φ.1 a6 k8)), none]) rfl ?_
      refine J_aload_n d_Ref_chooseWrite_26 rfl ?_
      refine J_iload d_Ref_chooseWrite_27 rfl ?_
      refine J_iload_n d_Ref_chooseWrite_29 rfl ?_
      obtain ⟨q9, hq9, H⟩ := Option.bind_eq_some_iff.mp H
      refine J_callV (kc := 0) (ks := 0) (kc' := 0) (ks' := 0) (a := x0) (ci := 12) (as := [.int (φ.1 a6 k8), .int x1]) (st := []) (mf_Ref_isWriteRipe hw) (mv_Ref_399 hw) d_Ref_chooseWrite_30 ln_Ref_isWriteRipe (by decide) (by first | exact Nat.le_of_ble_eq_true rfl | (simp only [List.map_cons, List.map_nil, List.sum_cons, List.sum_nil, va_rf_cat]; exact Nat.le_of_ble_eq_true rfl)) rfl ((hG _).1 _ g2 (by decide)).1 ((hG _).1 _ g2 (by decide)).2 (by unfold pic; rw [g2]; rfl) (jcl_at hw rfl) rfl (p_Ref_isWriteRipe hw hG hq9) ?_ (fun E h' n' x' e1 => by cases e1.1)
      intro v9 h9 n9 x9 e9
      obtain ⟨e91, e92, e93⟩ := e9
      cases e91
      subst e92
      subst e93
      clear x
      rename Bool => x
      show J _ _ _ _ (_ :: _) _ _ _ _ _ _
      refine J_if_eq (tgt := 66) d_Ref_chooseWrite_33 (by decide) ?_ ?_
      · intro c17
        rw [if_pos c17] at H
        refine J.drop [true, true, true, true, true, false] rfl ?_
        exact p_Ref_chooseWrite_L66 hw hG ih H
      · intro c17
        rw [if_neg c17] at H
        refine J_aload_n d_Ref_chooseWrite_36 rfl ?_
        refine F_getR (ci := 12) (k := 12) hG (cf_Ref hw) (fl_Ref_26 hw) (by decide) (by decide) rfl d_Ref_chooseWrite_37 g2 ?_
        refine J_iload_n d_Ref_chooseWrite_40 rfl ?_
        obtain ⟨a10, ha10, H⟩ := Option.bind_eq_some_iff.mp H
        rw [j_rf ha10]
        obtain ⟨N11, hN11, H⟩ := Option.bind_eq_some_iff.mp H
        obtain ⟨k12, hk12, H⟩ := Option.bind_eq_some_iff.mp H
        refine F_iald k12 hw hG d_Ref_chooseWrite_41 (gA_some hN11) (ix_some hk12) ?_
        refine J_if_ne (tgt := 52) d_Ref_chooseWrite_42 (by decide) ?_ ?_
        · intro c16
          rw [if_neg c16] at H
          refine J_aload_n d_Ref_chooseWrite_52 rfl ?_
          refine J_iload_n d_Ref_chooseWrite_53 rfl ?_
          refine J_iload_n d_Ref_chooseWrite_54 rfl ?_
          refine J_iconst (v := 1) d_Ref_chooseWrite_55 (by decide) ?_
          obtain ⟨q13, hq13, H⟩ := Option.bind_eq_some_iff.mp H
          refine J_callV (kc := 0) (ks := 0) (kc' := 0) (ks' := 0) (a := x0) (ci := 12) (as := [.int x1, .int x3, .int (1 : Int32)]) (st := []) (mf_Ref_isFirstWithId hw) (mv_Ref_402 hw) d_Ref_chooseWrite_56 ln_Ref_isFirstWithId (by decide) (by first | exact Nat.le_of_ble_eq_true rfl | (simp only [List.map_cons, List.map_nil, List.sum_cons, List.sum_nil, va_rf_cat]; exact Nat.le_of_ble_eq_true rfl)) rfl ((hG _).1 _ g2 (by decide)).1 ((hG _).1 _ g2 (by decide)).2 (by unfold pic; rw [g2]; rfl) (jcl_at hw rfl) rfl (p_Ref_isFirstWithId hw hG hq13) ?_ (fun E h' n' x' e1 => by cases e1.1)
          intro v9 h9 n9 x9 e9
          obtain ⟨e91, e92, e93⟩ := e9
          cases e91
          subst e92
          subst e93
          clear x
          rename Bool => x
          show J _ _ _ _ (_ :: _) _ _ _ _ _ _
          refine J_if_eq (tgt := 66) d_Ref_chooseWrite_59 (by decide) ?_ ?_
          · intro c14
            rw [if_pos c14] at H
            refine J.drop [true, true, true, true, true, false] rfl ?_
            exact p_Ref_chooseWrite_L66 hw hG ih H
          · intro c14
            rw [if_neg c14] at H
            refine J.drop [true, true, true, true, true, false] rfl ?_
            exact p_Ref_chooseWrite_L62 hw hG ih H
        · intro c16
          rw [if_pos c16] at H
          refine J_iload_n d_Ref_chooseWrite_45 rfl ?_
          refine J_if_ne (tgt := 66) d_Ref_chooseWrite_46 (by decide) ?_ ?_
          · intro c15
            rw [if_neg c15] at H
            refine J.drop [true, true, true, true, true, false] rfl ?_
            exact p_Ref_chooseWrite_L66 hw hG ih H
          · intro c15
            rw [if_pos c15] at H
            refine J_goto (tgt := 62) d_Ref_chooseWrite_49 (by decide) ?_
            refine J.drop [true, true, true, true, true, false] rfl ?_
            exact p_Ref_chooseWrite_L62 hw hG ih H
def f_Ref_chooseWrite (Γ : gm_T) (φ : ph_T) (this : Nat) (p0 : Int32) : Option (Int32 × ph_T) :=
  f_Ref_chooseWrite_L4 Γ  jF φ this p0 (-1 : Int32) (0 : Int32)
set_option maxRecDepth 100000 in
set_option maxHeartbeats 4000000 in
theorem p_Ref_chooseWrite {w : jw_T} (hw : jok w) {Γ : gm_T} {n : Nat} (hG : gd w Γ n) {x : Bool} {φ : ph_T} {this : Nat} {p0 : Int32} {q : Int32 × ph_T} (H : f_Ref_chooseWrite Γ φ this p0 = some q) : jc w M_Ref_chooseWrite [.ref this, .int p0] (pic Γ φ) n x 0 0 (fq Γ n (.inl (some (.int q.1))) q.2) := by
  refine jc.of (by simp only [jent_r, jent_i, jent_l, jent_a, jent_0]; exact Nat.le_of_ble_eq_true rfl) ?_
  have hls : jents [.ref this, .int p0] (jm_nL M_Ref_chooseWrite) = [some (.ref this), some (.int p0), none, none, none, none] := by simp only [jents, jent_r, jent_i, jent_l, jent_a, jent_0]; rfl
  rw [hls]
  clear hls
  unfold f_Ref_chooseWrite at H
  refine J_iconst (v := -1) d_Ref_chooseWrite_0 (by decide) ?_
  refine J_istore_n d_Ref_chooseWrite_1 (Nat.le_of_ble_eq_true rfl) ?_
  refine J.ls (ls' := [some (.ref this), some (.int p0), some (.int (-1 : Int32)), none, none, none]) rfl ?_
  refine J_iconst (v := 0) d_Ref_chooseWrite_2 (by decide) ?_
  refine J_istore_n d_Ref_chooseWrite_3 (Nat.le_of_ble_eq_true rfl) ?_
  refine J.ls (ls' := [some (.ref this), some (.int p0), some (.int (-1 : Int32)), some (.int (0 : Int32)), none, none]) rfl ?_
  refine J.drop [true, true, true, true, false, false] rfl ?_
  exact p_Ref_chooseWrite_L4 hw hG  _ H
